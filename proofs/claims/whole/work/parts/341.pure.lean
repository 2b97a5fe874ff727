def SS (fi bb : Int) (ed : Nat → Int) (k : Nat) : Int := if (k : Int) = fi then bb else ed (k - 1)
def FF (nr us : Int) (fr : Nat → Int) (k : Nat) : Int := if (k : Int) < nr then fr k else us
def RC (fi nr bb ee us : Int) (kd fr siz ed yb u : Nat → Int) : Prop :=
  (0 ≤ fi ∧ fi ≤ nr ∧ 0 ≤ bb) ∧
  (∀ j : Nat, 0 ≤ siz j ∧ siz j ≤ 600) ∧
  (∀ j : Nat, 0 ≤ ed j ∧ ed j ≤ 1000000000) ∧
  (∀ k : Nat, fi ≤ k → (k : Int) < nr → ed k = SS fi bb ed k + 3 + siz k) ∧
  (ee = SS fi bb ed nr.toNat) ∧
  (∀ k : Nat, fi ≤ k → (k : Int) < nr → rb u (SS fi bb ed k) = kd k ∧ bl u (SS fi bb ed k) = siz k) ∧
  (∀ k : Nat, fi ≤ k → (k : Int) < nr → ∀ i : Int, 0 ≤ i → i < siz k → rb u (SS fi bb ed k + 3 + i) = yb (fr k + i).toNat % 256) ∧
  (0 ≤ FF nr us fr fi.toNat) ∧
  (∀ k : Nat, fi ≤ k → (k : Int) < nr → FF nr us fr (k + 1) = FF nr us fr k + siz k) ∧
  (us ≤ 19000)
theorem RC.h0 {fi nr bb ee us : Int} {kd fr siz ed yb u : Nat → Int} (R9 : RC fi nr bb ee us kd fr siz ed yb u) : 0 ≤ fi ∧ fi ≤ nr ∧ 0 ≤ bb := R9.1
theorem RC.sz {fi nr bb ee us : Int} {kd fr siz ed yb u : Nat → Int} (R9 : RC fi nr bb ee us kd fr siz ed yb u) : ∀ j : Nat, 0 ≤ siz j ∧ siz j ≤ 600 := R9.2.1
theorem RC.ed0 {fi nr bb ee us : Int} {kd fr siz ed yb u : Nat → Int} (R9 : RC fi nr bb ee us kd fr siz ed yb u) : ∀ j : Nat, 0 ≤ ed j ∧ ed j ≤ 1000000000 := R9.2.2.1
theorem RC.st {fi nr bb ee us : Int} {kd fr siz ed yb u : Nat → Int} (R9 : RC fi nr bb ee us kd fr siz ed yb u) : ∀ k : Nat, fi ≤ k → (k : Int) < nr → ed k = SS fi bb ed k + 3 + siz k := R9.2.2.2.1
theorem RC.en {fi nr bb ee us : Int} {kd fr siz ed yb u : Nat → Int} (R9 : RC fi nr bb ee us kd fr siz ed yb u) : ee = SS fi bb ed nr.toNat := R9.2.2.2.2.1
theorem RC.hd {fi nr bb ee us : Int} {kd fr siz ed yb u : Nat → Int} (R9 : RC fi nr bb ee us kd fr siz ed yb u) : ∀ k : Nat, fi ≤ k → (k : Int) < nr → rb u (SS fi bb ed k) = kd k ∧ bl u (SS fi bb ed k) = siz k := R9.2.2.2.2.2.1
theorem RC.by_ {fi nr bb ee us : Int} {kd fr siz ed yb u : Nat → Int} (R9 : RC fi nr bb ee us kd fr siz ed yb u) : ∀ k : Nat, fi ≤ k → (k : Int) < nr → ∀ i : Int, 0 ≤ i → i < siz k → rb u (SS fi bb ed k + 3 + i) = yb (fr k + i).toNat % 256 := R9.2.2.2.2.2.2.1
theorem RC.fr0 {fi nr bb ee us : Int} {kd fr siz ed yb u : Nat → Int} (R9 : RC fi nr bb ee us kd fr siz ed yb u) : 0 ≤ FF nr us fr fi.toNat := R9.2.2.2.2.2.2.2.1
theorem RC.frs {fi nr bb ee us : Int} {kd fr siz ed yb u : Nat → Int} (R9 : RC fi nr bb ee us kd fr siz ed yb u) : ∀ k : Nat, fi ≤ k → (k : Int) < nr → FF nr us fr (k + 1) = FF nr us fr k + siz k := R9.2.2.2.2.2.2.2.2.1
theorem RC.us0 {fi nr bb ee us : Int} {kd fr siz ed yb u : Nat → Int} (R9 : RC fi nr bb ee us kd fr siz ed yb u) : us ≤ 19000 := R9.2.2.2.2.2.2.2.2.2
section RCS
variable {fi nr bb ee us : Int} {kd fr siz ed yb u : Nat → Int}
theorem SS_succ {fi bb : Int} {ed : Nat → Int} {k : Nat} (h : fi ≤ k) : SS fi bb ed (k + 1) = ed k := by
  unfold SS; rw [if_neg (by omega)]; rfl
theorem SS_fi {fi bb : Int} {ed : Nat → Int} (h : 0 ≤ fi) : SS fi bb ed fi.toNat = bb := by
  unfold SS; rw [if_pos (by omega)]
theorem RC.next (R : RC fi nr bb ee us kd fr siz ed yb u) {k : Nat} (h1 : fi ≤ k) (h2 : (k : Int) < nr) : SS fi bb ed (k + 1) = SS fi bb ed k + 3 + siz k := by
  rw [SS_succ h1, R.st k h1 h2]
theorem RC.erS (R : RC fi nr bb ee us kd fr siz ed yb u) {k : Nat} (h1 : fi ≤ k) (h2 : (k : Int) < nr) : er u (SS fi bb ed k) = SS fi bb ed (k + 1) := by
  unfold er
  rw [(R.hd k h1 h2).2, R.next h1 h2]
theorem RC.mono (R : RC fi nr bb ee us kd fr siz ed yb u) : ∀ (n k : Nat), fi ≤ k → ((k + n : Nat) : Int) ≤ nr → SS fi bb ed k + 3 * n ≤ SS fi bb ed (k + n)
  | 0, k, _, _ => by simp
  | n + 1, k, h1, h2 => by
    have h3 := R.mono n k h1 (by omega)
    have h4 := R.next (k := k + n) (by omega) (by omega)
    have h5 := R.sz (k + n)
    have h6 : SS fi bb ed (k + (n + 1)) = SS fi bb ed (k + n + 1) := rfl
    omega
theorem RC.le (R : RC fi nr bb ee us kd fr siz ed yb u) {j k : Nat} (h1 : fi ≤ j) (h2 : j ≤ k) (h3 : (k : Int) ≤ nr) : SS fi bb ed j + 3 * (k - j : Int) ≤ SS fi bb ed k := by
  have := R.mono (k - j) j h1 (by omega)
  rw [show j + (k - j) = k by omega] at this
  omega
theorem RC.toEnd (R : RC fi nr bb ee us kd fr siz ed yb u) {k : Nat} (h1 : fi ≤ k) (h2 : (k : Int) ≤ nr) : SS fi bb ed k + 3 * (nr - k) ≤ ee ∧ bb + 3 * (k - fi) ≤ SS fi bb ed k := by
  have h0 := R.h0
  have h3 := R.le (j := k) (k := nr.toNat) h1 (by omega) (by omega)
  have h4 := R.le (j := fi.toNat) (k := k) (by omega) (by omega) (by omega)
  rw [SS_fi h0.1] at h4
  rw [R.en]
  omega
theorem RC.cnt (R : RC fi nr bb ee us kd fr siz ed yb u) : bb + 3 * (nr - fi) ≤ ee := by
  have h0 := R.h0
  have := (R.toEnd (k := nr.toNat) (by omega) (by omega)).2
  rw [R.en]; omega
theorem RC.fmono (R : RC fi nr bb ee us kd fr siz ed yb u) : ∀ (n k : Nat), fi ≤ k → ((k + n : Nat) : Int) ≤ nr → FF nr us fr k ≤ FF nr us fr (k + n)
  | 0, k, _, _ => by simp
  | n + 1, k, h1, h2 => by
    have h3 := R.fmono n k h1 (by omega)
    have h4 := R.frs (k + n) (by omega) (by omega)
    have h5 := R.sz (k + n)
    have h6 : FF nr us fr (k + (n + 1)) = FF nr us fr (k + n + 1) := rfl
    omega
theorem RC.fle (R : RC fi nr bb ee us kd fr siz ed yb u) {j k : Nat} (h1 : fi ≤ j) (h2 : j ≤ k) (h3 : (k : Int) ≤ nr) : FF nr us fr j ≤ FF nr us fr k := by
  have := R.fmono (k - j) j h1 (by omega)
  rw [show j + (k - j) = k by omega] at this
  exact this
theorem RC.fin (R : RC fi nr bb ee us kd fr siz ed yb u) {k : Nat} (h1 : fi ≤ k) (h2 : (k : Int) ≤ nr) : 0 ≤ FF nr us fr k ∧ FF nr us fr k ≤ us := by
  have h0 := R.h0
  have h3 := R.fle (j := fi.toNat) (k := k) (by omega) (by omega) h2
  have h4 := R.fle (j := k) (k := nr.toNat) h1 (by omega) (by omega)
  have h5 : FF nr us fr nr.toNat = us := by unfold FF; rw [if_neg (by omega)]
  have := R.fr0
  omega
theorem RC.usz (R : RC fi nr bb ee us kd fr siz ed yb u) : 0 ≤ us := by
  have h0 := R.h0
  have := R.fin (k := fi.toNat) (by omega) (by omega)
  omega
theorem RC.frk (R : RC fi nr bb ee us kd fr siz ed yb u) {k : Nat} (h1 : fi ≤ k) (h2 : (k : Int) < nr) : 0 ≤ fr k ∧ fr k + siz k ≤ us := by
  have h3 := R.fin (k := k) h1 (by omega)
  have h4 := R.fin (k := k + 1) (by omega) (by omega)
  have h5 := R.frs k h1 h2
  have h6 : FF nr us fr k = fr k := by unfold FF; rw [if_pos h2]
  omega
theorem RC.sum (R : RC fi nr bb ee us kd fr siz ed yb u) : ∀ (n k : Nat), fi ≤ k → ((k + n : Nat) : Int) = nr → us - FF nr us fr k = ee - SS fi bb ed k - 3 * n
  | 0, k, _, h => by
    have h5 : FF nr us fr k = us := by unfold FF; rw [if_neg (by omega)]
    have h6 : ee = SS fi bb ed k := by rw [R.en]; congr 1; omega
    omega
  | n + 1, k, h1, h2 => by
    have h3 := R.sum n (k + 1) (by omega) (by omega)
    have h4 := R.next (k := k) (by omega) (by omega)
    have h5 := R.frs k (by omega) (by omega)
    omega
theorem RC.rc (R : RC fi nr bb ee us kd fr siz ed yb u) {fl : Int} {r : Nat} (hr : (r : Int) ≤ nr) (h2 : (r : Int) < nr → fl < SS fi bb ed (r + 1)) (h1 : ∀ j : Nat, fi ≤ j → j < r → SS fi bb ed (j + 1) ≤ fl) : ∀ (n k : Nat), fi ≤ k → k ≤ r → r ≤ k + n → rcE u ee fl n (SS fi bb ed k) = SS fi bb ed r ∧ rcN u ee fl n (SS fi bb ed k) = r - k
  | 0, k, _, a, b => by
    have e : k = r := by omega
    subst e
    exact ⟨rfl, by simp [rcN]⟩
  | n + 1, k, a0, a, b => by
    by_cases e : k = r
    · subst e
      have : ¬ (SS fi bb ed k < ee ∧ er u (SS fi bb ed k) ≤ fl) := by
        intro ⟨c1, c2⟩
        by_cases h : (k : Int) < nr
        · have := h2 h
          rw [R.erS a0 h] at c2
          omega
        · have : ee = SS fi bb ed k := by rw [R.en]; congr 1; omega
          omega
      have := rcE_stop (u := u) (en := ee) (fl := fl) (q := SS fi bb ed k) (n := n + 1) (Or.inr this)
      exact ⟨this.1, by rw [this.2]; omega⟩
    · have hk : (k : Int) < nr := by omega
      have c1 : SS fi bb ed k < ee := by have := (R.toEnd a0 (by omega : (k : Int) ≤ nr)).1; omega
      have c2 : er u (SS fi bb ed k) ≤ fl := by rw [R.erS a0 hk]; exact h1 k a0 (by omega)
      have ih := R.rc hr h2 h1 n (k + 1) (by omega) (by omega) (by omega)
      unfold rcE rcN
      rw [if_pos ⟨c1, c2⟩, if_pos ⟨c1, c2⟩, R.erS a0 hk, ih.1, ih.2]
      exact ⟨rfl, by omega⟩
theorem RC.ml (R : RC fi nr bb ee us kd fr siz ed yb u) {fd : Int} : ∀ (k : Nat) (n : Nat), (n : Int) - fi ≤ k → fi ≤ n → (n : Int) ≤ nr → (∀ j : Nat, n ≤ j → (j : Int) < nr → fd < ed j) →
    ∃ r : Nat, mlR ed fd fi k n = r ∧ mlU ed siz fd fi k n (FF nr us fr n) = FF nr us fr r ∧ fi ≤ r ∧ (r : Int) ≤ nr ∧ (∀ j : Nat, r ≤ j → (j : Int) < nr → fd < ed j) ∧ ((r : Int) = fi ∨ (fi < r ∧ ed (r - 1) ≤ fd))
  | 0, n, a, b, c, d => ⟨n, rfl, rfl, b, c, d, Or.inl (by omega)⟩
  | k + 1, n, a, b, c, d => by
    by_cases h : fi < n ∧ fd < ed ((n : Int) - 1).toNat
    · have e : ((n : Int) - 1) = ((n - 1 : Nat) : Int) := by have := R.h0; omega
      have e1 : ((n : Int) - 1).toNat = n - 1 := by omega
      have hn : 0 < n := by have := R.h0; omega
      have hf := R.frs (n - 1) (by omega) (by omega)
      rw [show n - 1 + 1 = n by omega] at hf
      obtain ⟨r, r1, r2, r3⟩ := R.ml (fd := fd) k (n - 1) (by omega) (by omega) (by omega) (fun j h1 h2 => by
        by_cases hj : j = n - 1
        · subst hj; rw [e1] at h; exact h.2
        · exact d j (by omega) h2)
      refine ⟨r, ?_, ?_, r3⟩
      · unfold mlR; rw [if_pos h, e]; exact r1
      · unfold mlU; rw [if_pos h, e1, e, hf, show FF nr us fr (n - 1) + siz (n - 1) - siz (n - 1) = FF nr us fr (n - 1) by omega]; exact r2
    · refine ⟨n, ?_, ?_, b, c, d, ?_⟩
      · unfold mlR; rw [if_neg h]
      · unfold mlU; rw [if_neg h]
      · by_cases h1 : (n : Int) = fi
        · exact Or.inl h1
        · refine Or.inr ⟨by omega, ?_⟩
          have : ((n : Int) - 1).toNat = n - 1 := by omega
          rw [this] at h
          omega
theorem RC.lose (R : RC fi nr bb ee us kd fr siz ed yb u) (fd : Int) (hb : nr ≤ 5334) :
    ∃ r : Nat, fi ≤ r ∧ (r : Int) ≤ nr ∧ mlR ed fd fi (nr - fi).toNat nr = r ∧ mlU ed siz fd fi (nr - fi).toNat nr us = FF nr us fr r ∧ rcE u ee fd 5334 bb = SS fi bb ed r ∧ rcN u ee fd 5334 bb = r - fi ∧ (if fi < (r : Int) then ed ((r : Int) - 1).toNat else bb) = SS fi bb ed r ∧ RC fi r bb (SS fi bb ed r) (FF nr us fr r) kd fr siz ed yb u := by
  have h0 := R.h0
  have e0 : ((nr.toNat : Nat) : Int) = nr := by omega
  have hF : FF nr us fr nr.toNat = us := by unfold FF; rw [if_neg (by omega)]
  obtain ⟨r, r1, r2, r3, r4, r5, r6⟩ := R.ml (fd := fd) (nr - fi).toNat nr.toNat (by omega) (by omega) (by omega) (fun j h1 h2 => by omega)
  rw [e0] at r1 r2
  rw [hF] at r2
  have hS : ∀ j : Nat, fi ≤ j → j < r → SS fi bb ed (j + 1) ≤ fd := by
    intro j a b
    rcases r6 with r6 | r6
    · omega
    · have := R.le (j := j + 1) (k := r) (by omega) (by omega) (by omega)
      have e : SS fi bb ed r = ed (r - 1) := by
        have := SS_succ (fi := fi) (bb := bb) (ed := ed) (k := r - 1) (by omega)
        rw [show r - 1 + 1 = r by omega] at this
        exact this
      omega
  obtain ⟨c1, c2⟩ := R.rc (fl := fd) r4 (fun h => by rw [SS_succ r3]; exact r5 r (Nat.le_refl r) h) hS 5334 fi.toNat (by omega) (by omega) (by omega)
  rw [SS_fi h0.1] at c1 c2
  refine ⟨r, r3, r4, r1, r2, c1, by omega, ?_, ?_⟩
  · by_cases h : fi < (r : Int)
    · rw [if_pos h]; unfold SS; rw [if_neg (by omega)]; congr 1; omega
    · rw [if_neg h]; unfold SS; rw [if_pos (by omega)]
  · have hFF : ∀ k : Nat, (k : Int) ≤ r → FF (r : Int) (FF nr us fr r) fr k = FF nr us fr k := by
      intro k hk
      by_cases e : (k : Int) < r
      · unfold FF; rw [if_pos e, if_pos (by omega)]
      · have : k = r := by omega
        subst this
        show (if _ then _ else _) = _
        rw [if_neg e]
    refine ⟨by omega, R.sz, R.ed0, fun k a b => R.st k a (by omega), by simp, fun k a b => R.hd k a (by omega), fun k a b => R.by_ k a (by omega), ?_, ?_, ?_⟩
    · rw [hFF _ (by omega)]; exact R.fr0
    · intro k a b; rw [hFF _ (by omega), hFF _ (by omega)]; exact R.frs k a (by omega)
    · have := (R.fin r3 r4).2; have := R.us0; omega
theorem RC.egS (R : RC fi nr bb ee us kd fr siz ed yb u) {x : Int} : ∀ (n k : Nat), fi ≤ k → (k : Int) ≤ nr → nr ≤ k + n → (eg u ee x n (SS fi bb ed k) = x ↔ ∃ j : Nat, k ≤ j ∧ (j : Int) ≤ nr ∧ SS fi bb ed j = x)
  | 0, k, a, b, c => by
    show SS fi bb ed k = x ↔ _
    constructor
    · intro h; exact ⟨k, Nat.le_refl k, b, h⟩
    · rintro ⟨j, h1, h2, h3⟩; rw [show k = j by omega]; exact h3
  | n + 1, k, a, b, c => by
    have hend := R.toEnd a b
    by_cases h : SS fi bb ed k < x ∧ SS fi bb ed k < ee
    · have hk : (k : Int) < nr := by
        by_cases e : (k : Int) < nr
        · exact e
        · have : ee = SS fi bb ed k := by rw [R.en]; congr 1; omega
          omega
      unfold eg
      rw [if_pos h, R.erS a hk, R.egS n (k + 1) (by omega) (by omega) (by omega)]
      constructor
      · rintro ⟨j, h1, h2, h3⟩; exact ⟨j, by omega, h2, h3⟩
      · rintro ⟨j, h1, h2, h3⟩
        refine ⟨j, ?_, h2, h3⟩
        by_cases e : j = k
        · subst e; omega
        · omega
    · unfold eg
      rw [if_neg h]
      constructor
      · intro h; exact ⟨k, Nat.le_refl k, b, h⟩
      · rintro ⟨j, h1, h2, h3⟩
        have h4 := R.le a h1 h2
        have h5 := (R.toEnd (k := j) (by omega) h2).1
        by_cases e : j = k
        · subst e; exact h3
        · omega
end RCS
def mAt (ed : Nat → Int) (x : Int) : Nat → Int → Int → Int
  | 0, _, a => a
  | n + 1, k, a => mAt ed x n (k + 1) (if ed k.toNat = x then k + 1 else a)
theorem mAt_step {ed : Nat → Int} {x k a m : Int} (h : 0 < m) : mAt ed x m.toNat k a = mAt ed x (m - 1).toNat (k + 1) (if ed k.toNat = x then k + 1 else a) := by
  rw [show m.toNat = (m - 1).toNat + 1 by omega]
  rfl
section RCS
variable {fi nr bb ee us : Int} {kd fr siz ed yb u : Nat → Int}
theorem RC.at_ (R : RC fi nr bb ee us kd fr siz ed yb u) {x : Int} : ∀ (n k : Nat) (a : Int), fi ≤ k → ((k + n : Nat) : Int) = nr → (a = -1 ∧ ∀ j : Nat, fi ≤ j → j ≤ k → SS fi bb ed j ≠ x) ∨ (fi ≤ a ∧ a ≤ k ∧ SS fi bb ed a.toNat = x) →
    (mAt ed x n k a = -1 ∧ ∀ j : Nat, fi ≤ j → (j : Int) ≤ nr → SS fi bb ed j ≠ x) ∨ (fi ≤ mAt ed x n k a ∧ mAt ed x n k a ≤ nr ∧ SS fi bb ed (mAt ed x n k a).toNat = x)
  | 0, k, a, h1, h2, h3 => by
    show (a = -1 ∧ _) ∨ (fi ≤ a ∧ a ≤ nr ∧ SS fi bb ed a.toNat = x)
    rcases h3 with ⟨h3, h4⟩ | ⟨h3, h4, h5⟩
    · exact Or.inl ⟨h3, fun j a b => h4 j a (by omega)⟩
    · exact Or.inr ⟨h3, by omega, h5⟩
  | n + 1, k, a, h1, h2, h3 => by
    have e : ((k : Int) + 1) = ((k + 1 : Nat) : Int) := by omega
    show (mAt ed x n ((k : Int) + 1) _ = -1 ∧ _) ∨ (fi ≤ mAt ed x n ((k : Int) + 1) _ ∧ mAt ed x n ((k : Int) + 1) _ ≤ nr ∧ SS fi bb ed (mAt ed x n ((k : Int) + 1) _).toNat = x)
    rw [e, Int.toNat_natCast]
    refine R.at_ n (k + 1) _ (by omega) (by omega) ?_
    have hS := SS_succ (fi := fi) (bb := bb) (ed := ed) (k := k) h1
    by_cases hx : ed k = x
    · rw [if_pos hx]
      refine Or.inr ⟨by omega, by omega, ?_⟩
      rw [Int.toNat_natCast, hS]; exact hx
    · rw [if_neg hx]
      rcases h3 with ⟨h3, h4⟩ | ⟨h3, h4, h5⟩
      · refine Or.inl ⟨h3, fun j a b => ?_⟩
        by_cases hj : j = k + 1
        · subst hj; rw [hS]; exact hx
        · exact h4 j a (by omega)
      · exact Or.inr ⟨h3, by omega, h5⟩
theorem RC.chk (R : RC fi nr bb ee us kd fr siz ed yb u) (x : Int) (hb : nr ≤ 5334) :
    (¬ (eg u ee x 5334 bb = x) ∧ mAt ed x (nr - fi).toNat fi (if x = bb then fi else -1) = -1) ∨
    (eg u ee x 5334 bb = x ∧ fi ≤ mAt ed x (nr - fi).toNat fi (if x = bb then fi else -1) ∧ mAt ed x (nr - fi).toNat fi (if x = bb then fi else -1) ≤ nr ∧ SS fi bb ed (mAt ed x (nr - fi).toNat fi (if x = bb then fi else -1)).toNat = x ∧ RC (mAt ed x (nr - fi).toNat fi (if x = bb then fi else -1)) nr x ee us kd fr siz ed yb u) := by
  have h0 := R.h0
  have e0 : ((fi.toNat : Nat) : Int) = fi := by omega
  have g := R.egS (x := x) 5334 fi.toNat (by omega) (by omega) (by omega)
  rw [SS_fi h0.1] at g
  have a := R.at_ (x := x) (nr - fi).toNat fi.toNat (if x = bb then fi else -1) (by omega) (by omega) (by
    by_cases h : x = bb
    · rw [if_pos h]; exact Or.inr ⟨Int.le_refl _, by omega, by rw [SS_fi h0.1]; exact h.symm⟩
    · rw [if_neg h]; exact Or.inl ⟨rfl, fun j a b => by rw [show j = fi.toNat by omega, SS_fi h0.1]; exact fun e => h e.symm⟩)
  rw [e0] at a
  generalize mAt ed x (nr - fi).toNat fi (if x = bb then fi else -1) = A at a ⊢
  rcases a with ⟨a1, a2⟩ | ⟨a1, a2, a3⟩
  · refine Or.inl ⟨fun h => ?_, a1⟩
    obtain ⟨j, j1, j2, j3⟩ := g.mp h
    exact a2 j (by omega) j2 j3
  · refine Or.inr ⟨g.mpr ⟨A.toNat, by omega, by omega, a3⟩, a1, a2, a3, ?_⟩
    have hSS : ∀ k : Nat, A ≤ k → SS A x ed k = SS fi bb ed k := by
      intro k hk
      by_cases e : (k : Int) = A
      · have : k = A.toNat := by omega
        subst this
        rw [a3]; unfold SS; rw [if_pos e]
      · unfold SS; rw [if_neg e, if_neg (by omega)]
    have hx : 0 ≤ x := by
      have := (R.toEnd (k := A.toNat) (by omega) (by omega)).2
      rw [← a3]; omega
    refine ⟨by omega, R.sz, R.ed0, ?_, ?_, ?_, ?_, ?_, ?_, R.us0⟩
    · intro k b c; rw [hSS k b]; exact R.st k (by omega) c
    · rw [hSS _ (by omega)]; exact R.en
    · intro k b c; rw [hSS k b]; exact R.hd k (by omega) c
    · intro k b c; rw [hSS k b]; exact R.by_ k (by omega) c
    · exact (R.fin (k := A.toNat) (by omega) (by omega)).1
    · intro k b c; exact R.frs k (by omega) c
end RCS
theorem rb_uP {u : Nat → Int} {x v y : Int} (h : y % 16000 = x % 16000) : rb (uP u x v) y = v % 256 := by
  unfold rb uP
  rw [h, va_up_self]
  have := Int.bmod_emod (x := v) (m := 256)
  simpa using this
theorem rb_uP_ne {u : Nat → Int} {x v y : Int} (h : y % 16000 ≠ x % 16000) : rb (uP u x v) y = rb u y := by
  unfold rb uP
  rw [va_up_ne _ _ (by omega)]
theorem rb_uW_ne {u : Nat → Int} {x y : Int} {f : Nat → Int} : ∀ (n : Nat), (∀ i : Nat, i < n → y % 16000 ≠ (x + i) % 16000) → rb (uW u x f n) y = rb u y
  | 0, _ => rfl
  | n + 1, h => by
    show rb (uP (uW u x f n) (x + n) (f n)) y = _
    rw [rb_uP_ne (h n (by omega)), rb_uW_ne n (fun i hi => h i (by omega))]
theorem rb_uW {u : Nat → Int} {x : Int} {f : Nat → Int} : ∀ (n : Nat), n ≤ 16000 → ∀ i : Nat, i < n → rb (uW u x f n) (x + i) = f i % 256
  | 0, _, _, h => by omega
  | n + 1, h0, i, h => by
    show rb (uP (uW u x f n) (x + n) (f n)) _ = _
    by_cases e : i = n
    · subst e; exact rb_uP rfl
    · rw [rb_uP_ne (by omega)]; exact rb_uW n (by omega) i (by omega)
def NewRec (u u' : Nat → Int) (bg en kind n : Int) (f : Nat → Int) : Prop :=
  (∀ y : Int, bg ≤ y → y < en → rb u' y = rb u y) ∧
  (rb u' en = kind) ∧
  (bl u' en = n) ∧
  (∀ i : Int, 0 ≤ i → i < n → rb u' (en + 3 + i) = f i.toNat % 256)
theorem NewRec.old {u u' : Nat → Int} {bg en kind n : Int} {f : Nat → Int} (R9 : NewRec u u' bg en kind n f) : ∀ y : Int, bg ≤ y → y < en → rb u' y = rb u y := R9.1
theorem NewRec.hk {u u' : Nat → Int} {bg en kind n : Int} {f : Nat → Int} (R9 : NewRec u u' bg en kind n f) : rb u' en = kind := R9.2.1
theorem NewRec.hl {u u' : Nat → Int} {bg en kind n : Int} {f : Nat → Int} (R9 : NewRec u u' bg en kind n f) : bl u' en = n := R9.2.2.1
theorem NewRec.hb {u u' : Nat → Int} {bg en kind n : Int} {f : Nat → Int} (R9 : NewRec u u' bg en kind n f) : ∀ i : Int, 0 ≤ i → i < n → rb u' (en + 3 + i) = f i.toNat % 256 := R9.2.2.2
theorem newRec {u : Nat → Int} {bg en kind n : Int} {f : Nat → Int} (hk : 0 ≤ kind ∧ kind < 256) (hn : 0 ≤ n ∧ n ≤ 600) (hw : bg ≤ en ∧ en + 3 + n ≤ bg + 16000) :
    NewRec u (uW (uP (uP (uP u en kind) (en + 1) (n / 256)) (en + 2) n) (en + 3) f n.toNat) bg en kind n f := by
  have h0 : ∀ y : Int, bg ≤ y → y < en + 3 → rb (uW (uP (uP (uP u en kind) (en + 1) (n / 256)) (en + 2) n) (en + 3) f n.toNat) y = rb (uP (uP (uP u en kind) (en + 1) (n / 256)) (en + 2) n) y := fun y a b => rb_uW_ne _ (fun i hi => by omega)
  refine ⟨fun y a b => ?_, ?_, ?_, fun i a b => ?_⟩
  · rw [h0 y a (by omega), rb_uP_ne (by omega), rb_uP_ne (by omega), rb_uP_ne (by omega)]
  · rw [h0 en (by omega) (by omega), rb_uP_ne (by omega), rb_uP_ne (by omega), rb_uP rfl]; omega
  · unfold bl
    rw [h0 (en + 1) (by omega) (by omega), h0 (en + 2) (by omega) (by omega), rb_uP rfl, rb_uP_ne (by omega), rb_uP rfl]; omega
  · have e : en + 3 + i = en + 3 + (i.toNat : Int) := by omega
    rw [e, rb_uW _ (by omega) _ (by omega)]
theorem newRec1 {u : Nat → Int} {bg en x : Int} (hw : bg ≤ en ∧ en + 4 ≤ bg + 16000) :
    NewRec u (uP (uP (uP (uP u en 15) (en + 1) (1 / 256)) (en + 2) 1) (en + 3) x) bg en 15 1 (fun _ => x) := by
  have := newRec (u := u) (bg := bg) (en := en) (kind := 15) (n := 1) (f := fun _ => x) (by omega) (by omega) (by omega)
  have e : uW (uP (uP (uP u en 15) (en + 1) (1 / 256)) (en + 2) 1) (en + 3) (fun _ => x) (1 : Int).toNat = uP (uP (uP (uP u en 15) (en + 1) (1 / 256)) (en + 2) 1) (en + 3) x := by
    show uP _ (en + 3 + ((0 : Nat) : Int)) x = _
    rw [show en + 3 + ((0 : Nat) : Int) = en + 3 by omega]; rfl
  rw [e] at this
  exact this
theorem RC.add {fi nr bb ee us : Int} {kd fr siz ed yb u : Nat → Int} (R : RC fi nr bb ee us kd fr siz ed yb u) {u' yb' f : Nat → Int} {kind n : Int} (hN : NewRec u u' bb ee kind n f) (hn : 0 ≤ n ∧ n ≤ 600) (hu : us + n ≤ 19000) (he : ee + 3 + n ≤ 1000000000) (hy0 : ∀ j : Nat, (j : Int) < us → yb' j = yb j) (hy1 : ∀ i : Int, 0 ≤ i → i < n → yb' (us + i).toNat % 256 = f i.toNat % 256) :
    RC fi (nr + 1) bb (ee + 3 + n) (us + n) (va_up kd nr.toNat kind) (va_up fr nr.toNat us) (va_up siz nr.toNat n) (va_up ed nr.toNat (ee + 3 + n)) yb' u' := by
  have h0 := R.h0
  have hus := R.usz
  have hee : bb ≤ ee := by have := R.cnt; omega
  have hne : ∀ k : Nat, (k : Int) < nr → k ≠ nr.toNat := fun k h => by omega
  have hSS : ∀ k : Nat, fi ≤ k → (k : Int) ≤ nr → SS fi bb (va_up ed nr.toNat (ee + 3 + n)) k = SS fi bb ed k := by
    intro k a b
    unfold SS
    by_cases e : (k : Int) = fi
    · rw [if_pos e, if_pos e]
    · rw [if_neg e, if_neg e, va_up_ne _ _ (by omega)]
  have hFF : ∀ k : Nat, (k : Int) ≤ nr → FF (nr + 1) (us + n) (va_up fr nr.toNat us) k = FF nr us fr k := by
    intro k b
    unfold FF
    rw [if_pos (by omega)]
    by_cases e : (k : Int) < nr
    · rw [if_pos e, va_up_ne _ _ (by omega)]
    · rw [if_neg e, show k = nr.toNat by omega, va_up_self]
  have hFl : FF nr us fr nr.toNat = us := by unfold FF; rw [if_neg (by omega)]
  have hSl : SS fi bb ed nr.toNat = ee := R.en.symm
  refine ⟨by omega, fun j => ?_, fun j => ?_, fun k a b => ?_, ?_, fun k a b => ?_, fun k a b i i0 i1 => ?_, ?_, fun k a b => ?_, hu⟩
  · by_cases e : j = nr.toNat
    · subst e; rw [va_up_self]; exact hn
    · rw [va_up_ne _ _ e]; exact R.sz j
  · by_cases e : j = nr.toNat
    · subst e; rw [va_up_self]; omega
    · rw [va_up_ne _ _ e]; exact R.ed0 j
  · rw [hSS k a (by omega)]
    by_cases e : (k : Int) < nr
    · rw [va_up_ne _ _ (hne k e), va_up_ne _ _ (hne k e)]; exact R.st k a e
    · obtain rfl : k = nr.toNat := by omega
      rw [va_up_self, va_up_self, hSl]
  · rw [show (nr + 1).toNat = nr.toNat + 1 by omega, SS_succ (by omega), va_up_self]
  · rw [hSS k a (by omega)]
    by_cases e : (k : Int) < nr
    · rw [va_up_ne _ _ (hne k e), va_up_ne _ _ (hne k e), ← (R.hd k a e).1, ← (R.hd k a e).2]
      have h1 := R.toEnd (k := k) a (by omega)
      have h2 := R.toEnd (k := k + 1) (by omega) (by omega)
      have h3 := R.next a e
      have h4 := R.sz k
      refine ⟨hN.old _ (by omega) (by omega), ?_⟩
      unfold bl
      rw [hN.old _ (by omega) (by omega), hN.old _ (by omega) (by omega)]
    · obtain rfl : k = nr.toNat := by omega
      rw [va_up_self, va_up_self, hSl]
      exact ⟨hN.hk, hN.hl⟩
  · rw [hSS k a (by omega)]
    by_cases e : (k : Int) < nr
    · rw [va_up_ne _ _ (hne k e)] at i1 ⊢
      have h1 := R.toEnd (k := k) a (by omega)
      have h2 := R.toEnd (k := k + 1) (by omega) (by omega)
      have h3 := R.next a e
      have h4 := R.frk a e
      rw [hN.old _ (by omega) (by omega), hy0 _ (by omega)]
      exact R.by_ k a e i i0 i1
    · obtain rfl : k = nr.toNat := by omega
      rw [va_up_self] at i1 ⊢
      rw [hSl, hN.hb i i0 i1, hy1 i i0 i1]
  · rw [hFF _ (by omega)]; exact R.fr0
  · by_cases e : (k : Int) < nr
    · rw [hFF _ (by omega), hFF _ (by omega), va_up_ne _ _ (hne k e)]; exact R.frs k a e
    · obtain rfl : k = nr.toNat := by omega
      rw [hFF nr.toNat (by omega), va_up_self, hFl]
      unfold FF; rw [if_neg (by omega)]
theorem RC.shrink {fi nr bb ee us : Int} {kd fr siz ed yb u : Nat → Int} (R : RC fi nr bb ee us kd fr siz ed yb u) {kd' fr' siz' ed' yb' : Nat → Int}
    (h1 : ∀ j : Nat, (j : Int) < nr - fi → kd' j = kd (j + fi.toNat)) (h2 : ∀ j : Nat, (j : Int) < nr - fi → fr' j = fr (j + fi.toNat) - FF nr us fr fi.toNat) (h3 : ∀ j : Nat, siz' j = if (j : Int) < nr - fi then siz (j + fi.toNat) else siz j) (h4 : ∀ j : Nat, ed' j = if (j : Int) < nr - fi then ed (j + fi.toNat) else ed j) (h5 : ∀ j : Nat, (j : Int) < us - FF nr us fr fi.toNat → yb' j % 256 = yb (j + (FF nr us fr fi.toNat).toNat) % 256) :
    RC 0 (nr - fi) bb ee (us - FF nr us fr fi.toNat) kd' fr' siz' ed' yb' u := by
  have h0 := R.h0
  have hf := R.fr0
  have hSS : ∀ k : Nat, (k : Int) ≤ nr - fi → SS 0 bb ed' k = SS fi bb ed (k + fi.toNat) := by
    intro k b
    unfold SS
    by_cases e : k = 0
    · subst e; rw [if_pos (by omega), if_pos (by omega)]
    · rw [if_neg (by omega), if_neg (by omega), h4, if_pos (by omega)]; congr 1; omega
  have hFF : ∀ k : Nat, (k : Int) ≤ nr - fi → FF (nr - fi) (us - FF nr us fr fi.toNat) fr' k = FF nr us fr (k + fi.toNat) - FF nr us fr fi.toNat := by
    intro k b
    by_cases e : (k : Int) < nr - fi
    · have e1 : FF (nr - fi) (us - FF nr us fr fi.toNat) fr' k = fr' k := by unfold FF; rw [if_pos e]
      have e2 : FF nr us fr (k + fi.toNat) = fr (k + fi.toNat) := by unfold FF; rw [if_pos (by omega)]
      rw [e1, e2, h2 k e]
    · have e1 : FF (nr - fi) (us - FF nr us fr fi.toNat) fr' k = us - FF nr us fr fi.toNat := by
        show (if _ then _ else _) = _
        rw [if_neg e]
      have e2 : FF nr us fr (k + fi.toNat) = us := by unfold FF; rw [if_neg (by omega)]
      rw [e1, e2]
  refine ⟨by omega, fun j => ?_, fun j => ?_, fun k a b => ?_, ?_, fun k a b => ?_, fun k a b i i0 i1 => ?_, ?_, fun k a b => ?_, ?_⟩
  · rw [h3]; split
    · exact R.sz _
    · exact R.sz _
  · rw [h4]; split
    · exact R.ed0 _
    · exact R.ed0 _
  · rw [hSS k (by omega), h4, h3, if_pos b, if_pos b]; exact R.st _ (by omega) (by omega)
  · rw [hSS _ (by omega), R.en]; congr 1; omega
  · rw [hSS k (by omega), h1 k b, h3, if_pos b]; exact R.hd _ (by omega) (by omega)
  · rw [h3, if_pos b] at i1
    have q1 := R.frk (k := k + fi.toNat) (by omega) (by omega)
    have q2 := R.fle (j := fi.toNat) (k := k + fi.toNat) (by omega) (by omega) (by omega)
    have q3 : FF nr us fr (k + fi.toNat) = fr (k + fi.toNat) := by unfold FF; rw [if_pos (by omega)]
    rw [hSS k (by omega), h2 k b, h5 _ (by omega), R.by_ _ (by omega) (by omega) i i0 i1]
    congr 2
    omega
  · rw [hFF _ (by omega)]
    have : (0 : Int).toNat + fi.toNat = fi.toNat := by omega
    rw [this]; omega
  · rw [hFF _ (by omega), hFF _ (by omega), h3, if_pos b]
    have := R.frs (k + fi.toNat) (by omega) (by omega)
    rw [show k + 1 + fi.toNat = k + fi.toNat + 1 by omega]
    omega
  · have := R.us0; omega
theorem fl_same {ee x : Int} : ∀ (n : Nat) (b wr lf fl k : Int) (n' : Nat), b = fl / 500 → 0 ≤ fl → fl < x → x ≤ ee → (n : Int) = (x - 1) / 500 + 1 - b → x - fl ≤ n' → -1 ≤ lf → lf < 1000 → 0 ≤ wr →
    (mflG ee x n' wr lf fl k).1 = (flG ee n b wr lf fl).1 ∧ (mflG ee x n' wr lf fl k).2.1 = (flG ee n b wr lf fl).2.1 ∧ (mflG ee x n' wr lf fl k).2.2.1 = (flG ee n b wr lf fl).2.2.1 ∧ (mflG ee x n' wr lf fl k).2.2.2.2 = (flG ee n b wr lf fl).2.2.2 ∧
    ((flG ee n b wr lf fl).2.2.2 = 1 ∨ ((flG ee n b wr lf fl).2.2.2 = 0 ∧ (mflG ee x n' wr lf fl k).2.2.2.1 = k + n)) ∧ (-1 ≤ (flG ee n b wr lf fl).2.1 ∧ (flG ee n b wr lf fl).2.1 < 1000) ∧ (0 ≤ (flG ee n b wr lf fl).1 ∧ (flG ee n b wr lf fl).1 ≤ wr + n) ∧ (0 ≤ (flG ee n b wr lf fl).2.2.1 ∧ (flG ee n b wr lf fl).2.2.1 ≤ ee)
  | 0, b, wr, lf, fl, k, n', h1, h2, h3, h4, h5, _, _, _, _ => by omega
  | n + 1, b, wr, lf, fl, k, 0, h1, h2, h3, h4, h5, h6, _, _, _ => by omega
  | n + 1, b, wr, lf, fl, k, n' + 1, h1, h2, h3, h4, h5, h6, h7, h8, h9 => by
    by_cases hz : lf = 0
    · have e1 : flG ee (n + 1) b wr lf fl = (wr, lf, fl, 1) := flG_cut (by omega) hz
      have e2 : mflG ee x (n' + 1) wr lf fl k = (wr, lf, fl, k, 1) := mflG_cut (by omega) h3 hz
      rw [e1, e2]
      exact ⟨rfl, rfl, rfl, rfl, Or.inl rfl, ⟨h7, h8⟩, ⟨h9, by show wr ≤ _; omega⟩, ⟨h2, by show fl ≤ _; omega⟩⟩
    · have e1 : flG ee (n + 1) b wr lf fl = flG ee n (b + 1) (wr + 1) (if 0 < lf then lf - 1 else lf) (if ee < (b + 1) * 500 then ee else (b + 1) * 500) := by
        show (if _ then _ else _) = _
        rw [if_neg hz]
      have e2 : mflG ee x (n' + 1) wr lf fl k = mflG ee x n' (wr + 1) (if 0 < lf then lf - 1 else lf) (if 500 * (fl / 500 + 1) < ee then 500 * (fl / 500 + 1) else ee) (k + 1) := by
        show (if _ then (if _ then _ else _) else _) = _
        rw [if_pos h3, if_neg hz]
      have e3 : (if 500 * (fl / 500 + 1) < ee then 500 * (fl / 500 + 1) else ee) = (if ee < (b + 1) * 500 then ee else (b + 1) * 500) := by
        split <;> split <;> omega
      rw [e1, e2, e3]
      have hl1 : -1 ≤ (if 0 < lf then lf - 1 else lf) ∧ (if 0 < lf then lf - 1 else lf) < 1000 := by split <;> omega
      generalize (if 0 < lf then lf - 1 else lf) = lf' at hl1 ⊢
      by_cases hc : n = 0
      · subst hc
        have hx : ¬ (if ee < (b + 1) * 500 then ee else (b + 1) * 500) < x := by split <;> omega
        have hff : 0 ≤ (if ee < (b + 1) * 500 then ee else (b + 1) * 500) ∧ (if ee < (b + 1) * 500 then ee else (b + 1) * 500) ≤ ee := by split <;> omega
        generalize (if ee < (b + 1) * 500 then ee else (b + 1) * 500) = ff at hx hff ⊢
        rw [mflG_end (Or.inr hx)]
        exact ⟨rfl, rfl, rfl, rfl, Or.inr ⟨rfl, by show k + 1 = _; omega⟩, hl1, ⟨by show 0 ≤ wr + 1; omega, by show wr + 1 ≤ _; omega⟩, hff⟩
      · have hb : ¬ ee < (b + 1) * 500 := by omega
        rw [if_neg hb]
        have ih := fl_same (ee := ee) (x := x) n (b + 1) (wr + 1) lf' ((b + 1) * 500) (k + 1) n' (by omega) (by omega) (by omega) h4 (by omega) (by omega) hl1.1 hl1.2 (by omega)
        obtain ⟨a1, a2, a3, a4, a5, a6, a7, a8⟩ := ih
        refine ⟨a1, a2, a3, a4, ?_, a6, ⟨a7.1, by omega⟩, a8⟩
        rcases a5 with a5 | ⟨a5, a9⟩
        · exact Or.inl a5
        · exact Or.inr ⟨a5, by omega⟩
theorem wfst_same {ge wt : Nat → Int} : ∀ n : Nat, (∀ j : Nat, j < n → (ge j = 0 ∧ wt j = -1) ∨ (0 < ge j ∧ wt j = ge j)) → wfst ge n = mfst wt n ∧ (0 ≤ wfst ge n → 0 < ge (wfst ge n).toNat)
  | 0, _ => ⟨rfl, fun h => by simp [wfst] at h⟩
  | n + 1, h => by
    obtain ⟨i1, i2⟩ := wfst_same n (fun j hj => h j (by omega))
    have hn := h n (by omega)
    have hin := wfst_in ge n
    unfold wfst mfst
    rw [← i1]
    have hf : 0 ≤ wfst ge n → wt (wfst ge n).toNat = ge (wfst ge n).toNat := by
      intro h0
      have := h (wfst ge n).toNat (by omega)
      have := i2 h0
      omega
    have hP : (ge n ≠ 0 ∧ (wfst ge n = -1 ∨ ge n < ge (wfst ge n).toNat)) ↔ (0 ≤ wt n ∧ (wfst ge n < 0 ∨ wt n < wt (wfst ge n).toNat)) := by
      by_cases h0 : 0 ≤ wfst ge n
      · rw [hf h0]; omega
      · omega
    by_cases hc : ge n ≠ 0 ∧ (wfst ge n = -1 ∨ ge n < ge (wfst ge n).toNat)
    · rw [if_pos hc, if_pos (hP.mp hc)]
      refine ⟨rfl, fun _ => ?_⟩
      rw [Int.toNat_natCast]; omega
    · rw [if_neg hc, if_neg (fun q => hc (hP.mpr q))]
      exact ⟨rfl, i2⟩
def mcnt (g : Nat → Int) : Nat → Int
  | 0 => 0
  | n + 1 => mcnt g n + if 0 ≤ g n then 1 else 0
theorem mcnt_step {g : Nat → Int} {i : Int} (h0 : 0 ≤ i) : mcnt g (i + 1).toNat = mcnt g i.toNat + if 0 ≤ g i.toNat then 1 else 0 := by
  have e : (i + 1).toNat = i.toNat + 1 := by omega
  rw [e]
  rfl
theorem wcnt_same {ge wt : Nat → Int} : ∀ n : Nat, (∀ j : Nat, j < n → (ge j = 0 ∧ wt j = -1) ∨ (0 < ge j ∧ wt j = ge j)) → wcnt ge n = mcnt wt n
  | 0, _ => rfl
  | n + 1, h => by
    have ih := wcnt_same n (fun j hj => h j (by omega))
    have hn := h n (by omega)
    unfold wcnt mcnt
    rw [ih]
    congr 1
    by_cases e : ge n = 0
    · rw [if_neg (by omega), if_neg (by omega)]
    · rw [if_pos e, if_pos (by omega)]
theorem wcnt_up {g : Nat → Int} {k : Nat} (hk : g k = 0) : ∀ n : Nat, wcnt (va_up g k 1) n = wcnt g n + if k < n then 1 else 0
  | 0 => by simp [wcnt]
  | n + 1 => by
    have ih := wcnt_up hk n
    unfold wcnt
    rw [ih]
    by_cases e : n = k
    · subst e; rw [va_up_self, hk]; simp
    · rw [va_up_ne _ _ e]
      by_cases h : k < n
      · rw [if_pos h, if_pos (show k < n + 1 by omega)]; omega
      · rw [if_neg h, if_neg (show ¬ k < n + 1 by omega)]; omega
theorem wcnt_0 {g : Nat → Int} : ∀ n : Nat, (∀ j : Nat, j < n → g j = 0) → wcnt g n = 0
  | 0, _ => rfl
  | n + 1, h => by
    unfold wcnt
    rw [wcnt_0 n (fun j hj => h j (by omega)), h n (by omega)]; rfl
theorem wcnt_in (g : Nat → Int) : ∀ n : Nat, 0 ≤ wcnt g n ∧ wcnt g n ≤ n
  | 0 => by simp [wcnt]
  | n + 1 => by
    have := wcnt_in g n
    unfold wcnt
    split <;> omega
def pB (x : Int) : Int64 := 1 <<< ((iZ (x % 64)).toInt64 &&& 63)
theorem i64_63 (s : Int64) : ((s &&& 63).toBitVec.toNat) = s.toBitVec.toNat % 64 := by
  have : (s &&& 63).toBitVec = s.toBitVec &&& (BitVec.ofNat 64 63) := rfl
  rw [this, BitVec.toNat_and]
  exact Nat.and_two_pow_sub_one_eq_mod _ 6
theorem iZ64 {a : Int} (h0 : 0 ≤ a) (h1 : a < 64) : (iZ a).toInt64.toBitVec.toNat = a.toNat := by
  have h : (iZ a).toInt64.toInt = a := by rw [Int32.toInt_toInt64, iZ_toInt ⟨by omega, by omega⟩]
  have h2 : (iZ a).toInt64.toBitVec.toInt = a := h
  rw [BitVec.toInt_eq_toNat_cond] at h2
  split at h2 <;> omega
theorem smod64 {b : BitVec 64} {t : Nat} (h : b.toNat = t) (ht : t < 64) : (b.smod (BitVec.ofNat 64 64)).toNat = t := by
  have h1 : b.toInt = t := by rw [BitVec.toInt_eq_toNat_cond]; split <;> omega
  have h2 : (b.smod (BitVec.ofNat 64 64)).toInt = t := by
    rw [BitVec.toInt_smod, h1]
    show (t : Int).fmod 64 = t
    rw [Int.fmod_eq_emod_of_nonneg _ (by decide)]
    omega
  rw [BitVec.toInt_eq_toNat_cond] at h2
  split at h2 <;> omega
theorem pB_bit {x : Int} (i : Nat) : (pB x).toBitVec.getLsbD i = decide (i = (x % 64).toNat) := by
  have hn : (((iZ (x % 64)).toInt64 &&& 63).toBitVec).toNat = (x % 64).toNat := by
    rw [i64_63, iZ64 (by omega) (by omega)]; omega
  have e : (pB x).toBitVec = ((BitVec.ofNat 64 1)) <<< ((((iZ (x % 64)).toInt64 &&& 63).toBitVec).smod (BitVec.ofNat 64 64)) := rfl
  rw [e, BitVec.shiftLeft_eq', smod64 hn (by omega), BitVec.getLsbD_shiftLeft]
  have h64 : (x % 64).toNat < 64 := by omega
  generalize (x % 64).toNat = t at h64
  by_cases h : i = t
  · subst h; simp [h64]
  · rcases Nat.lt_or_ge i t with h1 | h1
    · simp [h, h1]
    · have : ¬ (i < t) := by omega
      have h2 : i - t ≠ 0 := by omega
      simp [h, BitVec.getLsbD_one]
      omega
theorem i64_eq {a b : Int64} (h : a.toBitVec = b.toBitVec) : a = b := Int64.toBitVec_inj.mp h
theorem pB_and {p : Int64} {x : Int} : (p &&& pB x) = 0 ↔ p.toBitVec.getLsbD (x % 64).toNat = false := by
  have h64 : (x % 64).toNat < 64 := by omega
  constructor
  · intro h
    have h1 : (p &&& pB x).toBitVec.getLsbD (x % 64).toNat = false := by rw [h]; simp
    have h2 : (p &&& pB x).toBitVec = p.toBitVec &&& (pB x).toBitVec := rfl
    rw [h2, BitVec.getLsbD_and, pB_bit] at h1
    simpa using h1
  · intro h
    apply i64_eq
    have h2 : (p &&& pB x).toBitVec = p.toBitVec &&& (pB x).toBitVec := rfl
    rw [h2]
    apply BitVec.eq_of_getLsbD_eq
    intro i hi
    rw [BitVec.getLsbD_and, pB_bit]
    by_cases e : i = (x % 64).toNat
    · subst e; rw [h]; simp
    · simp [e]
theorem pB_or {p : Int64} {x y : Int} : ((p ||| pB x) &&& pB y) = 0 ↔ (y % 64 ≠ x % 64 ∧ (p &&& pB y) = 0) := by
  rw [pB_and, pB_and]
  have h2 : (p ||| pB x).toBitVec = p.toBitVec ||| (pB x).toBitVec := rfl
  rw [h2, BitVec.getLsbD_or, pB_bit]
  simp only [Bool.or_eq_false_iff, decide_eq_false_iff_not]
  constructor
  · rintro ⟨a, b⟩; exact ⟨fun e => b (by rw [e]), a⟩
  · rintro ⟨a, b⟩; exact ⟨b, fun e => a (by omega)⟩
theorem pB_0 {y : Int} : ((0 : Int64) &&& pB y) = 0 := by rw [pB_and]; simp
theorem i64_low (x : Int64) : x.toInt32.toInt % 256 = ((x.toBitVec.setWidth 8).toNat : Int) := by
  have h : x.toInt32.toBitVec = x.toBitVec.setWidth 32 := by
    show x.toBitVec.signExtend 32 = _
    rw [BitVec.signExtend_eq_setWidth_of_le _ (by decide)]
  have h2 : x.toInt32.toInt = x.toInt32.toBitVec.toInt := rfl
  rw [h2, h, BitVec.toInt_eq_toNat_cond, BitVec.toNat_setWidth, BitVec.toNat_setWidth]
  split <;> omega
theorem lb_same (v : Int64) {r : Int} (h0 : 0 ≤ r) (h1 : r < 8) : lb v r % 256 = mlb v r % 256 := by
  unfold lb mlb
  rw [i64_low, i64_low]
  congr 2
  have hn : ((iZ (8 * r)).toInt64.toBitVec).toNat = (8 * r).toNat := iZ64 (by omega) (by omega)
  have e1 : ((v.toUInt64 >>> ((iZ (8 * r)).toInt64.toUInt64 &&& Int64.toUInt64 63)).toInt64).toBitVec = v.toBitVec >>> (((iZ (8 * r)).toInt64.toBitVec &&& (BitVec.ofNat 64 63)) % (BitVec.ofNat 64 64)) := rfl
  have e2 : ((v >>> ((iZ (8 * r)).toInt64 &&& 63)) &&& (255 : Int64)).toBitVec = (v.toBitVec.sshiftRight' (((iZ (8 * r)).toInt64 &&& 63).toBitVec.smod (BitVec.ofNat 64 64))) &&& (BitVec.ofNat 64 255) := rfl
  rw [e1, e2]
  have n1 : (((iZ (8 * r)).toInt64.toBitVec &&& (BitVec.ofNat 64 63)) % (BitVec.ofNat 64 64)).toNat = (8 * r).toNat := by
    have := i64_63 (iZ (8 * r)).toInt64
    have e3 : ((iZ (8 * r)).toInt64 &&& 63).toBitVec = (iZ (8 * r)).toInt64.toBitVec &&& (BitVec.ofNat 64 63) := rfl
    rw [e3] at this
    rw [BitVec.toNat_umod, this, hn]
    show (8 * r).toNat % 64 % 64 = _
    omega
  have n2 : (((iZ (8 * r)).toInt64 &&& 63).toBitVec.smod (BitVec.ofNat 64 64)).toNat = (8 * r).toNat := smod64 (by rw [i64_63, hn]; omega) (by omega)
  apply BitVec.eq_of_getLsbD_eq
  intro i hi
  rw [BitVec.getLsbD_setWidth, BitVec.getLsbD_setWidth, BitVec.ushiftRight_eq', n1, BitVec.getLsbD_ushiftRight, BitVec.getLsbD_and, BitVec.sshiftRight_eq', n2, BitVec.getLsbD_sshiftRight]
  have h5 : (8 * r).toNat + i < 64 := by omega
  have h6 : ((BitVec.ofNat 64 255)).getLsbD i = true := by
    have : i = 0 ∨ i = 1 ∨ i = 2 ∨ i = 3 ∨ i = 4 ∨ i = 5 ∨ i = 6 ∨ i = 7 := by omega
    rcases this with rfl | rfl | rfl | rfl | rfl | rfl | rfl | rfl <;> rfl
  have h7 : ¬ 64 ≤ i := by omega
  simp [h6, h5, h7]
theorem pU_same (v : Int64) : ∀ (r : Nat) (c : Int) (u hd : Nat → Int), r ≤ 8 → 0 ≤ c → (∀ j : Nat, (j : Int) < c → u j % 256 = hd j % 256) → ∀ j : Nat, (j : Int) < c + r → pU v r c u j % 256 = mpU v r c hd j % 256
  | 0, c, u, hd, _, _, h => fun j hj => h j (by omega)
  | r + 1, c, u, hd, h8, h0, h => fun j hj => by
    show pU v r (c + 1) (va_up u c.toNat (Int.bmod (lb v r) 256)) j % 256 = mpU v r (c + 1) (va_up hd c.toNat (mlb v r)) j % 256
    refine pU_same v r (c + 1) _ _ (by omega) (by omega) (fun i hi => ?_) j (by omega)
    by_cases e : i = c.toNat
    · subst e
      rw [va_up_self, va_up_self, ← lb_same v (by omega) (by omega)]
      have := Int.bmod_emod (x := lb v r) (m := 256)
      simpa using this
    · rw [va_up_ne _ _ e, va_up_ne _ _ e]; exact h i (by omega)
abbrev DS : Type := Int × Int × Int × Int × Int × Int × Int × Int × Int × (Nat → Int) × (Nat → Int) × (Nat → Int) × (Nat → Int64)
abbrev MS : Type := Int × Int × Int × Int × Int × Int × Int × Int × Int × Int × Int × Int × (Nat → Int) × (Nat → Int) × (Nat → Int) × (Nat → Int) × (Nat → Int) × (Nat → Int) × (Nat → Int) × (Nat → Int)
def Rel (c : Int) (d : DS) (m : MS) : Prop :=
  (0 ≤ c ∧ c ≤ 512) ∧
  (d.1 = m.2.1 ∧ 3 ≤ d.1 ∧ d.1 ≤ 32) ∧
  (d.2.1 = m.2.2.2.2.2.2.1 ∧ d.2.2.1 = m.2.2.2.2.2.2.2.1 ∧ d.2.2.2.1 = m.2.2.2.2.2.2.2.2.1 ∧ d.2.2.2.2.2.2.2.1 = m.2.2.2.2.2.2.2.2.2.1 ∧ d.2.2.2.2.2.2.2.2.1 = m.2.2.2.2.2.2.2.2.2.2.1 ∧ d.2.2.2.2.2.1 = m.2.2.2.2.2.1) ∧
  (0 ≤ d.2.1 ∧ d.2.1 ≤ d.2.2.1 ∧ d.2.2.1 ≤ 603 * c ∧ 0 ≤ d.2.2.2.1 ∧ d.2.2.2.1 ≤ d.2.2.1) ∧
  (-1 ≤ d.2.2.2.2.2.2.2.2.1 ∧ d.2.2.2.2.2.2.2.2.1 < 1000 ∧ 0 ≤ d.2.2.2.2.2.2.2.1 ∧ d.2.2.2.2.2.2.2.1 ≤ 1000 * c) ∧
  (0 ≤ d.2.2.2.2.2.1 ∧ d.2.2.2.2.2.1 ≤ 600) ∧
  (∀ j : Nat, (j : Int) < d.2.2.2.2.2.1 → d.2.2.2.2.2.2.2.2.2.1 j % 256 = m.2.2.2.2.2.2.2.2.2.2.2.2.2.2.2.2.2.1 j % 256) ∧
  (∀ j : Nat, 0 ≤ d.2.2.2.2.2.2.2.2.2.2.1 j ∧ d.2.2.2.2.2.2.2.2.2.2.1 j < 1000000000) ∧
  (∀ j : Nat, -1 ≤ m.2.2.2.2.2.2.2.2.2.2.2.2.2.2.2.2.2.2.1 j ∧ m.2.2.2.2.2.2.2.2.2.2.2.2.2.2.2.2.2.2.1 j < 1000000000) ∧
  (∀ j : Nat, j < 6 → (d.2.2.2.2.2.2.2.2.2.2.1 j = 0 ∧ m.2.2.2.2.2.2.2.2.2.2.2.2.2.2.2.2.2.2.1 j = -1) ∨ (0 < d.2.2.2.2.2.2.2.2.2.2.1 j ∧ m.2.2.2.2.2.2.2.2.2.2.2.2.2.2.2.2.2.2.1 j = d.2.2.2.2.2.2.2.2.2.2.1 j)) ∧
  (∀ j : Nat, m.2.2.2.2.2.2.2.2.2.2.2.2.2.2.2.2.2.2.2 j = 0 ∨ m.2.2.2.2.2.2.2.2.2.2.2.2.2.2.2.2.2.2.2 j = 1) ∧
  (∀ x : Int, 0 ≤ x → x < 2048 → ((d.2.2.2.2.2.2.2.2.2.2.2.2 (x / 64).toNat &&& pB x) = 0 ↔ m.2.2.2.2.2.2.2.2.2.2.2.2.2.2.2.2.2.2.2 x.toNat = 0)) ∧
  (d.2.2.2.2.2.2.1 = wcnt m.2.2.2.2.2.2.2.2.2.2.2.2.2.2.2.2.2.2.2 2048) ∧
  (RC m.2.2.2.2.1 m.2.2.1 m.2.2.2.2.2.2.1 m.2.2.2.2.2.2.2.1 m.2.2.2.1 m.2.2.2.2.2.2.2.2.2.2.2.2.1 m.2.2.2.2.2.2.2.2.2.2.2.2.2.1 m.2.2.2.2.2.2.2.2.2.2.2.2.2.2.1 m.2.2.2.2.2.2.2.2.2.2.2.2.2.2.2.1 m.2.2.2.2.2.2.2.2.2.2.2.2.2.2.2.2.1 d.2.2.2.2.2.2.2.2.2.2.2.1) ∧
  (m.2.2.1 ≤ c) ∧
  ((d.2.2.2.2.1 = -1 ∧ m.2.2.2.2.2.2.2.2.2.2.2.1 = m.2.2.2.2.1 - 1) ∨ (m.2.2.2.2.1 ≤ m.2.2.2.2.2.2.2.2.2.2.2.1 ∧ m.2.2.2.2.2.2.2.2.2.2.2.1 < m.2.2.1 ∧ d.2.2.2.2.1 = SS m.2.2.2.2.1 m.2.2.2.2.2.2.1 m.2.2.2.2.2.2.2.2.2.2.2.2.2.2.2.1 m.2.2.2.2.2.2.2.2.2.2.2.1.toNat))
theorem Rel.hc {c : Int} {d : DS} {m : MS} (R9 : Rel c d m) : 0 ≤ c ∧ c ≤ 512 := R9.1
theorem Rel.hN {c : Int} {d : DS} {m : MS} (R9 : Rel c d m) : d.1 = m.2.1 ∧ 3 ≤ d.1 ∧ d.1 ≤ 32 := R9.2.1
theorem Rel.heq {c : Int} {d : DS} {m : MS} (R9 : Rel c d m) : d.2.1 = m.2.2.2.2.2.2.1 ∧ d.2.2.1 = m.2.2.2.2.2.2.2.1 ∧ d.2.2.2.1 = m.2.2.2.2.2.2.2.2.1 ∧ d.2.2.2.2.2.2.2.1 = m.2.2.2.2.2.2.2.2.2.1 ∧ d.2.2.2.2.2.2.2.2.1 = m.2.2.2.2.2.2.2.2.2.2.1 ∧ d.2.2.2.2.2.1 = m.2.2.2.2.2.1 := R9.2.2.1
theorem Rel.hpl {c : Int} {d : DS} {m : MS} (R9 : Rel c d m) : 0 ≤ d.2.1 ∧ d.2.1 ≤ d.2.2.1 ∧ d.2.2.1 ≤ 603 * c ∧ 0 ≤ d.2.2.2.1 ∧ d.2.2.2.1 ≤ d.2.2.1 := R9.2.2.2.1
theorem Rel.hlf {c : Int} {d : DS} {m : MS} (R9 : Rel c d m) : -1 ≤ d.2.2.2.2.2.2.2.2.1 ∧ d.2.2.2.2.2.2.2.2.1 < 1000 ∧ 0 ≤ d.2.2.2.2.2.2.2.1 ∧ d.2.2.2.2.2.2.2.1 ≤ 1000 * c := R9.2.2.2.2.1
theorem Rel.hcnt {c : Int} {d : DS} {m : MS} (R9 : Rel c d m) : 0 ≤ d.2.2.2.2.2.1 ∧ d.2.2.2.2.2.1 ≤ 600 := R9.2.2.2.2.2.1
theorem Rel.hh {c : Int} {d : DS} {m : MS} (R9 : Rel c d m) : ∀ j : Nat, (j : Int) < d.2.2.2.2.2.1 → d.2.2.2.2.2.2.2.2.2.1 j % 256 = m.2.2.2.2.2.2.2.2.2.2.2.2.2.2.2.2.2.1 j % 256 := R9.2.2.2.2.2.2.1
theorem Rel.hge {c : Int} {d : DS} {m : MS} (R9 : Rel c d m) : ∀ j : Nat, 0 ≤ d.2.2.2.2.2.2.2.2.2.2.1 j ∧ d.2.2.2.2.2.2.2.2.2.2.1 j < 1000000000 := R9.2.2.2.2.2.2.2.1
theorem Rel.hwt {c : Int} {d : DS} {m : MS} (R9 : Rel c d m) : ∀ j : Nat, -1 ≤ m.2.2.2.2.2.2.2.2.2.2.2.2.2.2.2.2.2.2.1 j ∧ m.2.2.2.2.2.2.2.2.2.2.2.2.2.2.2.2.2.2.1 j < 1000000000 := R9.2.2.2.2.2.2.2.2.1
theorem Rel.hw {c : Int} {d : DS} {m : MS} (R9 : Rel c d m) : ∀ j : Nat, j < 6 → (d.2.2.2.2.2.2.2.2.2.2.1 j = 0 ∧ m.2.2.2.2.2.2.2.2.2.2.2.2.2.2.2.2.2.2.1 j = -1) ∨ (0 < d.2.2.2.2.2.2.2.2.2.2.1 j ∧ m.2.2.2.2.2.2.2.2.2.2.2.2.2.2.2.2.2.2.1 j = d.2.2.2.2.2.2.2.2.2.2.1 j) := R9.2.2.2.2.2.2.2.2.2.1
theorem Rel.htc {c : Int} {d : DS} {m : MS} (R9 : Rel c d m) : ∀ j : Nat, m.2.2.2.2.2.2.2.2.2.2.2.2.2.2.2.2.2.2.2 j = 0 ∨ m.2.2.2.2.2.2.2.2.2.2.2.2.2.2.2.2.2.2.2 j = 1 := R9.2.2.2.2.2.2.2.2.2.2.1
theorem Rel.hpg {c : Int} {d : DS} {m : MS} (R9 : Rel c d m) : ∀ x : Int, 0 ≤ x → x < 2048 → ((d.2.2.2.2.2.2.2.2.2.2.2.2 (x / 64).toNat &&& pB x) = 0 ↔ m.2.2.2.2.2.2.2.2.2.2.2.2.2.2.2.2.2.2.2 x.toNat = 0) := R9.2.2.2.2.2.2.2.2.2.2.2.1
theorem Rel.hpn {c : Int} {d : DS} {m : MS} (R9 : Rel c d m) : d.2.2.2.2.2.2.1 = wcnt m.2.2.2.2.2.2.2.2.2.2.2.2.2.2.2.2.2.2.2 2048 := R9.2.2.2.2.2.2.2.2.2.2.2.2.1
theorem Rel.hrec {c : Int} {d : DS} {m : MS} (R9 : Rel c d m) : RC m.2.2.2.2.1 m.2.2.1 m.2.2.2.2.2.2.1 m.2.2.2.2.2.2.2.1 m.2.2.2.1 m.2.2.2.2.2.2.2.2.2.2.2.2.1 m.2.2.2.2.2.2.2.2.2.2.2.2.2.1 m.2.2.2.2.2.2.2.2.2.2.2.2.2.2.1 m.2.2.2.2.2.2.2.2.2.2.2.2.2.2.2.1 m.2.2.2.2.2.2.2.2.2.2.2.2.2.2.2.2.1 d.2.2.2.2.2.2.2.2.2.2.2.1 := R9.2.2.2.2.2.2.2.2.2.2.2.2.2.1
theorem Rel.hnr {c : Int} {d : DS} {m : MS} (R9 : Rel c d m) : m.2.2.1 ≤ c := R9.2.2.2.2.2.2.2.2.2.2.2.2.2.2.1
theorem Rel.hrd {c : Int} {d : DS} {m : MS} (R9 : Rel c d m) : (d.2.2.2.2.1 = -1 ∧ m.2.2.2.2.2.2.2.2.2.2.2.1 = m.2.2.2.2.1 - 1) ∨ (m.2.2.2.2.1 ≤ m.2.2.2.2.2.2.2.2.2.2.2.1 ∧ m.2.2.2.2.2.2.2.2.2.2.2.1 < m.2.2.1 ∧ d.2.2.2.2.1 = SS m.2.2.2.2.1 m.2.2.2.2.2.2.1 m.2.2.2.2.2.2.2.2.2.2.2.2.2.2.2.1 m.2.2.2.2.2.2.2.2.2.2.2.1.toNat) := R9.2.2.2.2.2.2.2.2.2.2.2.2.2.2.2
theorem Rel.more {c : Int} {d : DS} {m : MS} (R : Rel c d m) (h : c < 512) : Rel (c + 1) d m :=
  ⟨by have := R.hc; omega, Rel.hN (c := c) (d := d) (m := m) R, Rel.heq (c := c) (d := d) (m := m) R, by have := R.hpl; omega, by have := R.hlf; omega, Rel.hcnt (c := c) (d := d) (m := m) R, Rel.hh (c := c) (d := d) (m := m) R, Rel.hge (c := c) (d := d) (m := m) R, Rel.hwt (c := c) (d := d) (m := m) R, Rel.hw (c := c) (d := d) (m := m) R, Rel.htc (c := c) (d := d) (m := m) R, Rel.hpg (c := c) (d := d) (m := m) R, Rel.hpn (c := c) (d := d) (m := m) R, Rel.hrec (c := c) (d := d) (m := m) R, by have := R.hnr; omega, Rel.hrd (c := c) (d := d) (m := m) R⟩
theorem Rel.th {c : Int} {d : DS} {m : MS} (R : Rel c d m) (t : Int) : Rel c d (t, m.2.1, m.2.2.1, m.2.2.2.1, m.2.2.2.2.1, m.2.2.2.2.2.1, m.2.2.2.2.2.2.1, m.2.2.2.2.2.2.2.1, m.2.2.2.2.2.2.2.2.1, m.2.2.2.2.2.2.2.2.2.1, m.2.2.2.2.2.2.2.2.2.2.1, m.2.2.2.2.2.2.2.2.2.2.2.1, m.2.2.2.2.2.2.2.2.2.2.2.2.1, m.2.2.2.2.2.2.2.2.2.2.2.2.2.1, m.2.2.2.2.2.2.2.2.2.2.2.2.2.2.1, m.2.2.2.2.2.2.2.2.2.2.2.2.2.2.2.1, m.2.2.2.2.2.2.2.2.2.2.2.2.2.2.2.2.1, m.2.2.2.2.2.2.2.2.2.2.2.2.2.2.2.2.2.1, m.2.2.2.2.2.2.2.2.2.2.2.2.2.2.2.2.2.2.1, m.2.2.2.2.2.2.2.2.2.2.2.2.2.2.2.2.2.2.2) := ⟨Rel.hc (c := c) (d := d) (m := m) R, Rel.hN (c := c) (d := d) (m := m) R, Rel.heq (c := c) (d := d) (m := m) R, Rel.hpl (c := c) (d := d) (m := m) R, Rel.hlf (c := c) (d := d) (m := m) R, Rel.hcnt (c := c) (d := d) (m := m) R, Rel.hh (c := c) (d := d) (m := m) R, Rel.hge (c := c) (d := d) (m := m) R, Rel.hwt (c := c) (d := d) (m := m) R, Rel.hw (c := c) (d := d) (m := m) R, Rel.htc (c := c) (d := d) (m := m) R, Rel.hpg (c := c) (d := d) (m := m) R, Rel.hpn (c := c) (d := d) (m := m) R, Rel.hrec (c := c) (d := d) (m := m) R, Rel.hnr (c := c) (d := d) (m := m) R, Rel.hrd (c := c) (d := d) (m := m) R⟩
section RELS
variable {c : Int} {d : DS} {m : MS}
theorem Rel.start (R : Rel c d m) (h : d.2.2.2.2.1 ≠ -1) : m.2.2.2.2.1 ≤ m.2.2.2.2.2.2.2.2.2.2.2.1 ∧ m.2.2.2.2.2.2.2.2.2.2.2.1 < m.2.2.1 ∧ d.2.2.2.2.1 = SS m.2.2.2.2.1 m.2.2.2.2.2.2.1 m.2.2.2.2.2.2.2.2.2.2.2.2.2.2.2.1 m.2.2.2.2.2.2.2.2.2.2.2.1.toNat := by
  rcases R.hrd with h1 | h1
  · exact absurd h1.1 h
  · exact h1
theorem Rel.rs0 (R : Rel c d m) : -1 ≤ d.2.2.2.2.1 ∧ d.2.2.2.2.1 ≤ 1000000000 := by
  have h0 := R.hrec.h0
  have hp := R.hpl
  have hc := R.hc
  have he := R.heq
  rcases R.hrd with h1 | h1
  · omega
  · have := R.hrec.toEnd (k := m.2.2.2.2.2.2.2.2.2.2.2.1.toNat) (by omega) (by omega)
    omega
theorem Rel.rsne (R : Rel c d m) : d.2.2.2.2.1 = -1 ↔ m.2.2.2.2.2.2.2.2.2.2.2.1 < m.2.2.2.2.1 := by
  have h0 := R.hrec.h0
  rcases R.hrd with h1 | h1
  · omega
  · have := R.hrec.toEnd (k := m.2.2.2.2.2.2.2.2.2.2.2.1.toNat) (by omega) (by omega)
    omega
theorem Rel.next (R : Rel c d m) : ((if d.2.2.2.2.1 = -1 then d.2.1 else er d.2.2.2.2.2.2.2.2.2.2.2.1 d.2.2.2.2.1) < d.2.2.1 ↔ m.2.2.2.2.2.2.2.2.2.2.2.1 + 1 < m.2.2.1) ∧ (m.2.2.2.2.2.2.2.2.2.2.2.1 + 1 < m.2.2.1 → rb d.2.2.2.2.2.2.2.2.2.2.2.1 (if d.2.2.2.2.1 = -1 then d.2.1 else er d.2.2.2.2.2.2.2.2.2.2.2.1 d.2.2.2.2.1) = m.2.2.2.2.2.2.2.2.2.2.2.2.1 (m.2.2.2.2.2.2.2.2.2.2.2.1 + 1).toNat ∧ (if d.2.2.2.2.1 = -1 then d.2.1 else er d.2.2.2.2.2.2.2.2.2.2.2.1 d.2.2.2.2.1) = SS m.2.2.2.2.1 m.2.2.2.2.2.2.1 m.2.2.2.2.2.2.2.2.2.2.2.2.2.2.2.1 (m.2.2.2.2.2.2.2.2.2.2.2.1 + 1).toNat) := by
  have h0 := R.hrec.h0
  have he := R.heq
  have hk : m.2.2.2.2.1 ≤ m.2.2.2.2.2.2.2.2.2.2.2.1 + 1 ∧ m.2.2.2.2.2.2.2.2.2.2.2.1 + 1 ≤ m.2.2.1 ∧ (if d.2.2.2.2.1 = -1 then d.2.1 else er d.2.2.2.2.2.2.2.2.2.2.2.1 d.2.2.2.2.1) = SS m.2.2.2.2.1 m.2.2.2.2.2.2.1 m.2.2.2.2.2.2.2.2.2.2.2.2.2.2.2.1 (m.2.2.2.2.2.2.2.2.2.2.2.1 + 1).toNat := by
    by_cases h : d.2.2.2.2.1 = -1
    · have := R.rsne.mp h
      rcases R.hrd with h1 | h1
      · rw [if_pos h]
        refine ⟨by omega, by omega, ?_⟩
        rw [show (m.2.2.2.2.2.2.2.2.2.2.2.1 + 1).toNat = m.2.2.2.2.1.toNat by omega, SS_fi h0.1]; exact he.1
      · omega
    · obtain ⟨a, b, e⟩ := R.start h
      rw [if_neg h, e, R.hrec.erS (by omega) (by omega)]
      refine ⟨by omega, by omega, ?_⟩
      congr 1; omega
  obtain ⟨k1, k2, k3⟩ := hk
  rw [k3]
  have h1 := R.hrec.toEnd (k := (m.2.2.2.2.2.2.2.2.2.2.2.1 + 1).toNat) (by omega) (by omega)
  refine ⟨⟨fun h => ?_, fun h => ?_⟩, fun h => ⟨(R.hrec.hd _ (by omega) (by omega)).1, rfl⟩⟩
  · by_cases e : m.2.2.2.2.2.2.2.2.2.2.2.1 + 1 < m.2.2.1
    · exact e
    · exfalso
      have : m.2.2.2.2.2.2.2.1 = SS m.2.2.2.2.1 m.2.2.2.2.2.2.1 m.2.2.2.2.2.2.2.2.2.2.2.2.2.2.2.1 (m.2.2.2.2.2.2.2.2.2.2.2.1 + 1).toNat := by rw [R.hrec.en]; congr 1; omega
      omega
  · omega
abbrev oDnext (d : DS) : DS := (d.1, d.2.1, d.2.2.1, d.2.2.2.1, (if (if d.2.2.2.2.1 = -1 then d.2.1 else er d.2.2.2.2.2.2.2.2.2.2.2.1 d.2.2.2.2.1) < d.2.2.1 then (if d.2.2.2.2.1 = -1 then d.2.1 else er d.2.2.2.2.2.2.2.2.2.2.2.1 d.2.2.2.2.1) else d.2.2.2.2.1), d.2.2.2.2.2.1, d.2.2.2.2.2.2.1, d.2.2.2.2.2.2.2.1, d.2.2.2.2.2.2.2.2.1, d.2.2.2.2.2.2.2.2.2.1, d.2.2.2.2.2.2.2.2.2.2.1, d.2.2.2.2.2.2.2.2.2.2.2.1, d.2.2.2.2.2.2.2.2.2.2.2.2)
abbrev oMnext (m : MS) : MS := ((if m.2.2.2.2.2.2.2.2.2.2.2.1 + 1 < m.2.2.1 then 0 else 1), m.2.1, m.2.2.1, m.2.2.2.1, m.2.2.2.2.1, m.2.2.2.2.2.1, m.2.2.2.2.2.2.1, m.2.2.2.2.2.2.2.1, m.2.2.2.2.2.2.2.2.1, m.2.2.2.2.2.2.2.2.2.1, m.2.2.2.2.2.2.2.2.2.2.1, (if m.2.2.2.2.2.2.2.2.2.2.2.1 + 1 < m.2.2.1 then m.2.2.2.2.2.2.2.2.2.2.2.1 + 1 else m.2.2.2.2.2.2.2.2.2.2.2.1), m.2.2.2.2.2.2.2.2.2.2.2.2.1, m.2.2.2.2.2.2.2.2.2.2.2.2.2.1, m.2.2.2.2.2.2.2.2.2.2.2.2.2.2.1, m.2.2.2.2.2.2.2.2.2.2.2.2.2.2.2.1, m.2.2.2.2.2.2.2.2.2.2.2.2.2.2.2.2.1, m.2.2.2.2.2.2.2.2.2.2.2.2.2.2.2.2.2.1, m.2.2.2.2.2.2.2.2.2.2.2.2.2.2.2.2.2.2.1, m.2.2.2.2.2.2.2.2.2.2.2.2.2.2.2.2.2.2.2)
theorem Rel.onext (R : Rel c d m) : Rel c (oDnext d) (oMnext m) := by
  obtain ⟨n1, n2⟩ := R.next
  refine ⟨Rel.hc (c := c) (d := d) (m := m) R, Rel.hN (c := c) (d := d) (m := m) R, Rel.heq (c := c) (d := d) (m := m) R, Rel.hpl (c := c) (d := d) (m := m) R, Rel.hlf (c := c) (d := d) (m := m) R, Rel.hcnt (c := c) (d := d) (m := m) R, Rel.hh (c := c) (d := d) (m := m) R, Rel.hge (c := c) (d := d) (m := m) R, Rel.hwt (c := c) (d := d) (m := m) R, Rel.hw (c := c) (d := d) (m := m) R, Rel.htc (c := c) (d := d) (m := m) R, Rel.hpg (c := c) (d := d) (m := m) R, Rel.hpn (c := c) (d := d) (m := m) R, Rel.hrec (c := c) (d := d) (m := m) R, Rel.hnr (c := c) (d := d) (m := m) R, ?_⟩
  show (_ = _ ∧ _) ∨ (_ ∧ _ ∧ _)
  have h0 := R.hrec.h0
  by_cases h : m.2.2.2.2.2.2.2.2.2.2.2.1 + 1 < m.2.2.1
  · dsimp only
    rw [if_pos (n1.mpr h), if_pos h, (n2 h).2]
    refine Or.inr ⟨?_, h, rfl⟩
    rcases R.hrd with h1 | h1 <;> omega
  · dsimp only
    rw [if_neg (fun q => h (n1.mp q)), if_neg h]; exact R.hrd
theorem Rel.length (R : Rel c d m) : (if d.2.2.2.2.1 = -1 then -1 else bl d.2.2.2.2.2.2.2.2.2.2.2.1 d.2.2.2.2.1) = (if m.2.2.2.2.2.2.2.2.2.2.2.1 < m.2.2.2.2.1 then -1 else m.2.2.2.2.2.2.2.2.2.2.2.2.2.2.1 m.2.2.2.2.2.2.2.2.2.2.2.1.toNat) := by
  by_cases h : d.2.2.2.2.1 = -1
  · rw [if_pos h, if_pos (R.rsne.mp h)]
  · obtain ⟨a, b, e⟩ := R.start h
    rw [if_neg h, if_neg (fun q => h (R.rsne.mpr q)), e]
    have h0 := R.hrec.h0
    exact (R.hrec.hd _ (by omega) (by omega)).2
theorem Rel.byteOf (R : Rel c d m) (x : Int) : (if d.2.2.2.2.1 = -1 ∨ x < 0 ∨ bl d.2.2.2.2.2.2.2.2.2.2.2.1 d.2.2.2.2.1 ≤ x then -1 else rb d.2.2.2.2.2.2.2.2.2.2.2.1 (d.2.2.2.2.1 + 3 + x)) = (if m.2.2.2.2.2.2.2.2.2.2.2.1 < m.2.2.2.2.1 ∨ x < 0 ∨ m.2.2.2.2.2.2.2.2.2.2.2.2.2.2.1 m.2.2.2.2.2.2.2.2.2.2.2.1.toNat ≤ x then -1 else m.2.2.2.2.2.2.2.2.2.2.2.2.2.2.2.2.1 (m.2.2.2.2.2.2.2.2.2.2.2.2.2.1 m.2.2.2.2.2.2.2.2.2.2.2.1.toNat + x).toNat % 256) := by
  have h0 := R.hrec.h0
  by_cases h : d.2.2.2.2.1 = -1
  · rw [if_pos (Or.inl h), if_pos (Or.inl (R.rsne.mp h))]
  · obtain ⟨a, b, e⟩ := R.start h
    have h1 := (R.hrec.hd m.2.2.2.2.2.2.2.2.2.2.2.1.toNat (by omega) (by omega)).2
    have h2 : ¬ m.2.2.2.2.2.2.2.2.2.2.2.1 < m.2.2.2.2.1 := fun q => h (R.rsne.mpr q)
    rw [← e] at h1
    by_cases h3 : x < 0 ∨ m.2.2.2.2.2.2.2.2.2.2.2.2.2.2.1 m.2.2.2.2.2.2.2.2.2.2.2.1.toNat ≤ x
    · rw [if_pos (Or.inr (by rw [h1]; exact h3)), if_pos (Or.inr h3)]
    · rw [if_neg (by rw [h1]; omega), if_neg (by omega), e]
      exact R.hrec.by_ m.2.2.2.2.2.2.2.2.2.2.2.1.toNat (by omega) (by omega) x (by omega) (by omega)
theorem Rel.frd (R : Rel c d m) : m.2.2.2.2.1 ≤ m.2.2.2.2.2.2.2.2.2.2.2.1 → 0 ≤ m.2.2.2.2.2.2.2.2.2.2.2.2.2.1 m.2.2.2.2.2.2.2.2.2.2.2.1.toNat ∧ m.2.2.2.2.2.2.2.2.2.2.2.2.2.1 m.2.2.2.2.2.2.2.2.2.2.2.1.toNat + m.2.2.2.2.2.2.2.2.2.2.2.2.2.2.1 m.2.2.2.2.2.2.2.2.2.2.2.1.toNat ≤ 19000 := by
  intro h
  have h0 := R.hrec.h0
  have hu := R.hrec.us0
  rcases R.hrd with h1 | h1
  · omega
  · have := R.hrec.frk (k := m.2.2.2.2.2.2.2.2.2.2.2.1.toNat) (by omega) (by omega)
    omega
theorem Rel.erd (R : Rel c d m) : (if d.2.2.2.2.1 = -1 then -1 else er d.2.2.2.2.2.2.2.2.2.2.2.1 d.2.2.2.2.1) = (if m.2.2.2.2.2.2.2.2.2.2.2.1 < m.2.2.2.2.1 then -1 else m.2.2.2.2.2.2.2.2.2.2.2.2.2.2.2.1 m.2.2.2.2.2.2.2.2.2.2.2.1.toNat) := by
  have h0 := R.hrec.h0
  by_cases h : d.2.2.2.2.1 = -1
  · rw [if_pos h, if_pos (R.rsne.mp h)]
  · obtain ⟨a, b, e⟩ := R.start h
    rw [if_neg h, if_neg (fun q => h (R.rsne.mpr q)), e, R.hrec.erS (by omega) (by omega), SS_succ (by omega)]
abbrev oDput (d : DS) (v : Int64) (n : Int) : DS := (d.1, d.2.1, d.2.2.1, d.2.2.2.1, d.2.2.2.2.1, (if ((1 ≤ n ∧ n ≤ 8) ∧ n ≤ 600 - d.2.2.2.2.2.1) then d.2.2.2.2.2.1 + n else d.2.2.2.2.2.1), d.2.2.2.2.2.2.1, d.2.2.2.2.2.2.2.1, d.2.2.2.2.2.2.2.2.1, (if ((1 ≤ n ∧ n ≤ 8) ∧ n ≤ 600 - d.2.2.2.2.2.1) then pU v n.toNat d.2.2.2.2.2.1 d.2.2.2.2.2.2.2.2.2.1 else d.2.2.2.2.2.2.2.2.2.1), d.2.2.2.2.2.2.2.2.2.2.1, d.2.2.2.2.2.2.2.2.2.2.2.1, d.2.2.2.2.2.2.2.2.2.2.2.2)
abbrev oMput (m : MS) (v : Int64) (n : Int) : MS := (0, m.2.1, m.2.2.1, m.2.2.2.1, m.2.2.2.2.1, (if ((1 ≤ n ∧ n ≤ 8) ∧ m.2.2.2.2.2.1 + n ≤ 600) then m.2.2.2.2.2.1 + n else m.2.2.2.2.2.1), m.2.2.2.2.2.2.1, m.2.2.2.2.2.2.2.1, m.2.2.2.2.2.2.2.2.1, m.2.2.2.2.2.2.2.2.2.1, m.2.2.2.2.2.2.2.2.2.2.1, m.2.2.2.2.2.2.2.2.2.2.2.1, m.2.2.2.2.2.2.2.2.2.2.2.2.1, m.2.2.2.2.2.2.2.2.2.2.2.2.2.1, m.2.2.2.2.2.2.2.2.2.2.2.2.2.2.1, m.2.2.2.2.2.2.2.2.2.2.2.2.2.2.2.1, m.2.2.2.2.2.2.2.2.2.2.2.2.2.2.2.2.1, (if ((1 ≤ n ∧ n ≤ 8) ∧ m.2.2.2.2.2.1 + n ≤ 600) then mpU v n.toNat m.2.2.2.2.2.1 m.2.2.2.2.2.2.2.2.2.2.2.2.2.2.2.2.2.1 else m.2.2.2.2.2.2.2.2.2.2.2.2.2.2.2.2.2.1), m.2.2.2.2.2.2.2.2.2.2.2.2.2.2.2.2.2.2.1, m.2.2.2.2.2.2.2.2.2.2.2.2.2.2.2.2.2.2.2)
theorem Rel.put (R : Rel c d m) (v : Int64) (n : Int) : (((1 ≤ n ∧ n ≤ 8) ∧ n ≤ 600 - d.2.2.2.2.2.1) ↔ ((1 ≤ n ∧ n ≤ 8) ∧ m.2.2.2.2.2.1 + n ≤ 600)) ∧ Rel c (oDput d v n) (oMput m v n) := by
  have he := R.heq
  have hq : ((1 ≤ n ∧ n ≤ 8) ∧ n ≤ 600 - d.2.2.2.2.2.1) ↔ ((1 ≤ n ∧ n ≤ 8) ∧ m.2.2.2.2.2.1 + n ≤ 600) := by omega
  refine ⟨hq, ?_⟩
  have hcn := R.hcnt
  by_cases h : (1 ≤ n ∧ n ≤ 8) ∧ n ≤ 600 - d.2.2.2.2.2.1
  · have h' := hq.mp h
    refine ⟨Rel.hc (c := c) (d := d) (m := m) R, Rel.hN (c := c) (d := d) (m := m) R, ?_, Rel.hpl (c := c) (d := d) (m := m) R, Rel.hlf (c := c) (d := d) (m := m) R, ?_, ?_, Rel.hge (c := c) (d := d) (m := m) R, Rel.hwt (c := c) (d := d) (m := m) R, Rel.hw (c := c) (d := d) (m := m) R, Rel.htc (c := c) (d := d) (m := m) R, Rel.hpg (c := c) (d := d) (m := m) R, Rel.hpn (c := c) (d := d) (m := m) R, Rel.hrec (c := c) (d := d) (m := m) R, Rel.hnr (c := c) (d := d) (m := m) R, Rel.hrd (c := c) (d := d) (m := m) R⟩
    · dsimp only; rw [if_pos h, if_pos h']; exact ⟨he.1, he.2.1, he.2.2.1, he.2.2.2.1, he.2.2.2.2.1, by omega⟩
    · dsimp only; rw [if_pos h]; omega
    · dsimp only; rw [if_pos h, if_pos h, if_pos h', ← he.2.2.2.2.2]
      intro j hj
      exact pU_same v n.toNat d.2.2.2.2.2.1 d.2.2.2.2.2.2.2.2.2.1 m.2.2.2.2.2.2.2.2.2.2.2.2.2.2.2.2.2.1 (by omega) (by omega) R.hh j (by omega)
  · have h' : ¬ ((1 ≤ n ∧ n ≤ 8) ∧ m.2.2.2.2.2.1 + n ≤ 600) := fun q => h (hq.mpr q)
    refine ⟨Rel.hc (c := c) (d := d) (m := m) R, Rel.hN (c := c) (d := d) (m := m) R, ?_, Rel.hpl (c := c) (d := d) (m := m) R, Rel.hlf (c := c) (d := d) (m := m) R, ?_, ?_, Rel.hge (c := c) (d := d) (m := m) R, Rel.hwt (c := c) (d := d) (m := m) R, Rel.hw (c := c) (d := d) (m := m) R, Rel.htc (c := c) (d := d) (m := m) R, Rel.hpg (c := c) (d := d) (m := m) R, Rel.hpn (c := c) (d := d) (m := m) R, Rel.hrec (c := c) (d := d) (m := m) R, Rel.hnr (c := c) (d := d) (m := m) R, Rel.hrd (c := c) (d := d) (m := m) R⟩
    · dsimp only; rw [if_neg h, if_neg h']; exact he
    · dsimp only; rw [if_neg h]; exact hcn
    · dsimp only; rw [if_neg h, if_neg h, if_neg h']; exact R.hh
abbrev oDfill (d : DS) (v : Int) (n : Int) : DS := (d.1, d.2.1, d.2.2.1, d.2.2.2.1, d.2.2.2.2.1, (if ((1 ≤ n ∧ n ≤ 600) ∧ n ≤ 600 - d.2.2.2.2.2.1) then d.2.2.2.2.2.1 + n else d.2.2.2.2.2.1), d.2.2.2.2.2.2.1, d.2.2.2.2.2.2.2.1, d.2.2.2.2.2.2.2.2.1, (if ((1 ≤ n ∧ n ≤ 600) ∧ n ≤ 600 - d.2.2.2.2.2.1) then (fun j : Nat => if d.2.2.2.2.2.1 ≤ (j : Int) ∧ (j : Int) < d.2.2.2.2.2.1 + n then Int.bmod v 256 else d.2.2.2.2.2.2.2.2.2.1 j) else d.2.2.2.2.2.2.2.2.2.1), d.2.2.2.2.2.2.2.2.2.2.1, d.2.2.2.2.2.2.2.2.2.2.2.1, d.2.2.2.2.2.2.2.2.2.2.2.2)
abbrev oMfill (m : MS) (v : Int) (n : Int) : MS := (0, m.2.1, m.2.2.1, m.2.2.2.1, m.2.2.2.2.1, (if ((1 ≤ n ∧ n ≤ 600) ∧ m.2.2.2.2.2.1 + n ≤ 600) then m.2.2.2.2.2.1 + n else m.2.2.2.2.2.1), m.2.2.2.2.2.2.1, m.2.2.2.2.2.2.2.1, m.2.2.2.2.2.2.2.2.1, m.2.2.2.2.2.2.2.2.2.1, m.2.2.2.2.2.2.2.2.2.2.1, m.2.2.2.2.2.2.2.2.2.2.2.1, m.2.2.2.2.2.2.2.2.2.2.2.2.1, m.2.2.2.2.2.2.2.2.2.2.2.2.2.1, m.2.2.2.2.2.2.2.2.2.2.2.2.2.2.1, m.2.2.2.2.2.2.2.2.2.2.2.2.2.2.2.1, m.2.2.2.2.2.2.2.2.2.2.2.2.2.2.2.2.1, (if ((1 ≤ n ∧ n ≤ 600) ∧ m.2.2.2.2.2.1 + n ≤ 600) then (fun j : Nat => if m.2.2.2.2.2.1 ≤ (j : Int) ∧ (j : Int) < m.2.2.2.2.2.1 + n then v % 256 else m.2.2.2.2.2.2.2.2.2.2.2.2.2.2.2.2.2.1 j) else m.2.2.2.2.2.2.2.2.2.2.2.2.2.2.2.2.2.1), m.2.2.2.2.2.2.2.2.2.2.2.2.2.2.2.2.2.2.1, m.2.2.2.2.2.2.2.2.2.2.2.2.2.2.2.2.2.2.2)
theorem Rel.fill (R : Rel c d m) (v : Int) (n : Int) : (((1 ≤ n ∧ n ≤ 600) ∧ n ≤ 600 - d.2.2.2.2.2.1) ↔ ((1 ≤ n ∧ n ≤ 600) ∧ m.2.2.2.2.2.1 + n ≤ 600)) ∧ Rel c (oDfill d v n) (oMfill m v n) := by
  have he := R.heq
  have hq : ((1 ≤ n ∧ n ≤ 600) ∧ n ≤ 600 - d.2.2.2.2.2.1) ↔ ((1 ≤ n ∧ n ≤ 600) ∧ m.2.2.2.2.2.1 + n ≤ 600) := by omega
  refine ⟨hq, ?_⟩
  have hcn := R.hcnt
  by_cases h : (1 ≤ n ∧ n ≤ 600) ∧ n ≤ 600 - d.2.2.2.2.2.1
  · have h' := hq.mp h
    refine ⟨Rel.hc (c := c) (d := d) (m := m) R, Rel.hN (c := c) (d := d) (m := m) R, ?_, Rel.hpl (c := c) (d := d) (m := m) R, Rel.hlf (c := c) (d := d) (m := m) R, ?_, ?_, Rel.hge (c := c) (d := d) (m := m) R, Rel.hwt (c := c) (d := d) (m := m) R, Rel.hw (c := c) (d := d) (m := m) R, Rel.htc (c := c) (d := d) (m := m) R, Rel.hpg (c := c) (d := d) (m := m) R, Rel.hpn (c := c) (d := d) (m := m) R, Rel.hrec (c := c) (d := d) (m := m) R, Rel.hnr (c := c) (d := d) (m := m) R, Rel.hrd (c := c) (d := d) (m := m) R⟩
    · dsimp only; rw [if_pos h, if_pos h']; exact ⟨he.1, he.2.1, he.2.2.1, he.2.2.2.1, he.2.2.2.2.1, by omega⟩
    · dsimp only; rw [if_pos h]; omega
    · dsimp only; rw [if_pos h, if_pos h, if_pos h', ← he.2.2.2.2.2]
      intro j hj
      by_cases e : d.2.2.2.2.2.1 ≤ (j : Int)
      · rw [if_pos ⟨e, by omega⟩, if_pos ⟨e, by omega⟩]
        have := Int.bmod_emod (x := v) (m := 256)
        simp at this
        omega
      · rw [if_neg (by omega), if_neg (by omega)]; exact R.hh j (by omega)
  · have h' : ¬ ((1 ≤ n ∧ n ≤ 600) ∧ m.2.2.2.2.2.1 + n ≤ 600) := fun q => h (hq.mpr q)
    refine ⟨Rel.hc (c := c) (d := d) (m := m) R, Rel.hN (c := c) (d := d) (m := m) R, ?_, Rel.hpl (c := c) (d := d) (m := m) R, Rel.hlf (c := c) (d := d) (m := m) R, ?_, ?_, Rel.hge (c := c) (d := d) (m := m) R, Rel.hwt (c := c) (d := d) (m := m) R, Rel.hw (c := c) (d := d) (m := m) R, Rel.htc (c := c) (d := d) (m := m) R, Rel.hpg (c := c) (d := d) (m := m) R, Rel.hpn (c := c) (d := d) (m := m) R, Rel.hrec (c := c) (d := d) (m := m) R, Rel.hnr (c := c) (d := d) (m := m) R, Rel.hrd (c := c) (d := d) (m := m) R⟩
    · dsimp only; rw [if_neg h, if_neg h']; exact he
    · dsimp only; rw [if_neg h]; exact hcn
    · dsimp only; rw [if_neg h, if_neg h, if_neg h']; exact R.hh
abbrev oDtold (d : DS) : DS := (d.1, d.2.1, d.2.2.1, d.2.2.2.1, d.2.2.2.2.1, d.2.2.2.2.2.1, d.2.2.2.2.2.2.1, d.2.2.2.2.2.2.2.1, d.2.2.2.2.2.2.2.2.1, d.2.2.2.2.2.2.2.2.2.1, (if (wfst d.2.2.2.2.2.2.2.2.2.2.1 6 = -1 ∨ d.2.2.2.1 < d.2.2.2.2.2.2.2.2.2.2.1 (wfst d.2.2.2.2.2.2.2.2.2.2.1 6).toNat) then d.2.2.2.2.2.2.2.2.2.2.1 else va_up d.2.2.2.2.2.2.2.2.2.2.1 (wfst d.2.2.2.2.2.2.2.2.2.2.1 6).toNat 0), d.2.2.2.2.2.2.2.2.2.2.2.1, d.2.2.2.2.2.2.2.2.2.2.2.2)
abbrev oMtold (m : MS) : MS := (0, m.2.1, m.2.2.1, m.2.2.2.1, m.2.2.2.2.1, m.2.2.2.2.2.1, m.2.2.2.2.2.2.1, m.2.2.2.2.2.2.2.1, m.2.2.2.2.2.2.2.2.1, m.2.2.2.2.2.2.2.2.2.1, m.2.2.2.2.2.2.2.2.2.2.1, m.2.2.2.2.2.2.2.2.2.2.2.1, m.2.2.2.2.2.2.2.2.2.2.2.2.1, m.2.2.2.2.2.2.2.2.2.2.2.2.2.1, m.2.2.2.2.2.2.2.2.2.2.2.2.2.2.1, m.2.2.2.2.2.2.2.2.2.2.2.2.2.2.2.1, m.2.2.2.2.2.2.2.2.2.2.2.2.2.2.2.2.1, m.2.2.2.2.2.2.2.2.2.2.2.2.2.2.2.2.2.1, (if (mfst m.2.2.2.2.2.2.2.2.2.2.2.2.2.2.2.2.2.2.1 6 < 0 ∨ m.2.2.2.2.2.2.2.2.1 < m.2.2.2.2.2.2.2.2.2.2.2.2.2.2.2.2.2.2.1 (mfst m.2.2.2.2.2.2.2.2.2.2.2.2.2.2.2.2.2.2.1 6).toNat) then m.2.2.2.2.2.2.2.2.2.2.2.2.2.2.2.2.2.2.1 else va_up m.2.2.2.2.2.2.2.2.2.2.2.2.2.2.2.2.2.2.1 (mfst m.2.2.2.2.2.2.2.2.2.2.2.2.2.2.2.2.2.2.1 6).toNat (-1)), m.2.2.2.2.2.2.2.2.2.2.2.2.2.2.2.2.2.2.2)
theorem Rel.told (R : Rel c d m) : (if (wfst d.2.2.2.2.2.2.2.2.2.2.1 6 = -1 ∨ d.2.2.2.1 < d.2.2.2.2.2.2.2.2.2.2.1 (wfst d.2.2.2.2.2.2.2.2.2.2.1 6).toNat) then -1 else wfst d.2.2.2.2.2.2.2.2.2.2.1 6) = (if (mfst m.2.2.2.2.2.2.2.2.2.2.2.2.2.2.2.2.2.2.1 6 < 0 ∨ m.2.2.2.2.2.2.2.2.1 < m.2.2.2.2.2.2.2.2.2.2.2.2.2.2.2.2.2.2.1 (mfst m.2.2.2.2.2.2.2.2.2.2.2.2.2.2.2.2.2.2.1 6).toNat) then -1 else mfst m.2.2.2.2.2.2.2.2.2.2.2.2.2.2.2.2.2.2.1 6) ∧ Rel c (oDtold d) (oMtold m) := by
  obtain ⟨h1, h2⟩ := wfst_same 6 R.hw
  have hin := wfst_in d.2.2.2.2.2.2.2.2.2.2.1 6
  have he := R.heq
  have hq : (wfst d.2.2.2.2.2.2.2.2.2.2.1 6 = -1 ∨ d.2.2.2.1 < d.2.2.2.2.2.2.2.2.2.2.1 (wfst d.2.2.2.2.2.2.2.2.2.2.1 6).toNat) ↔ (mfst m.2.2.2.2.2.2.2.2.2.2.2.2.2.2.2.2.2.2.1 6 < 0 ∨ m.2.2.2.2.2.2.2.2.1 < m.2.2.2.2.2.2.2.2.2.2.2.2.2.2.2.2.2.2.1 (mfst m.2.2.2.2.2.2.2.2.2.2.2.2.2.2.2.2.2.2.1 6).toNat) := by
    rw [← h1, ← he.2.2.1]
    by_cases h0 : 0 ≤ wfst d.2.2.2.2.2.2.2.2.2.2.1 6
    · have := R.hw (wfst d.2.2.2.2.2.2.2.2.2.2.1 6).toNat (by omega)
      have := h2 h0
      omega
    · omega
  by_cases h : wfst d.2.2.2.2.2.2.2.2.2.2.1 6 = -1 ∨ d.2.2.2.1 < d.2.2.2.2.2.2.2.2.2.2.1 (wfst d.2.2.2.2.2.2.2.2.2.2.1 6).toNat
  · have h' := hq.mp h
    refine ⟨by rw [if_pos h, if_pos h'], ?_⟩
    refine ⟨Rel.hc (c := c) (d := d) (m := m) R, Rel.hN (c := c) (d := d) (m := m) R, Rel.heq (c := c) (d := d) (m := m) R, Rel.hpl (c := c) (d := d) (m := m) R, Rel.hlf (c := c) (d := d) (m := m) R, Rel.hcnt (c := c) (d := d) (m := m) R, Rel.hh (c := c) (d := d) (m := m) R, ?_, ?_, ?_, Rel.htc (c := c) (d := d) (m := m) R, Rel.hpg (c := c) (d := d) (m := m) R, Rel.hpn (c := c) (d := d) (m := m) R, Rel.hrec (c := c) (d := d) (m := m) R, Rel.hnr (c := c) (d := d) (m := m) R, Rel.hrd (c := c) (d := d) (m := m) R⟩
    · dsimp only; rw [if_pos h]; exact R.hge
    · dsimp only; rw [if_pos h']; exact R.hwt
    · dsimp only; rw [if_pos h, if_pos h']; exact R.hw
  · have h' := fun q => h (hq.mpr q)
    refine ⟨by rw [if_neg h, if_neg h', h1], ?_⟩
    refine ⟨Rel.hc (c := c) (d := d) (m := m) R, Rel.hN (c := c) (d := d) (m := m) R, Rel.heq (c := c) (d := d) (m := m) R, Rel.hpl (c := c) (d := d) (m := m) R, Rel.hlf (c := c) (d := d) (m := m) R, Rel.hcnt (c := c) (d := d) (m := m) R, Rel.hh (c := c) (d := d) (m := m) R, ?_, ?_, ?_, Rel.htc (c := c) (d := d) (m := m) R, Rel.hpg (c := c) (d := d) (m := m) R, Rel.hpn (c := c) (d := d) (m := m) R, Rel.hrec (c := c) (d := d) (m := m) R, Rel.hnr (c := c) (d := d) (m := m) R, Rel.hrd (c := c) (d := d) (m := m) R⟩
    · dsimp only; rw [if_neg h]; intro j
      by_cases e : j = (wfst d.2.2.2.2.2.2.2.2.2.2.1 6).toNat
      · subst e; rw [va_up_self]; omega
      · rw [va_up_ne _ _ e]; exact R.hge j
    · dsimp only; rw [if_neg h']; intro j
      by_cases e : j = (mfst m.2.2.2.2.2.2.2.2.2.2.2.2.2.2.2.2.2.2.1 6).toNat
      · subst e; rw [va_up_self]; omega
      · rw [va_up_ne _ _ e]; exact R.hwt j
    · dsimp only; rw [if_neg h, if_neg h', ← h1]; intro j hj
      by_cases e : j = (wfst d.2.2.2.2.2.2.2.2.2.2.1 6).toNat
      · subst e; rw [va_up_self, va_up_self]; omega
      · rw [va_up_ne _ _ e, va_up_ne _ _ e]; exact R.hw j hj
abbrev oDtouch (d : DS) (x : Int) : DS := (d.1, d.2.1, d.2.2.1, d.2.2.2.1, d.2.2.2.2.1, d.2.2.2.2.2.1, (if (0 ≤ x ∧ x < 2048) ∧ (d.2.2.2.2.2.2.2.2.2.2.2.2 (x / 64).toNat &&& (1 <<< ((iZ (x % 64)).toInt64 &&& 63))) = 0 then d.2.2.2.2.2.2.1 + 1 else d.2.2.2.2.2.2.1), d.2.2.2.2.2.2.2.1, d.2.2.2.2.2.2.2.2.1, d.2.2.2.2.2.2.2.2.2.1, d.2.2.2.2.2.2.2.2.2.2.1, d.2.2.2.2.2.2.2.2.2.2.2.1, (if (0 ≤ x ∧ x < 2048) ∧ (d.2.2.2.2.2.2.2.2.2.2.2.2 (x / 64).toNat &&& (1 <<< ((iZ (x % 64)).toInt64 &&& 63))) = 0 then va_up d.2.2.2.2.2.2.2.2.2.2.2.2 (x / 64).toNat (d.2.2.2.2.2.2.2.2.2.2.2.2 (x / 64).toNat ||| (1 <<< ((iZ (x % 64)).toInt64 &&& 63))) else d.2.2.2.2.2.2.2.2.2.2.2.2))
abbrev oMtouch (m : MS) (x : Int) : MS := (0, m.2.1, m.2.2.1, m.2.2.2.1, m.2.2.2.2.1, m.2.2.2.2.2.1, m.2.2.2.2.2.2.1, m.2.2.2.2.2.2.2.1, m.2.2.2.2.2.2.2.2.1, m.2.2.2.2.2.2.2.2.2.1, m.2.2.2.2.2.2.2.2.2.2.1, m.2.2.2.2.2.2.2.2.2.2.2.1, m.2.2.2.2.2.2.2.2.2.2.2.2.1, m.2.2.2.2.2.2.2.2.2.2.2.2.2.1, m.2.2.2.2.2.2.2.2.2.2.2.2.2.2.1, m.2.2.2.2.2.2.2.2.2.2.2.2.2.2.2.1, m.2.2.2.2.2.2.2.2.2.2.2.2.2.2.2.2.1, m.2.2.2.2.2.2.2.2.2.2.2.2.2.2.2.2.2.1, m.2.2.2.2.2.2.2.2.2.2.2.2.2.2.2.2.2.2.1, (if ((0 ≤ x ∧ x < 2048) ∧ m.2.2.2.2.2.2.2.2.2.2.2.2.2.2.2.2.2.2.2 x.toNat = 0) then va_up m.2.2.2.2.2.2.2.2.2.2.2.2.2.2.2.2.2.2.2 x.toNat 1 else m.2.2.2.2.2.2.2.2.2.2.2.2.2.2.2.2.2.2.2))
theorem Rel.touch (R : Rel c d m) (x : Int) : (((0 ≤ x ∧ x < 2048) ∧ (d.2.2.2.2.2.2.2.2.2.2.2.2 (x / 64).toNat &&& (1 <<< ((iZ (x % 64)).toInt64 &&& 63))) = 0) ↔ ((0 ≤ x ∧ x < 2048) ∧ m.2.2.2.2.2.2.2.2.2.2.2.2.2.2.2.2.2.2.2 x.toNat = 0)) ∧ Rel c (oDtouch d x) (oMtouch m x) := by
  have hq : ((0 ≤ x ∧ x < 2048) ∧ (d.2.2.2.2.2.2.2.2.2.2.2.2 (x / 64).toNat &&& (1 <<< ((iZ (x % 64)).toInt64 &&& 63))) = 0) ↔ ((0 ≤ x ∧ x < 2048) ∧ m.2.2.2.2.2.2.2.2.2.2.2.2.2.2.2.2.2.2.2 x.toNat = 0) :=
    ⟨fun h => ⟨h.1, (R.hpg x h.1.1 h.1.2).mp h.2⟩, fun h => ⟨h.1, (R.hpg x h.1.1 h.1.2).mpr h.2⟩⟩
  refine ⟨hq, ?_⟩
  by_cases h : (0 ≤ x ∧ x < 2048) ∧ (d.2.2.2.2.2.2.2.2.2.2.2.2 (x / 64).toNat &&& (1 <<< ((iZ (x % 64)).toInt64 &&& 63))) = 0
  · have h' := hq.mp h
    refine ⟨Rel.hc (c := c) (d := d) (m := m) R, Rel.hN (c := c) (d := d) (m := m) R, Rel.heq (c := c) (d := d) (m := m) R, Rel.hpl (c := c) (d := d) (m := m) R, Rel.hlf (c := c) (d := d) (m := m) R, Rel.hcnt (c := c) (d := d) (m := m) R, Rel.hh (c := c) (d := d) (m := m) R, Rel.hge (c := c) (d := d) (m := m) R, Rel.hwt (c := c) (d := d) (m := m) R, Rel.hw (c := c) (d := d) (m := m) R, ?_, ?_, ?_, Rel.hrec (c := c) (d := d) (m := m) R, Rel.hnr (c := c) (d := d) (m := m) R, Rel.hrd (c := c) (d := d) (m := m) R⟩
    · dsimp only; rw [if_pos h']; intro j
      by_cases e : j = x.toNat
      · subst e; rw [va_up_self]; omega
      · rw [va_up_ne _ _ e]; exact R.htc j
    · dsimp only; rw [if_pos h, if_pos h']; intro y y0 y1
      by_cases e : (y / 64).toNat = (x / 64).toNat
      · rw [e, va_up_self]
        have hb : (1 <<< ((iZ (x % 64)).toInt64 &&& 63) : Int64) = pB x := rfl
        rw [hb, pB_or]
        have hy := R.hpg y y0 y1
        rw [e] at hy
        by_cases e2 : y = x
        · subst e2; rw [va_up_self]; omega
        · rw [va_up_ne _ _ (by omega), hy]; omega
      · rw [va_up_ne _ _ e, va_up_ne _ _ (by omega)]; exact R.hpg y y0 y1
    · dsimp only; rw [if_pos h, if_pos h', wcnt_up h'.2, if_pos (by omega), R.hpn]
  · have h' := fun q => h (hq.mpr q)
    refine ⟨Rel.hc (c := c) (d := d) (m := m) R, Rel.hN (c := c) (d := d) (m := m) R, Rel.heq (c := c) (d := d) (m := m) R, Rel.hpl (c := c) (d := d) (m := m) R, Rel.hlf (c := c) (d := d) (m := m) R, Rel.hcnt (c := c) (d := d) (m := m) R, Rel.hh (c := c) (d := d) (m := m) R, Rel.hge (c := c) (d := d) (m := m) R, Rel.hwt (c := c) (d := d) (m := m) R, Rel.hw (c := c) (d := d) (m := m) R, ?_, ?_, ?_, Rel.hrec (c := c) (d := d) (m := m) R, Rel.hnr (c := c) (d := d) (m := m) R, Rel.hrd (c := c) (d := d) (m := m) R⟩
    · dsimp only; rw [if_neg h']; exact R.htc
    · dsimp only; rw [if_neg h, if_neg h']; exact R.hpg
    · dsimp only; rw [if_neg h, if_neg h']; exact R.hpn
theorem clear_pg {pf : Nat → Int64} {tc : Nat → Int} (h : ∀ j : Nat, tc j = 0 ∨ tc j = 1) : (∀ j : Nat, (fun j => if j < 2048 then 0 else tc j) j = 0 ∨ (fun j => if j < 2048 then 0 else tc j) j = 1) ∧ (∀ x : Int, 0 ≤ x → x < 2048 → (((fun j => if j < 32 then (0 : Int64) else pf j) (x / 64).toNat &&& pB x) = 0 ↔ (fun j => if j < 2048 then 0 else tc j) x.toNat = 0)) ∧ (0 : Int) = wcnt (fun j => if j < 2048 then 0 else tc j) 2048 := by
  refine ⟨fun j => ?_, fun x x0 x1 => ?_, ?_⟩
  · show (if j < 2048 then 0 else tc j) = 0 ∨ (if j < 2048 then 0 else tc j) = 1
    split
    · exact Or.inl rfl
    · exact h j
  · show ((if (x / 64).toNat < 32 then (0 : Int64) else pf (x / 64).toNat) &&& pB x) = 0 ↔ (if x.toNat < 2048 then 0 else tc x.toNat) = 0
    rw [if_pos (by omega), if_pos (by omega)]
    exact ⟨fun _ => rfl, fun _ => pB_0⟩
  · rw [wcnt_0 2048 (fun j hj => if_pos hj)]
abbrev oDmark (d : DS) : DS := (d.1, d.2.1, d.2.2.1, d.2.2.2.1, d.2.2.2.2.1, d.2.2.2.2.2.1, 0, d.2.2.2.2.2.2.2.1, d.2.2.2.2.2.2.2.2.1, d.2.2.2.2.2.2.2.2.2.1, d.2.2.2.2.2.2.2.2.2.2.1, d.2.2.2.2.2.2.2.2.2.2.2.1, (fun j => if j < 32 then 0 else d.2.2.2.2.2.2.2.2.2.2.2.2 j))
abbrev oMmark (m : MS) : MS := (0, m.2.1, m.2.2.1, m.2.2.2.1, m.2.2.2.2.1, m.2.2.2.2.2.1, m.2.2.2.2.2.2.1, m.2.2.2.2.2.2.2.1, m.2.2.2.2.2.2.2.2.1, m.2.2.2.2.2.2.2.2.2.1, m.2.2.2.2.2.2.2.2.2.2.1, m.2.2.2.2.2.2.2.2.2.2.2.1, m.2.2.2.2.2.2.2.2.2.2.2.2.1, m.2.2.2.2.2.2.2.2.2.2.2.2.2.1, m.2.2.2.2.2.2.2.2.2.2.2.2.2.2.1, m.2.2.2.2.2.2.2.2.2.2.2.2.2.2.2.1, m.2.2.2.2.2.2.2.2.2.2.2.2.2.2.2.2.1, m.2.2.2.2.2.2.2.2.2.2.2.2.2.2.2.2.2.1, m.2.2.2.2.2.2.2.2.2.2.2.2.2.2.2.2.2.2.1, (fun j => if j < 2048 then 0 else m.2.2.2.2.2.2.2.2.2.2.2.2.2.2.2.2.2.2.2 j))
theorem Rel.mark (R : Rel c d m) : Rel c (oDmark d) (oMmark m) := by
  obtain ⟨h1, h2, h3⟩ := clear_pg (pf := d.2.2.2.2.2.2.2.2.2.2.2.2) R.htc
  exact ⟨Rel.hc (c := c) (d := d) (m := m) R, Rel.hN (c := c) (d := d) (m := m) R, Rel.heq (c := c) (d := d) (m := m) R, Rel.hpl (c := c) (d := d) (m := m) R, Rel.hlf (c := c) (d := d) (m := m) R, Rel.hcnt (c := c) (d := d) (m := m) R, Rel.hh (c := c) (d := d) (m := m) R, Rel.hge (c := c) (d := d) (m := m) R, Rel.hwt (c := c) (d := d) (m := m) R, Rel.hw (c := c) (d := d) (m := m) R, h1, h2, h3, Rel.hrec (c := c) (d := d) (m := m) R, Rel.hnr (c := c) (d := d) (m := m) R, Rel.hrd (c := c) (d := d) (m := m) R⟩
abbrev oDcharge (d : DS) (x : Int) : DS := (d.1, d.2.1, d.2.2.1, d.2.2.2.1, d.2.2.2.2.1, d.2.2.2.2.2.1, d.2.2.2.2.2.2.1, d.2.2.2.2.2.2.2.1, (if 0 ≤ x ∧ x ≤ 999 then x else d.2.2.2.2.2.2.2.2.1), d.2.2.2.2.2.2.2.2.2.1, d.2.2.2.2.2.2.2.2.2.2.1, d.2.2.2.2.2.2.2.2.2.2.2.1, d.2.2.2.2.2.2.2.2.2.2.2.2)
abbrev oMcharge (m : MS) (x : Int) : MS := ((if 0 ≤ x ∧ x ≤ 999 then 0 else 1), m.2.1, m.2.2.1, m.2.2.2.1, m.2.2.2.2.1, m.2.2.2.2.2.1, m.2.2.2.2.2.2.1, m.2.2.2.2.2.2.2.1, m.2.2.2.2.2.2.2.2.1, m.2.2.2.2.2.2.2.2.2.1, (if 0 ≤ x ∧ x ≤ 999 then x else m.2.2.2.2.2.2.2.2.2.2.1), m.2.2.2.2.2.2.2.2.2.2.2.1, m.2.2.2.2.2.2.2.2.2.2.2.2.1, m.2.2.2.2.2.2.2.2.2.2.2.2.2.1, m.2.2.2.2.2.2.2.2.2.2.2.2.2.2.1, m.2.2.2.2.2.2.2.2.2.2.2.2.2.2.2.1, m.2.2.2.2.2.2.2.2.2.2.2.2.2.2.2.2.1, m.2.2.2.2.2.2.2.2.2.2.2.2.2.2.2.2.2.1, m.2.2.2.2.2.2.2.2.2.2.2.2.2.2.2.2.2.2.1, m.2.2.2.2.2.2.2.2.2.2.2.2.2.2.2.2.2.2.2)
theorem Rel.charge (R : Rel c d m) (x : Int) : Rel c (oDcharge d x) (oMcharge m x) := by
  have he := R.heq
  have hl := R.hlf
  refine ⟨Rel.hc (c := c) (d := d) (m := m) R, Rel.hN (c := c) (d := d) (m := m) R, ?_, Rel.hpl (c := c) (d := d) (m := m) R, ?_, Rel.hcnt (c := c) (d := d) (m := m) R, Rel.hh (c := c) (d := d) (m := m) R, Rel.hge (c := c) (d := d) (m := m) R, Rel.hwt (c := c) (d := d) (m := m) R, Rel.hw (c := c) (d := d) (m := m) R, Rel.htc (c := c) (d := d) (m := m) R, Rel.hpg (c := c) (d := d) (m := m) R, Rel.hpn (c := c) (d := d) (m := m) R, Rel.hrec (c := c) (d := d) (m := m) R, Rel.hnr (c := c) (d := d) (m := m) R, Rel.hrd (c := c) (d := d) (m := m) R⟩
  · dsimp only; rw [he.2.2.2.2.1]; exact ⟨he.1, he.2.1, he.2.2.1, he.2.2.2.1, rfl, he.2.2.2.2.2⟩
  · dsimp only; split <;> omega
end RELS
section RELT
variable {c : Int} {d : DS} {m : MS}
theorem Rel.lost (R : Rel c d m) (fd : Int) :
    mlR m.2.2.2.2.2.2.2.2.2.2.2.2.2.2.2.1 fd m.2.2.2.2.1 (m.2.2.1 - m.2.2.2.2.1).toNat m.2.2.1 - m.2.2.2.2.1 = rcN d.2.2.2.2.2.2.2.2.2.2.2.1 d.2.2.1 fd 5334 d.2.1 ∧ ∀ (w l : Int), 0 ≤ w → w ≤ 1000 * c → -1 ≤ l → l < 1000 →
    Rel c (d.1, d.2.1, rcE d.2.2.2.2.2.2.2.2.2.2.2.1 d.2.2.1 fd 5334 d.2.1, rcE d.2.2.2.2.2.2.2.2.2.2.2.1 d.2.2.1 fd 5334 d.2.1, -1, 0, 0, w, l, d.2.2.2.2.2.2.2.2.2.1, (fun j => if j < 6 then 0 else d.2.2.2.2.2.2.2.2.2.2.1 j), d.2.2.2.2.2.2.2.2.2.2.2.1, (fun j => if j < 32 then 0 else d.2.2.2.2.2.2.2.2.2.2.2.2 j))
      (m.1, m.2.1, mlR m.2.2.2.2.2.2.2.2.2.2.2.2.2.2.2.1 fd m.2.2.2.2.1 (m.2.2.1 - m.2.2.2.2.1).toNat m.2.2.1, mlU m.2.2.2.2.2.2.2.2.2.2.2.2.2.2.2.1 m.2.2.2.2.2.2.2.2.2.2.2.2.2.2.1 fd m.2.2.2.2.1 (m.2.2.1 - m.2.2.2.2.1).toNat m.2.2.1 m.2.2.2.1, m.2.2.2.2.1, 0, m.2.2.2.2.2.2.1, (if m.2.2.2.2.1 < mlR m.2.2.2.2.2.2.2.2.2.2.2.2.2.2.2.1 fd m.2.2.2.2.1 (m.2.2.1 - m.2.2.2.2.1).toNat m.2.2.1 then m.2.2.2.2.2.2.2.2.2.2.2.2.2.2.2.1 (mlR m.2.2.2.2.2.2.2.2.2.2.2.2.2.2.2.1 fd m.2.2.2.2.1 (m.2.2.1 - m.2.2.2.2.1).toNat m.2.2.1 - 1).toNat else m.2.2.2.2.2.2.1), (if m.2.2.2.2.1 < mlR m.2.2.2.2.2.2.2.2.2.2.2.2.2.2.2.1 fd m.2.2.2.2.1 (m.2.2.1 - m.2.2.2.2.1).toNat m.2.2.1 then m.2.2.2.2.2.2.2.2.2.2.2.2.2.2.2.1 (mlR m.2.2.2.2.2.2.2.2.2.2.2.2.2.2.2.1 fd m.2.2.2.2.1 (m.2.2.1 - m.2.2.2.2.1).toNat m.2.2.1 - 1).toNat else m.2.2.2.2.2.2.1), w, l, m.2.2.2.2.1 - 1, m.2.2.2.2.2.2.2.2.2.2.2.2.1, m.2.2.2.2.2.2.2.2.2.2.2.2.2.1, m.2.2.2.2.2.2.2.2.2.2.2.2.2.2.1, m.2.2.2.2.2.2.2.2.2.2.2.2.2.2.2.1, m.2.2.2.2.2.2.2.2.2.2.2.2.2.2.2.2.1, m.2.2.2.2.2.2.2.2.2.2.2.2.2.2.2.2.2.1, (fun j => if j < 6 then -1 else m.2.2.2.2.2.2.2.2.2.2.2.2.2.2.2.2.2.2.1 j), (fun j => if j < 2048 then 0 else m.2.2.2.2.2.2.2.2.2.2.2.2.2.2.2.2.2.2.2 j)) := by
  have he := R.heq
  have hp := R.hpl
  have hc := R.hc
  have hnr := R.hnr
  obtain ⟨r, r1, r2, r3, r4, r5, r6, r7, r8⟩ := R.hrec.lose fd (by omega)
  obtain ⟨p1, p2, p3⟩ := clear_pg (pf := d.2.2.2.2.2.2.2.2.2.2.2.2) R.htc
  have hE := R.hrec.toEnd r1 r2
  rw [he.1, he.2.1, r3, r5, r6]
  refine ⟨rfl, fun w l w0 w1 l0 l1 => ?_⟩
  rw [r7, r4]
  refine ⟨Rel.hc (c := c) (d := d) (m := m) R, Rel.hN (c := c) (d := d) (m := m) R, ?_, ?_, ?_, ?_, ?_, ?_, ?_, ?_, p1, p2, p3, r8, ?_, ?_⟩
  · exact ⟨rfl, rfl, rfl, rfl, rfl, rfl⟩
  · dsimp only; omega
  · exact ⟨l0, l1, w0, w1⟩
  · dsimp only; omega
  · intro j hj; dsimp only at hj; omega
  · intro j; dsimp only; split
    · omega
    · exact R.hge j
  · intro j; dsimp only; split
    · omega
    · exact R.hwt j
  · intro j hj; dsimp only; rw [if_pos hj, if_pos hj]; exact Or.inl ⟨rfl, rfl⟩
  · dsimp only; omega
  · exact Or.inl ⟨rfl, rfl⟩
abbrev oDopen (d : DS) : DS := (d.1, d.2.1, (rcE d.2.2.2.2.2.2.2.2.2.2.2.1 d.2.2.1 d.2.2.2.1 5334 d.2.1), (rcE d.2.2.2.2.2.2.2.2.2.2.2.1 d.2.2.1 d.2.2.2.1 5334 d.2.1), (-1), 0, 0, d.2.2.2.2.2.2.2.1, d.2.2.2.2.2.2.2.2.1, d.2.2.2.2.2.2.2.2.2.1, (fun j => if j < 6 then 0 else d.2.2.2.2.2.2.2.2.2.2.1 j), d.2.2.2.2.2.2.2.2.2.2.2.1, (fun j => if j < 32 then 0 else d.2.2.2.2.2.2.2.2.2.2.2.2 j))
abbrev oMopen (m : MS) : MS := (0, m.2.1, (mlR m.2.2.2.2.2.2.2.2.2.2.2.2.2.2.2.1 m.2.2.2.2.2.2.2.2.1 m.2.2.2.2.1 (m.2.2.1 - m.2.2.2.2.1).toNat m.2.2.1), (mlU m.2.2.2.2.2.2.2.2.2.2.2.2.2.2.2.1 m.2.2.2.2.2.2.2.2.2.2.2.2.2.2.1 m.2.2.2.2.2.2.2.2.1 m.2.2.2.2.1 (m.2.2.1 - m.2.2.2.2.1).toNat m.2.2.1 m.2.2.2.1), m.2.2.2.2.1, 0, m.2.2.2.2.2.2.1, (if m.2.2.2.2.1 < (mlR m.2.2.2.2.2.2.2.2.2.2.2.2.2.2.2.1 m.2.2.2.2.2.2.2.2.1 m.2.2.2.2.1 (m.2.2.1 - m.2.2.2.2.1).toNat m.2.2.1) then m.2.2.2.2.2.2.2.2.2.2.2.2.2.2.2.1 ((mlR m.2.2.2.2.2.2.2.2.2.2.2.2.2.2.2.1 m.2.2.2.2.2.2.2.2.1 m.2.2.2.2.1 (m.2.2.1 - m.2.2.2.2.1).toNat m.2.2.1) - 1).toNat else m.2.2.2.2.2.2.1), (if m.2.2.2.2.1 < (mlR m.2.2.2.2.2.2.2.2.2.2.2.2.2.2.2.1 m.2.2.2.2.2.2.2.2.1 m.2.2.2.2.1 (m.2.2.1 - m.2.2.2.2.1).toNat m.2.2.1) then m.2.2.2.2.2.2.2.2.2.2.2.2.2.2.2.1 ((mlR m.2.2.2.2.2.2.2.2.2.2.2.2.2.2.2.1 m.2.2.2.2.2.2.2.2.1 m.2.2.2.2.1 (m.2.2.1 - m.2.2.2.2.1).toNat m.2.2.1) - 1).toNat else m.2.2.2.2.2.2.1), m.2.2.2.2.2.2.2.2.2.1, m.2.2.2.2.2.2.2.2.2.2.1, (m.2.2.2.2.1 - 1), m.2.2.2.2.2.2.2.2.2.2.2.2.1, m.2.2.2.2.2.2.2.2.2.2.2.2.2.1, m.2.2.2.2.2.2.2.2.2.2.2.2.2.2.1, m.2.2.2.2.2.2.2.2.2.2.2.2.2.2.2.1, m.2.2.2.2.2.2.2.2.2.2.2.2.2.2.2.2.1, m.2.2.2.2.2.2.2.2.2.2.2.2.2.2.2.2.2.1, (fun j => if j < 6 then -1 else m.2.2.2.2.2.2.2.2.2.2.2.2.2.2.2.2.2.2.1 j), (fun j => if j < 2048 then 0 else m.2.2.2.2.2.2.2.2.2.2.2.2.2.2.2.2.2.2.2 j))
theorem Rel.open_ (R : Rel c d m) : mlR m.2.2.2.2.2.2.2.2.2.2.2.2.2.2.2.1 m.2.2.2.2.2.2.2.2.1 m.2.2.2.2.1 (m.2.2.1 - m.2.2.2.2.1).toNat m.2.2.1 - m.2.2.2.2.1 = rcN d.2.2.2.2.2.2.2.2.2.2.2.1 d.2.2.1 d.2.2.2.1 5334 d.2.1 ∧ Rel c (oDopen d) (oMopen m) := by
  obtain ⟨h1, h2⟩ := R.lost d.2.2.2.1
  have he := R.heq
  have hl := R.hlf
  have h3 := h2 d.2.2.2.2.2.2.2.1 d.2.2.2.2.2.2.2.2.1 hl.2.2.1 hl.2.2.2 hl.1 hl.2.1
  rw [he.2.2.1] at h1
  refine ⟨by rw [he.2.2.1]; exact h1, ?_⟩
  have h4 := h3.th 0
  rw [he.2.2.1, he.2.2.2.1, he.2.2.2.2.1] at h4
  have e2 : oDopen d = (d.1, d.2.1, rcE d.2.2.2.2.2.2.2.2.2.2.2.1 d.2.2.1 m.2.2.2.2.2.2.2.2.1 5334 d.2.1, rcE d.2.2.2.2.2.2.2.2.2.2.2.1 d.2.2.1 m.2.2.2.2.2.2.2.2.1 5334 d.2.1, -1, 0, 0, m.2.2.2.2.2.2.2.2.2.1, m.2.2.2.2.2.2.2.2.2.2.1, d.2.2.2.2.2.2.2.2.2.1, (fun j => if j < 6 then 0 else d.2.2.2.2.2.2.2.2.2.2.1 j), d.2.2.2.2.2.2.2.2.2.2.2.1, (fun j => if j < 32 then 0 else d.2.2.2.2.2.2.2.2.2.2.2.2 j)) := by
    rw [← he.2.2.2.1, ← he.2.2.2.2.1, ← he.2.2.1]
  rw [e2]
  exact h4
abbrev dFR (d : DS) (x : Int) : Int × Int × Int × Int := (flG d.2.2.1 (((x - 1) / 500) + 1 - (d.2.2.2.1 / 500)).toNat (d.2.2.2.1 / 500) d.2.2.2.2.2.2.2.1 d.2.2.2.2.2.2.2.2.1 d.2.2.2.1)
abbrev mFR (m : MS) (x : Int) : Int × Int × Int × Int × Int := (mflG m.2.2.2.2.2.2.2.1 x (x - m.2.2.2.2.2.2.2.2.1).toNat m.2.2.2.2.2.2.2.2.2.1 m.2.2.2.2.2.2.2.2.2.2.1 m.2.2.2.2.2.2.2.2.1 0)
abbrev oDflush (d : DS) (x : Int) : DS := (d.1, d.2.1, (if (((0 ≤ x ∧ x ≤ d.2.2.1) ∧ d.2.2.2.1 < x) ∧ (dFR d x).2.2.2 = 1) then (rcE d.2.2.2.2.2.2.2.2.2.2.2.1 d.2.2.1 (dFR d x).2.2.1 5334 d.2.1) else d.2.2.1), (if (((0 ≤ x ∧ x ≤ d.2.2.1) ∧ d.2.2.2.1 < x) ∧ (dFR d x).2.2.2 = 1) then (rcE d.2.2.2.2.2.2.2.2.2.2.2.1 d.2.2.1 (dFR d x).2.2.1 5334 d.2.1) else if ((0 ≤ x ∧ x ≤ d.2.2.1) ∧ d.2.2.2.1 < x) then (dFR d x).2.2.1 else d.2.2.2.1), (if (((0 ≤ x ∧ x ≤ d.2.2.1) ∧ d.2.2.2.1 < x) ∧ (dFR d x).2.2.2 = 1) then -1 else d.2.2.2.2.1), (if (((0 ≤ x ∧ x ≤ d.2.2.1) ∧ d.2.2.2.1 < x) ∧ (dFR d x).2.2.2 = 1) then 0 else d.2.2.2.2.2.1), (if (((0 ≤ x ∧ x ≤ d.2.2.1) ∧ d.2.2.2.1 < x) ∧ (dFR d x).2.2.2 = 1) then 0 else d.2.2.2.2.2.2.1), (if ((0 ≤ x ∧ x ≤ d.2.2.1) ∧ d.2.2.2.1 < x) then (dFR d x).1 else d.2.2.2.2.2.2.2.1), (if (((0 ≤ x ∧ x ≤ d.2.2.1) ∧ d.2.2.2.1 < x) ∧ (dFR d x).2.2.2 = 1) then -1 else if ((0 ≤ x ∧ x ≤ d.2.2.1) ∧ d.2.2.2.1 < x) then (dFR d x).2.1 else d.2.2.2.2.2.2.2.2.1), d.2.2.2.2.2.2.2.2.2.1, (if (((0 ≤ x ∧ x ≤ d.2.2.1) ∧ d.2.2.2.1 < x) ∧ (dFR d x).2.2.2 = 1) then (fun j => if j < 6 then 0 else d.2.2.2.2.2.2.2.2.2.2.1 j) else d.2.2.2.2.2.2.2.2.2.2.1), d.2.2.2.2.2.2.2.2.2.2.2.1, (if (((0 ≤ x ∧ x ≤ d.2.2.1) ∧ d.2.2.2.1 < x) ∧ (dFR d x).2.2.2 = 1) then (fun j => if j < 32 then 0 else d.2.2.2.2.2.2.2.2.2.2.2.2 j) else d.2.2.2.2.2.2.2.2.2.2.2.2))
abbrev mR1 (m : MS) (x : Int) : Int := (mlR m.2.2.2.2.2.2.2.2.2.2.2.2.2.2.2.1 (mFR m x).2.2.1 m.2.2.2.2.1 (m.2.2.1 - m.2.2.2.2.1).toNat m.2.2.1)
abbrev mU1 (m : MS) (x : Int) : Int := (mlU m.2.2.2.2.2.2.2.2.2.2.2.2.2.2.2.1 m.2.2.2.2.2.2.2.2.2.2.2.2.2.2.1 (mFR m x).2.2.1 m.2.2.2.2.1 (m.2.2.1 - m.2.2.2.2.1).toNat m.2.2.1 m.2.2.2.1)
abbrev mE1 (m : MS) (x : Int) : Int := (if m.2.2.2.2.1 < mR1 m x then m.2.2.2.2.2.2.2.2.2.2.2.2.2.2.2.1 (mR1 m x - 1).toNat else m.2.2.2.2.2.2.1)
abbrev oMflush (m : MS) (x : Int) : MS := ((if ¬ (0 ≤ x ∧ x ≤ m.2.2.2.2.2.2.2.1) then 1 else if ((0 ≤ x ∧ x ≤ m.2.2.2.2.2.2.2.1) ∧ (mFR m x).2.2.2.2 = 1) then 2 else 0), m.2.1, (if ((0 ≤ x ∧ x ≤ m.2.2.2.2.2.2.2.1) ∧ (mFR m x).2.2.2.2 = 1) then mR1 m x else m.2.2.1), (if ((0 ≤ x ∧ x ≤ m.2.2.2.2.2.2.2.1) ∧ (mFR m x).2.2.2.2 = 1) then mU1 m x else m.2.2.2.1), m.2.2.2.2.1, (if ((0 ≤ x ∧ x ≤ m.2.2.2.2.2.2.2.1) ∧ (mFR m x).2.2.2.2 = 1) then 0 else m.2.2.2.2.2.1), m.2.2.2.2.2.2.1, (if ((0 ≤ x ∧ x ≤ m.2.2.2.2.2.2.2.1) ∧ (mFR m x).2.2.2.2 = 1) then mE1 m x else m.2.2.2.2.2.2.2.1), (if ((0 ≤ x ∧ x ≤ m.2.2.2.2.2.2.2.1) ∧ (mFR m x).2.2.2.2 = 1) then mE1 m x else if (0 ≤ x ∧ x ≤ m.2.2.2.2.2.2.2.1) then (mFR m x).2.2.1 else m.2.2.2.2.2.2.2.2.1), (if (0 ≤ x ∧ x ≤ m.2.2.2.2.2.2.2.1) then (mFR m x).1 else m.2.2.2.2.2.2.2.2.2.1), (if ((0 ≤ x ∧ x ≤ m.2.2.2.2.2.2.2.1) ∧ (mFR m x).2.2.2.2 = 1) then -1 else if (0 ≤ x ∧ x ≤ m.2.2.2.2.2.2.2.1) then (mFR m x).2.1 else m.2.2.2.2.2.2.2.2.2.2.1), (if ((0 ≤ x ∧ x ≤ m.2.2.2.2.2.2.2.1) ∧ (mFR m x).2.2.2.2 = 1) then m.2.2.2.2.1 - 1 else m.2.2.2.2.2.2.2.2.2.2.2.1), m.2.2.2.2.2.2.2.2.2.2.2.2.1, m.2.2.2.2.2.2.2.2.2.2.2.2.2.1, m.2.2.2.2.2.2.2.2.2.2.2.2.2.2.1, m.2.2.2.2.2.2.2.2.2.2.2.2.2.2.2.1, m.2.2.2.2.2.2.2.2.2.2.2.2.2.2.2.2.1, m.2.2.2.2.2.2.2.2.2.2.2.2.2.2.2.2.2.1, (if ((0 ≤ x ∧ x ≤ m.2.2.2.2.2.2.2.1) ∧ (mFR m x).2.2.2.2 = 1) then (fun j => if j < 6 then -1 else m.2.2.2.2.2.2.2.2.2.2.2.2.2.2.2.2.2.2.1 j) else m.2.2.2.2.2.2.2.2.2.2.2.2.2.2.2.2.2.2.1), (if ((0 ≤ x ∧ x ≤ m.2.2.2.2.2.2.2.1) ∧ (mFR m x).2.2.2.2 = 1) then (fun j => if j < 2048 then 0 else m.2.2.2.2.2.2.2.2.2.2.2.2.2.2.2.2.2.2.2 j) else m.2.2.2.2.2.2.2.2.2.2.2.2.2.2.2.2.2.2.2))
theorem Rel.flush (R : Rel c d m) (hc1 : c < 512) (x : Int) :
    (if ¬ (0 ≤ x ∧ x ≤ d.2.2.1) then 1 else if (((0 ≤ x ∧ x ≤ d.2.2.1) ∧ d.2.2.2.1 < x) ∧ (dFR d x).2.2.2 = 1) then 2 else 0) = (oMflush m x).1 ∧
    ((oMflush m x).1 = 0 → (if d.2.2.2.1 < x then ((x - 1) / 500) - (d.2.2.2.1 / 500) + 1 else 0) = (if ¬ (0 ≤ x ∧ x ≤ m.2.2.2.2.2.2.2.1) ∨ ((0 ≤ x ∧ x ≤ m.2.2.2.2.2.2.2.1) ∧ (mFR m x).2.2.2.2 = 1) then 0 else (mFR m x).2.2.2.1)) ∧ Rel (c + 1) (oDflush d x) (oMflush m x) := by
  have he := R.heq
  have hp := R.hpl
  have hl := R.hlf
  have hc := R.hc
  by_cases hg : 0 ≤ x ∧ x ≤ d.2.2.1
  · have hg' : 0 ≤ x ∧ x ≤ m.2.2.2.2.2.2.2.1 := by omega
    by_cases hx : d.2.2.2.1 < x
    · have hs := fl_same (ee := d.2.2.1) (x := x) (((x - 1) / 500) + 1 - (d.2.2.2.1 / 500)).toNat (d.2.2.2.1 / 500) d.2.2.2.2.2.2.2.1 d.2.2.2.2.2.2.2.2.1 d.2.2.2.1 0 (x - d.2.2.2.1).toNat rfl (by omega) hx hg.2 (by omega) (by omega) hl.1 hl.2.1 hl.2.2.1
      have e1 : (flG d.2.2.1 (((x - 1) / 500) + 1 - (d.2.2.2.1 / 500)).toNat (d.2.2.2.1 / 500) d.2.2.2.2.2.2.2.1 d.2.2.2.2.2.2.2.2.1 d.2.2.2.1) = dFR d x := rfl
      have e2 : (mflG d.2.2.1 x (x - d.2.2.2.1).toNat d.2.2.2.2.2.2.2.1 d.2.2.2.2.2.2.2.2.1 d.2.2.2.1 0) = mFR m x := by rw [he.2.1, he.2.2.1, he.2.2.2.1, he.2.2.2.2.1]
      rw [e1, e2] at hs
      obtain ⟨s1, s2, s3, s4, s5, s6, s7, s8⟩ := hs
      by_cases hz : (dFR d x).2.2.2 = 1
      · have hz' : (mFR m x).2.2.2.2 = 1 := by rw [s4]; exact hz
        have hA : (((0 ≤ x ∧ x ≤ d.2.2.1) ∧ d.2.2.2.1 < x) ∧ (dFR d x).2.2.2 = 1) := ⟨⟨hg, hx⟩, hz⟩
        have hB : ((0 ≤ x ∧ x ≤ m.2.2.2.2.2.2.2.1) ∧ (mFR m x).2.2.2.2 = 1) := ⟨hg', hz'⟩
        have hth : (oMflush m x).1 = 2 := by dsimp only; rw [if_neg (fun q => q hg'), if_pos hB]
        refine ⟨by rw [hth, if_neg (fun q => q hg), if_pos hA], fun q => by rw [hth] at q; omega, ?_⟩
        obtain ⟨l1, l2⟩ := (R.more hc1).lost (dFR d x).2.2.1
        have l3 := l2 (dFR d x).1 (-1) s7.1 (by omega) (by omega) (by omega)
        have l4 := l3.th 2
        have eD : oDflush d x = (d.1, d.2.1, rcE d.2.2.2.2.2.2.2.2.2.2.2.1 d.2.2.1 (dFR d x).2.2.1 5334 d.2.1, rcE d.2.2.2.2.2.2.2.2.2.2.2.1 d.2.2.1 (dFR d x).2.2.1 5334 d.2.1, -1, 0, 0, (dFR d x).1, -1, d.2.2.2.2.2.2.2.2.2.1, (fun j => if j < 6 then 0 else d.2.2.2.2.2.2.2.2.2.2.1 j), d.2.2.2.2.2.2.2.2.2.2.2.1, (fun j => if j < 32 then 0 else d.2.2.2.2.2.2.2.2.2.2.2.2 j)) := by
          unfold oDflush
          rw [if_pos hA, if_pos hA, if_pos hA, if_pos hA, if_pos hA, if_pos hA, if_pos hA, if_pos hA, if_pos (⟨hg, hx⟩ : (0 ≤ x ∧ x ≤ d.2.2.1) ∧ d.2.2.2.1 < x)]
        have eM : oMflush m x = (2, m.2.1, mR1 m x, mU1 m x, m.2.2.2.2.1, 0, m.2.2.2.2.2.2.1, mE1 m x, mE1 m x, (mFR m x).1, -1, m.2.2.2.2.1 - 1, m.2.2.2.2.2.2.2.2.2.2.2.2.1, m.2.2.2.2.2.2.2.2.2.2.2.2.2.1, m.2.2.2.2.2.2.2.2.2.2.2.2.2.2.1, m.2.2.2.2.2.2.2.2.2.2.2.2.2.2.2.1, m.2.2.2.2.2.2.2.2.2.2.2.2.2.2.2.2.1, m.2.2.2.2.2.2.2.2.2.2.2.2.2.2.2.2.2.1, (fun j => if j < 6 then -1 else m.2.2.2.2.2.2.2.2.2.2.2.2.2.2.2.2.2.2.1 j), (fun j => if j < 2048 then 0 else m.2.2.2.2.2.2.2.2.2.2.2.2.2.2.2.2.2.2.2 j)) := by
          unfold oMflush
          rw [if_neg (fun q => q hg'), if_pos hB, if_pos hB, if_pos hB, if_pos hB, if_pos hB, if_pos hB, if_pos hB, if_pos hB, if_pos hB, if_pos hB, if_pos hg']
        rw [eD, eM]
        have e3 : (mFR m x).2.2.1 = (dFR d x).2.2.1 := s3
        have e4 : (mFR m x).1 = (dFR d x).1 := s1
        unfold mE1 mU1 mR1
        rw [e3, e4]
        exact l4
      · have hz0 : (dFR d x).2.2.2 = 0 ∧ (mFR m x).2.2.2.1 = 0 + ((((x - 1) / 500) + 1 - (d.2.2.2.1 / 500)).toNat : Int) := by
          rcases s5 with s5 | s5
          · exact absurd s5 hz
          · exact s5
        have hz' : ¬ (mFR m x).2.2.2.2 = 1 := by rw [s4]; exact hz
        have hA : ¬ (((0 ≤ x ∧ x ≤ d.2.2.1) ∧ d.2.2.2.1 < x) ∧ (dFR d x).2.2.2 = 1) := fun q => hz q.2
        have hB : ¬ ((0 ≤ x ∧ x ≤ m.2.2.2.2.2.2.2.1) ∧ (mFR m x).2.2.2.2 = 1) := fun q => hz' q.2
        have hth : (oMflush m x).1 = 0 := by dsimp only; rw [if_neg (fun q => q hg'), if_neg hB]
        refine ⟨by rw [hth, if_neg (fun q => q hg), if_neg hA], fun _ => ?_, ?_⟩
        · rw [if_pos hx, if_neg (fun q => q.elim (fun q => q hg') hB), hz0.2]; omega
        · have eD : oDflush d x = (d.1, d.2.1, d.2.2.1, (dFR d x).2.2.1, d.2.2.2.2.1, d.2.2.2.2.2.1, d.2.2.2.2.2.2.1, (dFR d x).1, (dFR d x).2.1, d.2.2.2.2.2.2.2.2.2.1, d.2.2.2.2.2.2.2.2.2.2.1, d.2.2.2.2.2.2.2.2.2.2.2.1, d.2.2.2.2.2.2.2.2.2.2.2.2) := by
            unfold oDflush
            have hA2 : ((0 ≤ x ∧ x ≤ d.2.2.1) ∧ d.2.2.2.1 < x) := ⟨hg, hx⟩
            rw [if_neg hA, if_neg hA, if_neg hA, if_neg hA, if_neg hA, if_neg hA, if_neg hA, if_neg hA, if_pos hA2, if_pos hA2, if_pos hA2]
          have eM : oMflush m x = (0, m.2.1, m.2.2.1, m.2.2.2.1, m.2.2.2.2.1, m.2.2.2.2.2.1, m.2.2.2.2.2.2.1, m.2.2.2.2.2.2.2.1, (mFR m x).2.2.1, (mFR m x).1, (mFR m x).2.1, m.2.2.2.2.2.2.2.2.2.2.2.1, m.2.2.2.2.2.2.2.2.2.2.2.2.1, m.2.2.2.2.2.2.2.2.2.2.2.2.2.1, m.2.2.2.2.2.2.2.2.2.2.2.2.2.2.1, m.2.2.2.2.2.2.2.2.2.2.2.2.2.2.2.1, m.2.2.2.2.2.2.2.2.2.2.2.2.2.2.2.2.1, m.2.2.2.2.2.2.2.2.2.2.2.2.2.2.2.2.2.1, m.2.2.2.2.2.2.2.2.2.2.2.2.2.2.2.2.2.2.1, m.2.2.2.2.2.2.2.2.2.2.2.2.2.2.2.2.2.2.2) := by
            unfold oMflush
            rw [if_neg (fun q => q hg'), if_neg hB, if_neg hB, if_neg hB, if_neg hB, if_neg hB, if_neg hB, if_neg hB, if_neg hB, if_neg hB, if_neg hB, if_pos hg', if_pos hg', if_pos hg']
          rw [eD, eM]
          exact ⟨Rel.hc (c := c + 1) (d := d) (m := m) (R.more hc1), Rel.hN (c := c + 1) (d := d) (m := m) (R.more hc1), ⟨he.1, he.2.1, s3.symm, s1.symm, s2.symm, he.2.2.2.2.2⟩, by dsimp only; omega, by dsimp only; omega, Rel.hcnt (c := c + 1) (d := d) (m := m) (R.more hc1), Rel.hh (c := c + 1) (d := d) (m := m) (R.more hc1), Rel.hge (c := c + 1) (d := d) (m := m) (R.more hc1), Rel.hwt (c := c + 1) (d := d) (m := m) (R.more hc1), Rel.hw (c := c + 1) (d := d) (m := m) (R.more hc1), Rel.htc (c := c + 1) (d := d) (m := m) (R.more hc1), Rel.hpg (c := c + 1) (d := d) (m := m) (R.more hc1), Rel.hpn (c := c + 1) (d := d) (m := m) (R.more hc1), Rel.hrec (c := c + 1) (d := d) (m := m) (R.more hc1), Rel.hnr (c := c + 1) (d := d) (m := m) (R.more hc1), Rel.hrd (c := c + 1) (d := d) (m := m) (R.more hc1)⟩
    · have e2 : mFR m x = (m.2.2.2.2.2.2.2.2.2.1, m.2.2.2.2.2.2.2.2.2.2.1, m.2.2.2.2.2.2.2.2.1, 0, 0) := mflG_end (Or.inr (by omega))
      have hA : ¬ (((0 ≤ x ∧ x ≤ d.2.2.1) ∧ d.2.2.2.1 < x) ∧ (dFR d x).2.2.2 = 1) := fun q => hx q.1.2
      have hA2 : ¬ ((0 ≤ x ∧ x ≤ d.2.2.1) ∧ d.2.2.2.1 < x) := fun q => hx q.2
      have hB : ¬ ((0 ≤ x ∧ x ≤ m.2.2.2.2.2.2.2.1) ∧ (mFR m x).2.2.2.2 = 1) := fun q => by rw [e2] at q; exact absurd (show (0 : Int) = 1 from q.2) (by decide)
      have hth : (oMflush m x).1 = 0 := by dsimp only; rw [if_neg (fun q => q hg'), if_neg hB]
      refine ⟨by rw [hth, if_neg (fun q => q hg), if_neg hA], fun _ => ?_, ?_⟩
      · rw [if_neg hx, if_neg (fun q => q.elim (fun q => q hg') hB), e2]
      · have eD : oDflush d x = d := by
          unfold oDflush
          rw [if_neg hA, if_neg hA, if_neg hA, if_neg hA, if_neg hA, if_neg hA, if_neg hA, if_neg hA, if_neg hA2, if_neg hA2, if_neg hA2]
        have eM : oMflush m x = (0, m.2.1, m.2.2.1, m.2.2.2.1, m.2.2.2.2.1, m.2.2.2.2.2.1, m.2.2.2.2.2.2.1, m.2.2.2.2.2.2.2.1, m.2.2.2.2.2.2.2.2.1, m.2.2.2.2.2.2.2.2.2.1, m.2.2.2.2.2.2.2.2.2.2.1, m.2.2.2.2.2.2.2.2.2.2.2.1, m.2.2.2.2.2.2.2.2.2.2.2.2.1, m.2.2.2.2.2.2.2.2.2.2.2.2.2.1, m.2.2.2.2.2.2.2.2.2.2.2.2.2.2.1, m.2.2.2.2.2.2.2.2.2.2.2.2.2.2.2.1, m.2.2.2.2.2.2.2.2.2.2.2.2.2.2.2.2.1, m.2.2.2.2.2.2.2.2.2.2.2.2.2.2.2.2.2.1, m.2.2.2.2.2.2.2.2.2.2.2.2.2.2.2.2.2.2.1, m.2.2.2.2.2.2.2.2.2.2.2.2.2.2.2.2.2.2.2) := by
          unfold oMflush
          rw [if_neg (fun q => q hg'), if_neg hB, if_neg hB, if_neg hB, if_neg hB, if_neg hB, if_neg hB, if_neg hB, if_neg hB, if_neg hB, if_neg hB, if_pos hg', if_pos hg', if_pos hg', e2]
        rw [eD, eM]
        exact (R.more hc1).th 0
  · have hg' : ¬ (0 ≤ x ∧ x ≤ m.2.2.2.2.2.2.2.1) := by omega
    have hA : ¬ (((0 ≤ x ∧ x ≤ d.2.2.1) ∧ d.2.2.2.1 < x) ∧ (dFR d x).2.2.2 = 1) := fun q => hg q.1.1
    have hA2 : ¬ ((0 ≤ x ∧ x ≤ d.2.2.1) ∧ d.2.2.2.1 < x) := fun q => hg q.1
    have hB : ¬ ((0 ≤ x ∧ x ≤ m.2.2.2.2.2.2.2.1) ∧ (mFR m x).2.2.2.2 = 1) := fun q => hg' q.1
    have hth : (oMflush m x).1 = 1 := by dsimp only; rw [if_pos hg']
    refine ⟨by rw [hth, if_pos hg], fun q => by rw [hth] at q; omega, ?_⟩
    have eD : oDflush d x = d := by
      unfold oDflush
      rw [if_neg hA, if_neg hA, if_neg hA, if_neg hA, if_neg hA, if_neg hA, if_neg hA, if_neg hA, if_neg hA2, if_neg hA2, if_neg hA2]
    have eM : oMflush m x = (1, m.2.1, m.2.2.1, m.2.2.2.1, m.2.2.2.2.1, m.2.2.2.2.2.1, m.2.2.2.2.2.2.1, m.2.2.2.2.2.2.2.1, m.2.2.2.2.2.2.2.2.1, m.2.2.2.2.2.2.2.2.2.1, m.2.2.2.2.2.2.2.2.2.2.1, m.2.2.2.2.2.2.2.2.2.2.2.1, m.2.2.2.2.2.2.2.2.2.2.2.2.1, m.2.2.2.2.2.2.2.2.2.2.2.2.2.1, m.2.2.2.2.2.2.2.2.2.2.2.2.2.2.1, m.2.2.2.2.2.2.2.2.2.2.2.2.2.2.2.1, m.2.2.2.2.2.2.2.2.2.2.2.2.2.2.2.2.1, m.2.2.2.2.2.2.2.2.2.2.2.2.2.2.2.2.2.1, m.2.2.2.2.2.2.2.2.2.2.2.2.2.2.2.2.2.2.1, m.2.2.2.2.2.2.2.2.2.2.2.2.2.2.2.2.2.2.2) := by
      unfold oMflush
      rw [if_pos hg', if_neg hB, if_neg hB, if_neg hB, if_neg hB, if_neg hB, if_neg hB, if_neg hB, if_neg hB, if_neg hB, if_neg hg', if_neg hg', if_neg hg']
    rw [eD, eM]
    exact (R.more hc1).th 1
end RELT
section RELU
variable {c : Int} {d : DS} {m : MS}
abbrev mAT (m : MS) (x : Int) : Int := (mAt m.2.2.2.2.2.2.2.2.2.2.2.2.2.2.2.1 x (m.2.2.1 - m.2.2.2.2.1).toNat m.2.2.2.2.1 (if x = m.2.2.2.2.2.2.1 then m.2.2.2.2.1 else -1))
abbrev dBAD (d : DS) (x : Int) : Prop := (d.2.2.2.1 < x ∨ ¬ (eg d.2.2.2.2.2.2.2.2.2.2.2.1 d.2.2.1 x 5334 d.2.1 = x))
abbrev mBAD (m : MS) (x : Int) : Prop := (mAT m x < 0 ∨ m.2.2.2.2.2.2.2.2.1 < x)
abbrev oDchk (d : DS) (x : Int) : DS := (d.1, (if ¬ dBAD d x ∧ d.2.2.2.2.2.2.2.2.1 ≠ 0 then x else d.2.1), (if (¬ dBAD d x ∧ d.2.2.2.2.2.2.2.2.1 = 0) then (rcE d.2.2.2.2.2.2.2.2.2.2.2.1 d.2.2.1 d.2.2.2.1 5334 d.2.1) else d.2.2.1), (if (¬ dBAD d x ∧ d.2.2.2.2.2.2.2.2.1 = 0) then (rcE d.2.2.2.2.2.2.2.2.2.2.2.1 d.2.2.1 d.2.2.2.1 5334 d.2.1) else d.2.2.2.1), (if dBAD d x then d.2.2.2.2.1 else -1), (if (¬ dBAD d x ∧ d.2.2.2.2.2.2.2.2.1 = 0) then 0 else d.2.2.2.2.2.1), (if (¬ dBAD d x ∧ d.2.2.2.2.2.2.2.2.1 = 0) then 0 else d.2.2.2.2.2.2.1), (if ¬ dBAD d x ∧ d.2.2.2.2.2.2.2.2.1 ≠ 0 then d.2.2.2.2.2.2.2.1 + 1 else d.2.2.2.2.2.2.2.1), (if dBAD d x then d.2.2.2.2.2.2.2.2.1 else if d.2.2.2.2.2.2.2.2.1 = 0 then -1 else if 0 < d.2.2.2.2.2.2.2.2.1 then d.2.2.2.2.2.2.2.2.1 - 1 else d.2.2.2.2.2.2.2.2.1), d.2.2.2.2.2.2.2.2.2.1, (if (¬ dBAD d x ∧ d.2.2.2.2.2.2.2.2.1 = 0) then (fun j => if j < 6 then 0 else d.2.2.2.2.2.2.2.2.2.2.1 j) else d.2.2.2.2.2.2.2.2.2.2.1), d.2.2.2.2.2.2.2.2.2.2.2.1, (if (¬ dBAD d x ∧ d.2.2.2.2.2.2.2.2.1 = 0) then (fun j => if j < 32 then 0 else d.2.2.2.2.2.2.2.2.2.2.2.2 j) else d.2.2.2.2.2.2.2.2.2.2.2.2))
abbrev mR0 (m : MS) : Int := (mlR m.2.2.2.2.2.2.2.2.2.2.2.2.2.2.2.1 m.2.2.2.2.2.2.2.2.1 m.2.2.2.2.1 (m.2.2.1 - m.2.2.2.2.1).toNat m.2.2.1)
abbrev mU0 (m : MS) : Int := (mlU m.2.2.2.2.2.2.2.2.2.2.2.2.2.2.2.1 m.2.2.2.2.2.2.2.2.2.2.2.2.2.2.1 m.2.2.2.2.2.2.2.2.1 m.2.2.2.2.1 (m.2.2.1 - m.2.2.2.2.1).toNat m.2.2.1 m.2.2.2.1)
abbrev mE0 (m : MS) : Int := (if m.2.2.2.2.1 < mR0 m then m.2.2.2.2.2.2.2.2.2.2.2.2.2.2.2.1 (mR0 m - 1).toNat else m.2.2.2.2.2.2.1)
abbrev oMchk (m : MS) (x : Int) : MS := ((if mBAD m x then 1 else if m.2.2.2.2.2.2.2.2.2.2.1 = 0 then 2 else 0), m.2.1, (if (¬ mBAD m x ∧ m.2.2.2.2.2.2.2.2.2.2.1 = 0) then mR0 m else m.2.2.1), (if (¬ mBAD m x ∧ m.2.2.2.2.2.2.2.2.2.2.1 = 0) then mU0 m else m.2.2.2.1), (if (¬ mBAD m x ∧ m.2.2.2.2.2.2.2.2.2.2.1 ≠ 0) then mAT m x else m.2.2.2.2.1), (if (¬ mBAD m x ∧ m.2.2.2.2.2.2.2.2.2.2.1 = 0) then 0 else m.2.2.2.2.2.1), (if (¬ mBAD m x ∧ m.2.2.2.2.2.2.2.2.2.2.1 ≠ 0) then x else m.2.2.2.2.2.2.1), (if (¬ mBAD m x ∧ m.2.2.2.2.2.2.2.2.2.2.1 = 0) then mE0 m else m.2.2.2.2.2.2.2.1), (if (¬ mBAD m x ∧ m.2.2.2.2.2.2.2.2.2.2.1 = 0) then mE0 m else m.2.2.2.2.2.2.2.2.1), (if (¬ mBAD m x ∧ m.2.2.2.2.2.2.2.2.2.2.1 ≠ 0) then m.2.2.2.2.2.2.2.2.2.1 + 1 else m.2.2.2.2.2.2.2.2.2.1), (if mBAD m x then m.2.2.2.2.2.2.2.2.2.2.1 else if m.2.2.2.2.2.2.2.2.2.2.1 = 0 then -1 else if 0 < m.2.2.2.2.2.2.2.2.2.2.1 then m.2.2.2.2.2.2.2.2.2.2.1 - 1 else m.2.2.2.2.2.2.2.2.2.2.1), (if (¬ mBAD m x ∧ m.2.2.2.2.2.2.2.2.2.2.1 = 0) then m.2.2.2.2.1 - 1 else if (¬ mBAD m x ∧ m.2.2.2.2.2.2.2.2.2.2.1 ≠ 0) then mAT m x - 1 else m.2.2.2.2.2.2.2.2.2.2.2.1), m.2.2.2.2.2.2.2.2.2.2.2.2.1, m.2.2.2.2.2.2.2.2.2.2.2.2.2.1, m.2.2.2.2.2.2.2.2.2.2.2.2.2.2.1, m.2.2.2.2.2.2.2.2.2.2.2.2.2.2.2.1, m.2.2.2.2.2.2.2.2.2.2.2.2.2.2.2.2.1, m.2.2.2.2.2.2.2.2.2.2.2.2.2.2.2.2.2.1, (if (¬ mBAD m x ∧ m.2.2.2.2.2.2.2.2.2.2.1 = 0) then (fun j => if j < 6 then -1 else m.2.2.2.2.2.2.2.2.2.2.2.2.2.2.2.2.2.2.1 j) else m.2.2.2.2.2.2.2.2.2.2.2.2.2.2.2.2.2.2.1), (if (¬ mBAD m x ∧ m.2.2.2.2.2.2.2.2.2.2.1 = 0) then (fun j => if j < 2048 then 0 else m.2.2.2.2.2.2.2.2.2.2.2.2.2.2.2.2.2.2.2 j) else m.2.2.2.2.2.2.2.2.2.2.2.2.2.2.2.2.2.2.2))
theorem Rel.chk (R : Rel c d m) (hc1 : c < 512) (x : Int) :
    (if dBAD d x then 1 else if d.2.2.2.2.2.2.2.2.1 = 0 then 2 else 0) = (oMchk m x).1 ∧
    ((oMchk m x).1 = 0 → (d.1 - (d.2.2.1 / 500 - x / 500 + 1)) = (if (¬ mBAD m x ∧ m.2.2.2.2.2.2.2.2.2.2.1 ≠ 0) then m.2.1 - (m.2.2.2.2.2.2.2.1 / 500 - x / 500 + 1) else 0)) ∧ Rel (c + 1) (oDchk d x) (oMchk m x) := by
  have he := R.heq
  have hp := R.hpl
  have hl := R.hlf
  have hc := R.hc
  have hnr := R.hnr
  have hrec0 := R.hrec.h0
  have hk := R.hrec.chk x (by omega)
  rw [← he.1, ← he.2.1] at hk
  have eAT : mAt m.2.2.2.2.2.2.2.2.2.2.2.2.2.2.2.1 x (m.2.2.1 - m.2.2.2.2.1).toNat m.2.2.2.2.1 (if x = d.2.1 then m.2.2.2.2.1 else -1) = mAT m x := by rw [he.1]
  rw [eAT] at hk
  have hq : dBAD d x ↔ mBAD m x := by
    unfold dBAD mBAD
    rcases hk with ⟨k1, k2⟩ | ⟨k1, k2, k3, -⟩
    · exact ⟨fun _ => Or.inl (by omega), fun _ => Or.inr k1⟩
    · constructor
      · rintro (h | h)
        · exact Or.inr (by omega)
        · exact absurd k1 h
      · rintro (h | h)
        · omega
        · exact Or.inl (by omega)
  by_cases hb : dBAD d x
  · have hb' := hq.mp hb
    have a1 : ¬ (¬ dBAD d x ∧ d.2.2.2.2.2.2.2.2.1 ≠ 0) := fun q => q.1 hb
    have a2 : ¬ (¬ dBAD d x ∧ d.2.2.2.2.2.2.2.2.1 = 0) := fun q => q.1 hb
    have b1 : ¬ (¬ mBAD m x ∧ m.2.2.2.2.2.2.2.2.2.2.1 ≠ 0) := fun q => q.1 hb'
    have b2 : ¬ (¬ mBAD m x ∧ m.2.2.2.2.2.2.2.2.2.2.1 = 0) := fun q => q.1 hb'
    have hth : (oMchk m x).1 = 1 := by dsimp only; rw [if_pos hb']
    refine ⟨by rw [hth, if_pos hb], fun q => by rw [hth] at q; omega, ?_⟩
    have eD : oDchk d x = d := by unfold oDchk; rw [if_neg a1, if_neg a2, if_neg a2, if_pos hb, if_neg a2, if_neg a2, if_neg a2, if_neg a2, if_neg a1, if_pos hb]
    have eM : oMchk m x = (1, m.2.1, m.2.2.1, m.2.2.2.1, m.2.2.2.2.1, m.2.2.2.2.2.1, m.2.2.2.2.2.2.1, m.2.2.2.2.2.2.2.1, m.2.2.2.2.2.2.2.2.1, m.2.2.2.2.2.2.2.2.2.1, m.2.2.2.2.2.2.2.2.2.2.1, m.2.2.2.2.2.2.2.2.2.2.2.1, m.2.2.2.2.2.2.2.2.2.2.2.2.1, m.2.2.2.2.2.2.2.2.2.2.2.2.2.1, m.2.2.2.2.2.2.2.2.2.2.2.2.2.2.1, m.2.2.2.2.2.2.2.2.2.2.2.2.2.2.2.1, m.2.2.2.2.2.2.2.2.2.2.2.2.2.2.2.2.1, m.2.2.2.2.2.2.2.2.2.2.2.2.2.2.2.2.2.1, m.2.2.2.2.2.2.2.2.2.2.2.2.2.2.2.2.2.2.1, m.2.2.2.2.2.2.2.2.2.2.2.2.2.2.2.2.2.2.2) := by unfold oMchk; rw [if_neg b2, if_neg b2, if_neg b2, if_neg b2, if_neg b2, if_neg b2, if_neg b2, if_neg b2, if_neg b1, if_pos hb', if_neg b1, if_neg b1, if_pos hb', if_neg b1]
    rw [eD, eM]
    exact (R.more hc1).th 1
  · have hb' : ¬ mBAD m x := fun q => hb (hq.mpr q)
    have hk1 : eg d.2.2.2.2.2.2.2.2.2.2.2.1 d.2.2.1 x 5334 d.2.1 = x ∧ ¬ d.2.2.2.1 < x := by
      unfold dBAD at hb
      refine ⟨?_, fun q => hb (Or.inl q)⟩
      by_cases h : eg d.2.2.2.2.2.2.2.2.2.2.2.1 d.2.2.1 x 5334 d.2.1 = x
      · exact h
      · exact absurd (Or.inr h) hb
    by_cases hz : d.2.2.2.2.2.2.2.2.1 = 0
    · have hz' : m.2.2.2.2.2.2.2.2.2.2.1 = 0 := by omega
      have a1 : ¬ (¬ dBAD d x ∧ d.2.2.2.2.2.2.2.2.1 ≠ 0) := fun q => q.2 hz
      have a2 : (¬ dBAD d x ∧ d.2.2.2.2.2.2.2.2.1 = 0) := ⟨hb, hz⟩
      have b1 : ¬ (¬ mBAD m x ∧ m.2.2.2.2.2.2.2.2.2.2.1 ≠ 0) := fun q => q.2 hz'
      have b2 : (¬ mBAD m x ∧ m.2.2.2.2.2.2.2.2.2.2.1 = 0) := ⟨hb', hz'⟩
      have hth : (oMchk m x).1 = 2 := by dsimp only; rw [if_neg hb', if_pos hz']
      refine ⟨by rw [hth, if_neg hb, if_pos hz], fun q => by rw [hth] at q; omega, ?_⟩
      obtain ⟨l1, l2⟩ := (R.more hc1).lost d.2.2.2.1
      have l3 := (l2 d.2.2.2.2.2.2.2.1 (-1) hl.2.2.1 (by omega) (by omega) (by omega)).th 2
      have eD : oDchk d x = (d.1, d.2.1, rcE d.2.2.2.2.2.2.2.2.2.2.2.1 d.2.2.1 d.2.2.2.1 5334 d.2.1, rcE d.2.2.2.2.2.2.2.2.2.2.2.1 d.2.2.1 d.2.2.2.1 5334 d.2.1, -1, 0, 0, d.2.2.2.2.2.2.2.1, -1, d.2.2.2.2.2.2.2.2.2.1, (fun j => if j < 6 then 0 else d.2.2.2.2.2.2.2.2.2.2.1 j), d.2.2.2.2.2.2.2.2.2.2.2.1, (fun j => if j < 32 then 0 else d.2.2.2.2.2.2.2.2.2.2.2.2 j)) := by
        unfold oDchk; rw [if_neg a1, if_pos a2, if_pos a2, if_neg hb, if_pos a2, if_pos a2, if_pos a2, if_pos a2, if_neg a1, if_neg hb, if_pos hz]
      have eM : oMchk m x = (2, m.2.1, mR0 m, mU0 m, m.2.2.2.2.1, 0, m.2.2.2.2.2.2.1, mE0 m, mE0 m, m.2.2.2.2.2.2.2.2.2.1, -1, m.2.2.2.2.1 - 1, m.2.2.2.2.2.2.2.2.2.2.2.2.1, m.2.2.2.2.2.2.2.2.2.2.2.2.2.1, m.2.2.2.2.2.2.2.2.2.2.2.2.2.2.1, m.2.2.2.2.2.2.2.2.2.2.2.2.2.2.2.1, m.2.2.2.2.2.2.2.2.2.2.2.2.2.2.2.2.1, m.2.2.2.2.2.2.2.2.2.2.2.2.2.2.2.2.2.1, (fun j => if j < 6 then -1 else m.2.2.2.2.2.2.2.2.2.2.2.2.2.2.2.2.2.2.1 j), (fun j => if j < 2048 then 0 else m.2.2.2.2.2.2.2.2.2.2.2.2.2.2.2.2.2.2.2 j)) := by
        unfold oMchk; rw [if_pos b2, if_pos b2, if_pos b2, if_pos b2, if_pos b2, if_pos b2, if_pos b2, if_pos b2, if_neg hb', if_pos hz', if_neg b1, if_neg b1, if_neg hb', if_pos hz', if_neg b1]
      rw [eD, eM]
      unfold mE0 mU0 mR0
      rw [← he.2.2.1, ← he.2.2.2.1]
      exact l3
    · have hz' : ¬ m.2.2.2.2.2.2.2.2.2.2.1 = 0 := by omega
      have a1 : (¬ dBAD d x ∧ d.2.2.2.2.2.2.2.2.1 ≠ 0) := ⟨hb, hz⟩
      have a2 : ¬ (¬ dBAD d x ∧ d.2.2.2.2.2.2.2.2.1 = 0) := fun q => hz q.2
      have b1 : (¬ mBAD m x ∧ m.2.2.2.2.2.2.2.2.2.2.1 ≠ 0) := ⟨hb', hz'⟩
      have b2 : ¬ (¬ mBAD m x ∧ m.2.2.2.2.2.2.2.2.2.2.1 = 0) := fun q => hz' q.2
      have hth : (oMchk m x).1 = 0 := by dsimp only; rw [if_neg hb', if_neg hz']
      refine ⟨by rw [hth, if_neg hb, if_neg hz], fun _ => by rw [if_pos b1]; rw [R.hN.1, he.2.1], ?_⟩
      have eD : oDchk d x = (d.1, x, d.2.2.1, d.2.2.2.1, -1, d.2.2.2.2.2.1, d.2.2.2.2.2.2.1, d.2.2.2.2.2.2.2.1 + 1, if 0 < d.2.2.2.2.2.2.2.2.1 then d.2.2.2.2.2.2.2.2.1 - 1 else d.2.2.2.2.2.2.2.2.1, d.2.2.2.2.2.2.2.2.2.1, d.2.2.2.2.2.2.2.2.2.2.1, d.2.2.2.2.2.2.2.2.2.2.2.1, d.2.2.2.2.2.2.2.2.2.2.2.2) := by
        unfold oDchk; rw [if_pos a1, if_neg a2, if_neg a2, if_neg hb, if_neg a2, if_neg a2, if_neg a2, if_neg a2, if_pos a1, if_neg hb, if_neg hz]
      have eM : oMchk m x = (0, m.2.1, m.2.2.1, m.2.2.2.1, mAT m x, m.2.2.2.2.2.1, x, m.2.2.2.2.2.2.2.1, m.2.2.2.2.2.2.2.2.1, m.2.2.2.2.2.2.2.2.2.1 + 1, (if 0 < m.2.2.2.2.2.2.2.2.2.2.1 then m.2.2.2.2.2.2.2.2.2.2.1 - 1 else m.2.2.2.2.2.2.2.2.2.2.1), mAT m x - 1, m.2.2.2.2.2.2.2.2.2.2.2.2.1, m.2.2.2.2.2.2.2.2.2.2.2.2.2.1, m.2.2.2.2.2.2.2.2.2.2.2.2.2.2.1, m.2.2.2.2.2.2.2.2.2.2.2.2.2.2.2.1, m.2.2.2.2.2.2.2.2.2.2.2.2.2.2.2.2.1, m.2.2.2.2.2.2.2.2.2.2.2.2.2.2.2.2.2.1, m.2.2.2.2.2.2.2.2.2.2.2.2.2.2.2.2.2.2.1, m.2.2.2.2.2.2.2.2.2.2.2.2.2.2.2.2.2.2.2) := by
        unfold oMchk; rw [if_neg b2, if_neg b2, if_neg b2, if_neg b2, if_neg b2, if_neg b2, if_neg b2, if_neg b2, if_pos b1, if_neg hb', if_neg hz', if_pos b1, if_pos b1, if_neg hb', if_neg hz', if_pos b1]
      rw [eD, eM]
      rcases hk with ⟨k1, k2⟩ | ⟨k1, k2, k3, k4, k5⟩
      · exact absurd hk1.1 k1
      · have hx : 0 ≤ x := k5.h0.2.2
        rw [he.2.1] at k5
        refine ⟨Rel.hc (c := c + 1) (d := d) (m := m) (R.more hc1), Rel.hN (c := c + 1) (d := d) (m := m) (R.more hc1), ?_, ?_, ?_, Rel.hcnt (c := c + 1) (d := d) (m := m) (R.more hc1), Rel.hh (c := c + 1) (d := d) (m := m) (R.more hc1), Rel.hge (c := c + 1) (d := d) (m := m) (R.more hc1), Rel.hwt (c := c + 1) (d := d) (m := m) (R.more hc1), Rel.hw (c := c + 1) (d := d) (m := m) (R.more hc1), Rel.htc (c := c + 1) (d := d) (m := m) (R.more hc1), Rel.hpg (c := c + 1) (d := d) (m := m) (R.more hc1), Rel.hpn (c := c + 1) (d := d) (m := m) (R.more hc1), k5, Rel.hnr (c := c + 1) (d := d) (m := m) (R.more hc1), Or.inl ⟨rfl, rfl⟩⟩
        · exact ⟨rfl, he.2.1, he.2.2.1, by show d.2.2.2.2.2.2.2.1 + 1 = m.2.2.2.2.2.2.2.2.2.1 + 1; omega, by show (if 0 < d.2.2.2.2.2.2.2.2.1 then d.2.2.2.2.2.2.2.2.1 - 1 else d.2.2.2.2.2.2.2.2.1) = (if 0 < m.2.2.2.2.2.2.2.2.2.2.1 then m.2.2.2.2.2.2.2.2.2.2.1 - 1 else m.2.2.2.2.2.2.2.2.2.2.1); rw [he.2.2.2.2.1], he.2.2.2.2.2⟩
        · dsimp only; omega
        · dsimp only; split <;> omega
abbrev oMshr (m : MS) : MS := (m.1, m.2.1, (m.2.2.1 - m.2.2.2.2.1), (m.2.2.2.1 - FF m.2.2.1 m.2.2.2.1 m.2.2.2.2.2.2.2.2.2.2.2.2.2.1 m.2.2.2.2.1.toNat), 0, m.2.2.2.2.2.1, m.2.2.2.2.2.2.1, m.2.2.2.2.2.2.2.1, m.2.2.2.2.2.2.2.2.1, m.2.2.2.2.2.2.2.2.2.1, m.2.2.2.2.2.2.2.2.2.2.1, (m.2.2.2.2.2.2.2.2.2.2.2.1 - m.2.2.2.2.1), (fun j : Nat => if (j : Int) < m.2.2.1 - m.2.2.2.2.1 then m.2.2.2.2.2.2.2.2.2.2.2.2.1 (j + m.2.2.2.2.1.toNat) else m.2.2.2.2.2.2.2.2.2.2.2.2.1 j), (fun j : Nat => if (j : Int) < m.2.2.1 - m.2.2.2.2.1 then m.2.2.2.2.2.2.2.2.2.2.2.2.2.1 (j + m.2.2.2.2.1.toNat) - FF m.2.2.1 m.2.2.2.1 m.2.2.2.2.2.2.2.2.2.2.2.2.2.1 m.2.2.2.2.1.toNat else m.2.2.2.2.2.2.2.2.2.2.2.2.2.1 j), (fun j : Nat => if (j : Int) < m.2.2.1 - m.2.2.2.2.1 then m.2.2.2.2.2.2.2.2.2.2.2.2.2.2.1 (j + m.2.2.2.2.1.toNat) else m.2.2.2.2.2.2.2.2.2.2.2.2.2.2.1 j), (fun j : Nat => if (j : Int) < m.2.2.1 - m.2.2.2.2.1 then m.2.2.2.2.2.2.2.2.2.2.2.2.2.2.2.1 (j + m.2.2.2.2.1.toNat) else m.2.2.2.2.2.2.2.2.2.2.2.2.2.2.2.1 j), (fun j : Nat => if (j : Int) < m.2.2.2.1 - FF m.2.2.1 m.2.2.2.1 m.2.2.2.2.2.2.2.2.2.2.2.2.2.1 m.2.2.2.2.1.toNat then Int.bmod (m.2.2.2.2.2.2.2.2.2.2.2.2.2.2.2.2.1 (j + (FF m.2.2.1 m.2.2.2.1 m.2.2.2.2.2.2.2.2.2.2.2.2.2.1 m.2.2.2.2.1.toNat).toNat)) 256 else m.2.2.2.2.2.2.2.2.2.2.2.2.2.2.2.2.1 j), m.2.2.2.2.2.2.2.2.2.2.2.2.2.2.2.2.2.1, m.2.2.2.2.2.2.2.2.2.2.2.2.2.2.2.2.2.2.1, m.2.2.2.2.2.2.2.2.2.2.2.2.2.2.2.2.2.2.2)
theorem Rel.shr (R : Rel c d m) : Rel c d (oMshr m) := by
  have h0 := R.hrec.h0
  have hS := R.hrec.shrink (kd' := (oMshr m).2.2.2.2.2.2.2.2.2.2.2.2.1) (fr' := (oMshr m).2.2.2.2.2.2.2.2.2.2.2.2.2.1) (siz' := (oMshr m).2.2.2.2.2.2.2.2.2.2.2.2.2.2.1) (ed' := (oMshr m).2.2.2.2.2.2.2.2.2.2.2.2.2.2.2.1) (yb' := (oMshr m).2.2.2.2.2.2.2.2.2.2.2.2.2.2.2.2.1) (fun j h => if_pos h) (fun j h => if_pos h) (fun j => rfl) (fun j => rfl) (fun j h => by
    show (if (j : Int) < m.2.2.2.1 - FF m.2.2.1 m.2.2.2.1 m.2.2.2.2.2.2.2.2.2.2.2.2.2.1 m.2.2.2.2.1.toNat then Int.bmod (m.2.2.2.2.2.2.2.2.2.2.2.2.2.2.2.2.1 (j + (FF m.2.2.1 m.2.2.2.1 m.2.2.2.2.2.2.2.2.2.2.2.2.2.1 m.2.2.2.2.1.toNat).toNat)) 256 else m.2.2.2.2.2.2.2.2.2.2.2.2.2.2.2.2.1 j) % 256 = _
    rw [if_pos h]
    have := Int.bmod_emod (x := m.2.2.2.2.2.2.2.2.2.2.2.2.2.2.2.2.1 (j + (FF m.2.2.1 m.2.2.2.1 m.2.2.2.2.2.2.2.2.2.2.2.2.2.1 m.2.2.2.2.1.toNat).toNat)) (m := 256)
    simpa using this)
  refine ⟨Rel.hc (c := c) (d := d) (m := m) R, Rel.hN (c := c) (d := d) (m := m) R, Rel.heq (c := c) (d := d) (m := m) R, Rel.hpl (c := c) (d := d) (m := m) R, Rel.hlf (c := c) (d := d) (m := m) R, Rel.hcnt (c := c) (d := d) (m := m) R, Rel.hh (c := c) (d := d) (m := m) R, Rel.hge (c := c) (d := d) (m := m) R, Rel.hwt (c := c) (d := d) (m := m) R, Rel.hw (c := c) (d := d) (m := m) R, Rel.htc (c := c) (d := d) (m := m) R, Rel.hpg (c := c) (d := d) (m := m) R, Rel.hpn (c := c) (d := d) (m := m) R, hS, ?_, ?_⟩
  · have := R.hnr; dsimp only; omega
  · dsimp only
    rcases R.hrd with h1 | ⟨h1, h2, h3⟩
    · exact Or.inl ⟨h1.1, by omega⟩
    · refine Or.inr ⟨by omega, by omega, ?_⟩
      rw [h3]
      unfold SS
      by_cases e : m.2.2.2.2.2.2.2.2.2.2.2.1 = m.2.2.2.2.1
      · rw [if_pos (by omega), if_pos (by omega)]
      · rw [if_neg (by omega), if_neg (by omega)]
        dsimp only
        rw [if_pos (by omega)]
        exact congrArg m.2.2.2.2.2.2.2.2.2.2.2.2.2.2.2.1 (by omega)
theorem Rel.shrU (R : Rel c d m) (n : Int) (hf : ¬ m.2.1 ≤ (m.2.2.2.2.2.2.2.1 + 3 + n - 1) / 500 - m.2.2.2.2.2.2.1 / 500) : (oMshr m).2.2.2.1 + n ≤ 19000 := by
  have h0 := R.hrec.h0
  have h1 := R.hrec.sum (m.2.2.1 - m.2.2.2.2.1).toNat m.2.2.2.2.1.toNat (by omega) (by omega)
  rw [SS_fi h0.1] at h1
  have hN := R.hN
  show m.2.2.2.1 - FF m.2.2.1 m.2.2.2.1 m.2.2.2.2.2.2.2.2.2.2.2.2.2.1 m.2.2.2.2.1.toNat + n ≤ 19000
  omega
abbrev dFULL (d : DS) (n : Int) : Prop := (1000000000 < d.2.2.1 + 3 + n ∨ d.1 ≤ (d.2.2.1 + 3 + n - 1) / 500 - d.2.1 / 500)
abbrev mFULL (m : MS) (n : Int) : Prop := (m.2.1 ≤ (m.2.2.2.2.2.2.2.1 + 3 + n - 1) / 500 - m.2.2.2.2.2.2.1 / 500)
theorem Rel.full (R : Rel c d m) {n : Int} (hn : 0 ≤ n ∧ n ≤ 600) : dFULL d n ↔ mFULL m n := by
  have he := R.heq
  have hp := R.hpl
  have hc := R.hc
  have hN := R.hN
  unfold dFULL mFULL
  rw [hN.1, he.1, he.2.1] at *
  omega
abbrev oDapp (d : DS) (x : Int) : DS := (d.1, d.2.1, (if ((1 ≤ x ∧ x ≤ 14) ∧ ¬ dFULL d d.2.2.2.2.2.1) then d.2.2.1 + 3 + d.2.2.2.2.2.1 else d.2.2.1), d.2.2.2.1, d.2.2.2.2.1, (if ((1 ≤ x ∧ x ≤ 14) ∧ ¬ dFULL d d.2.2.2.2.2.1) then 0 else d.2.2.2.2.2.1), d.2.2.2.2.2.2.1, d.2.2.2.2.2.2.2.1, d.2.2.2.2.2.2.2.2.1, d.2.2.2.2.2.2.2.2.2.1, d.2.2.2.2.2.2.2.2.2.2.1, (if ((1 ≤ x ∧ x ≤ 14) ∧ ¬ dFULL d d.2.2.2.2.2.1) then (uW (uP (uP (uP d.2.2.2.2.2.2.2.2.2.2.2.1 d.2.2.1 x) (d.2.2.1 + 1) (d.2.2.2.2.2.1 / 256)) (d.2.2.1 + 2) d.2.2.2.2.2.1) (d.2.2.1 + 3) (fun j => d.2.2.2.2.2.2.2.2.2.1 j % 256) d.2.2.2.2.2.1.toNat) else d.2.2.2.2.2.2.2.2.2.2.2.1), d.2.2.2.2.2.2.2.2.2.2.2.2)
abbrev mGA (m : MS) (x : Int) : Prop := ((1 ≤ x ∧ x ≤ 14) ∧ ¬ mFULL m m.2.2.2.2.2.1)
abbrev oMapp (m : MS) (x : Int) : MS := ((if ¬ (1 ≤ x ∧ x ≤ 14) then 1 else if mFULL m m.2.2.2.2.2.1 then 2 else 0), m.2.1, (if mGA m x then m.2.2.1 + 1 else m.2.2.1), (if mGA m x then m.2.2.2.1 + m.2.2.2.2.2.1 else m.2.2.2.1), m.2.2.2.2.1, (if mGA m x then 0 else m.2.2.2.2.2.1), m.2.2.2.2.2.2.1, (if mGA m x then m.2.2.2.2.2.2.2.1 + 3 + m.2.2.2.2.2.1 else m.2.2.2.2.2.2.2.1), m.2.2.2.2.2.2.2.2.1, m.2.2.2.2.2.2.2.2.2.1, m.2.2.2.2.2.2.2.2.2.2.1, m.2.2.2.2.2.2.2.2.2.2.2.1, (if mGA m x then va_up m.2.2.2.2.2.2.2.2.2.2.2.2.1 m.2.2.1.toNat x else m.2.2.2.2.2.2.2.2.2.2.2.2.1), (if mGA m x then va_up m.2.2.2.2.2.2.2.2.2.2.2.2.2.1 m.2.2.1.toNat m.2.2.2.1 else m.2.2.2.2.2.2.2.2.2.2.2.2.2.1), (if mGA m x then va_up m.2.2.2.2.2.2.2.2.2.2.2.2.2.2.1 m.2.2.1.toNat m.2.2.2.2.2.1 else m.2.2.2.2.2.2.2.2.2.2.2.2.2.2.1), (if mGA m x then va_up m.2.2.2.2.2.2.2.2.2.2.2.2.2.2.2.1 m.2.2.1.toNat (m.2.2.2.2.2.2.2.1 + 3 + m.2.2.2.2.2.1) else m.2.2.2.2.2.2.2.2.2.2.2.2.2.2.2.1), (if mGA m x then (fun j : Nat => if m.2.2.2.1 ≤ (j : Int) ∧ (j : Int) < m.2.2.2.1 + m.2.2.2.2.2.1 then Int.bmod (m.2.2.2.2.2.2.2.2.2.2.2.2.2.2.2.2.2.1 ((j : Int) - m.2.2.2.1).toNat) 256 else m.2.2.2.2.2.2.2.2.2.2.2.2.2.2.2.2.1 j) else m.2.2.2.2.2.2.2.2.2.2.2.2.2.2.2.2.1), m.2.2.2.2.2.2.2.2.2.2.2.2.2.2.2.2.2.1, m.2.2.2.2.2.2.2.2.2.2.2.2.2.2.2.2.2.2.1, m.2.2.2.2.2.2.2.2.2.2.2.2.2.2.2.2.2.2.2)
theorem Rel.app (R : Rel c d m) (hc1 : c < 512) (x : Int) (hu : mGA m x → m.2.2.2.1 + m.2.2.2.2.2.1 ≤ 19000) :
    (if ¬ (1 ≤ x ∧ x ≤ 14) then 1 else if dFULL d d.2.2.2.2.2.1 then 2 else 0) = (oMapp m x).1 ∧ ((oMapp m x).1 = 0 → d.2.2.1 + 3 + d.2.2.2.2.2.1 = (if mGA m x then m.2.2.2.2.2.2.2.1 + 3 + m.2.2.2.2.2.1 else 0)) ∧ Rel (c + 1) (oDapp d x) (oMapp m x) := by
  have he := R.heq
  have hp := R.hpl
  have hc := R.hc
  have hN := R.hN
  have hcn := R.hcnt
  have hnr := R.hnr
  have h0 := R.hrec.h0
  have hq := R.full hcn
  have hq' : dFULL d d.2.2.2.2.2.1 ↔ mFULL m m.2.2.2.2.2.1 := by rw [hq, he.2.2.2.2.2]
  by_cases hg : ((1 ≤ x ∧ x ≤ 14) ∧ ¬ dFULL d d.2.2.2.2.2.1)
  · have hg' : mGA m x := ⟨hg.1, fun q => hg.2 (hq'.mpr q)⟩
    have hth : (oMapp m x).1 = 0 := by dsimp only; rw [if_neg (fun q => q hg.1), if_neg hg'.2]
    refine ⟨by rw [hth, if_neg (fun q => q hg.1), if_neg hg.2], fun _ => by rw [if_pos hg', he.2.1, he.2.2.2.2.2], ?_⟩
    have eD : oDapp d x = (d.1, d.2.1, d.2.2.1 + 3 + d.2.2.2.2.2.1, d.2.2.2.1, d.2.2.2.2.1, 0, d.2.2.2.2.2.2.1, d.2.2.2.2.2.2.2.1, d.2.2.2.2.2.2.2.2.1, d.2.2.2.2.2.2.2.2.2.1, d.2.2.2.2.2.2.2.2.2.2.1, (uW (uP (uP (uP d.2.2.2.2.2.2.2.2.2.2.2.1 d.2.2.1 x) (d.2.2.1 + 1) (d.2.2.2.2.2.1 / 256)) (d.2.2.1 + 2) d.2.2.2.2.2.1) (d.2.2.1 + 3) (fun j => d.2.2.2.2.2.2.2.2.2.1 j % 256) d.2.2.2.2.2.1.toNat), d.2.2.2.2.2.2.2.2.2.2.2.2) := by
      unfold oDapp; rw [if_pos hg, if_pos hg, if_pos hg]
    have eM : oMapp m x = (0, m.2.1, m.2.2.1 + 1, m.2.2.2.1 + m.2.2.2.2.2.1, m.2.2.2.2.1, 0, m.2.2.2.2.2.2.1, m.2.2.2.2.2.2.2.1 + 3 + m.2.2.2.2.2.1, m.2.2.2.2.2.2.2.2.1, m.2.2.2.2.2.2.2.2.2.1, m.2.2.2.2.2.2.2.2.2.2.1, m.2.2.2.2.2.2.2.2.2.2.2.1, va_up m.2.2.2.2.2.2.2.2.2.2.2.2.1 m.2.2.1.toNat x, va_up m.2.2.2.2.2.2.2.2.2.2.2.2.2.1 m.2.2.1.toNat m.2.2.2.1, va_up m.2.2.2.2.2.2.2.2.2.2.2.2.2.2.1 m.2.2.1.toNat m.2.2.2.2.2.1, va_up m.2.2.2.2.2.2.2.2.2.2.2.2.2.2.2.1 m.2.2.1.toNat (m.2.2.2.2.2.2.2.1 + 3 + m.2.2.2.2.2.1), (fun j : Nat => if m.2.2.2.1 ≤ (j : Int) ∧ (j : Int) < m.2.2.2.1 + m.2.2.2.2.2.1 then Int.bmod (m.2.2.2.2.2.2.2.2.2.2.2.2.2.2.2.2.2.1 ((j : Int) - m.2.2.2.1).toNat) 256 else m.2.2.2.2.2.2.2.2.2.2.2.2.2.2.2.2.1 j), m.2.2.2.2.2.2.2.2.2.2.2.2.2.2.2.2.2.1, m.2.2.2.2.2.2.2.2.2.2.2.2.2.2.2.2.2.2.1, m.2.2.2.2.2.2.2.2.2.2.2.2.2.2.2.2.2.2.2) := by
      unfold oMapp; rw [if_neg (fun q => q hg.1), if_neg hg'.2, if_pos hg', if_pos hg', if_pos hg', if_pos hg', if_pos hg', if_pos hg', if_pos hg', if_pos hg', if_pos hg']
    rw [eD, eM]
    have hfl := hg.2
    unfold dFULL at hfl
    have hnw := newRec (u := d.2.2.2.2.2.2.2.2.2.2.2.1) (bg := d.2.1) (en := d.2.2.1) (kind := x) (n := d.2.2.2.2.2.1) (f := fun j => d.2.2.2.2.2.2.2.2.2.1 j % 256) (by omega) hcn (by omega)
    rw [he.1, he.2.1, he.2.2.2.2.2] at hnw
    have hus := R.hrec.usz
    have hR := R.hrec.add (yb' := (fun j : Nat => if m.2.2.2.1 ≤ (j : Int) ∧ (j : Int) < m.2.2.2.1 + m.2.2.2.2.2.1 then Int.bmod (m.2.2.2.2.2.2.2.2.2.2.2.2.2.2.2.2.2.1 ((j : Int) - m.2.2.2.1).toNat) 256 else m.2.2.2.2.2.2.2.2.2.2.2.2.2.2.2.2.1 j)) hnw (by omega) (hu hg') (by omega) (fun j hj => if_neg (by omega)) (fun i i0 i1 => by
      show (if m.2.2.2.1 ≤ (((m.2.2.2.1 + i).toNat : Nat) : Int) ∧ (((m.2.2.2.1 + i).toNat : Nat) : Int) < m.2.2.2.1 + m.2.2.2.2.2.1 then Int.bmod (m.2.2.2.2.2.2.2.2.2.2.2.2.2.2.2.2.2.1 ((((m.2.2.2.1 + i).toNat : Nat) : Int) - m.2.2.2.1).toNat) 256 else m.2.2.2.2.2.2.2.2.2.2.2.2.2.2.2.2.1 (m.2.2.2.1 + i).toNat) % 256 = (d.2.2.2.2.2.2.2.2.2.1 i.toNat % 256) % 256
      rw [if_pos (by omega), show (((m.2.2.2.1 + i).toNat : Nat) : Int) - m.2.2.2.1 = i by omega]
      have := Int.bmod_emod (x := m.2.2.2.2.2.2.2.2.2.2.2.2.2.2.2.2.2.1 i.toNat) (m := 256)
      have h5 := R.hh i.toNat (by omega)
      simp at this
      omega)
    rw [← he.2.1, ← he.2.2.2.2.2] at hR
    rw [he.2.1, he.2.2.2.2.2] at hR
    refine ⟨Rel.hc (c := c + 1) (d := d) (m := m) (R.more hc1), Rel.hN (c := c + 1) (d := d) (m := m) (R.more hc1), ?_, ?_, Rel.hlf (c := c + 1) (d := d) (m := m) (R.more hc1), ?_, ?_, Rel.hge (c := c + 1) (d := d) (m := m) (R.more hc1), Rel.hwt (c := c + 1) (d := d) (m := m) (R.more hc1), Rel.hw (c := c + 1) (d := d) (m := m) (R.more hc1), Rel.htc (c := c + 1) (d := d) (m := m) (R.more hc1), Rel.hpg (c := c + 1) (d := d) (m := m) (R.more hc1), Rel.hpn (c := c + 1) (d := d) (m := m) (R.more hc1), ?_, ?_, ?_⟩
    · exact ⟨he.1, by show d.2.2.1 + 3 + d.2.2.2.2.2.1 = m.2.2.2.2.2.2.2.1 + 3 + m.2.2.2.2.2.1; omega, he.2.2.1, he.2.2.2.1, he.2.2.2.2.1, rfl⟩
    · dsimp only; omega
    · dsimp only; omega
    · intro j hj; dsimp only at hj; omega
    · dsimp only; rw [he.2.1, he.2.2.2.2.2]; exact hR
    · dsimp only; omega
    · dsimp only
      rcases R.hrd with h1 | ⟨h1, h2, h3⟩
      · exact Or.inl h1
      · refine Or.inr ⟨h1, by omega, ?_⟩
        rw [h3]
        unfold SS
        by_cases e : ((m.2.2.2.2.2.2.2.2.2.2.2.1.toNat : Nat) : Int) = m.2.2.2.2.1
        · rw [if_pos e, if_pos e]
        · rw [if_neg e, if_neg e, va_up_ne _ _ (by omega)]
  · have hg' : ¬ mGA m x := fun q => hg ⟨q.1, fun r => q.2 (hq'.mp r)⟩
    have hk : (if ¬ (1 ≤ x ∧ x ≤ 14) then (1 : Int) else if dFULL d d.2.2.2.2.2.1 then 2 else 0) = (oMapp m x).1 := by
      dsimp only
      by_cases h1 : ¬ (1 ≤ x ∧ x ≤ 14)
      · rw [if_pos h1, if_pos h1]
      · rw [if_neg h1, if_neg h1]
        by_cases h2 : dFULL d d.2.2.2.2.2.1
        · rw [if_pos h2, if_pos (hq'.mp h2)]
        · rw [if_neg h2, if_neg (fun q => h2 (hq'.mpr q))]
    refine ⟨hk, ?_, ?_⟩
    · intro q
      exfalso
      dsimp only at q
      by_cases h1 : ¬ (1 ≤ x ∧ x ≤ 14)
      · rw [if_pos h1] at q; omega
      · rw [if_neg h1] at q
        by_cases h2 : mFULL m m.2.2.2.2.2.1
        · rw [if_pos h2] at q; omega
        · exact hg' ⟨by omega, h2⟩
    · have eD : oDapp d x = d := by unfold oDapp; rw [if_neg hg, if_neg hg, if_neg hg]
      have eM : oMapp m x = ((oMapp m x).1, m.2.1, m.2.2.1, m.2.2.2.1, m.2.2.2.2.1, m.2.2.2.2.2.1, m.2.2.2.2.2.2.1, m.2.2.2.2.2.2.2.1, m.2.2.2.2.2.2.2.2.1, m.2.2.2.2.2.2.2.2.2.1, m.2.2.2.2.2.2.2.2.2.2.1, m.2.2.2.2.2.2.2.2.2.2.2.1, m.2.2.2.2.2.2.2.2.2.2.2.2.1, m.2.2.2.2.2.2.2.2.2.2.2.2.2.1, m.2.2.2.2.2.2.2.2.2.2.2.2.2.2.1, m.2.2.2.2.2.2.2.2.2.2.2.2.2.2.2.1, m.2.2.2.2.2.2.2.2.2.2.2.2.2.2.2.2.1, m.2.2.2.2.2.2.2.2.2.2.2.2.2.2.2.2.2.1, m.2.2.2.2.2.2.2.2.2.2.2.2.2.2.2.2.2.2.1, m.2.2.2.2.2.2.2.2.2.2.2.2.2.2.2.2.2.2.2) := by
        show oMapp m x = ((if ¬ (1 ≤ x ∧ x ≤ 14) then 1 else if mFULL m m.2.2.2.2.2.1 then 2 else 0), m.2.1, m.2.2.1, m.2.2.2.1, m.2.2.2.2.1, m.2.2.2.2.2.1, m.2.2.2.2.2.2.1, m.2.2.2.2.2.2.2.1, m.2.2.2.2.2.2.2.2.1, m.2.2.2.2.2.2.2.2.2.1, m.2.2.2.2.2.2.2.2.2.2.1, m.2.2.2.2.2.2.2.2.2.2.2.1, m.2.2.2.2.2.2.2.2.2.2.2.2.1, m.2.2.2.2.2.2.2.2.2.2.2.2.2.1, m.2.2.2.2.2.2.2.2.2.2.2.2.2.2.1, m.2.2.2.2.2.2.2.2.2.2.2.2.2.2.2.1, m.2.2.2.2.2.2.2.2.2.2.2.2.2.2.2.2.1, m.2.2.2.2.2.2.2.2.2.2.2.2.2.2.2.2.2.1, m.2.2.2.2.2.2.2.2.2.2.2.2.2.2.2.2.2.2.1, m.2.2.2.2.2.2.2.2.2.2.2.2.2.2.2.2.2.2.2)
        unfold oMapp; rw [if_neg hg', if_neg hg', if_neg hg', if_neg hg', if_neg hg', if_neg hg', if_neg hg', if_neg hg', if_neg hg']
      rw [eD, eM]
      exact (R.more hc1).th _
abbrev dBADc (d : DS) (x : Int) : Prop := (d.2.2.2.2.2.2.2.2.2.2.1 x.toNat ≠ 0 ∨ dFULL d 1)
abbrev oDcom (d : DS) (x : Int) : DS := (d.1, d.2.1, (if ((0 ≤ x ∧ x < 6) ∧ ¬ dBADc d x) then d.2.2.1 + 4 else d.2.2.1), d.2.2.2.1, d.2.2.2.2.1, d.2.2.2.2.2.1, d.2.2.2.2.2.2.1, d.2.2.2.2.2.2.2.1, d.2.2.2.2.2.2.2.2.1, d.2.2.2.2.2.2.2.2.2.1, (if ((0 ≤ x ∧ x < 6) ∧ ¬ dBADc d x) then va_up d.2.2.2.2.2.2.2.2.2.2.1 x.toNat (d.2.2.1 + 4) else d.2.2.2.2.2.2.2.2.2.2.1), (if ((0 ≤ x ∧ x < 6) ∧ ¬ dBADc d x) then (uP (uP (uP (uP d.2.2.2.2.2.2.2.2.2.2.2.1 d.2.2.1 15) (d.2.2.1 + 1) (1 / 256)) (d.2.2.1 + 2) 1) (d.2.2.1 + 3) x) else d.2.2.2.2.2.2.2.2.2.2.2.1), d.2.2.2.2.2.2.2.2.2.2.2.2)
abbrev mBADc (m : MS) (x : Int) : Prop := (0 ≤ m.2.2.2.2.2.2.2.2.2.2.2.2.2.2.2.2.2.2.1 x.toNat ∨ mFULL m 1)
abbrev mGC (m : MS) (x : Int) : Prop := ((0 ≤ x ∧ x < 6) ∧ ¬ mBADc m x)
abbrev oMcom (m : MS) (x : Int) : MS := ((if ¬ (0 ≤ x ∧ x < 6) then 1 else if mBADc m x then 2 else 0), m.2.1, (if mGC m x then m.2.2.1 + 1 else m.2.2.1), (if mGC m x then m.2.2.2.1 + 1 else m.2.2.2.1), m.2.2.2.2.1, m.2.2.2.2.2.1, m.2.2.2.2.2.2.1, (if mGC m x then m.2.2.2.2.2.2.2.1 + 3 + 1 else m.2.2.2.2.2.2.2.1), m.2.2.2.2.2.2.2.2.1, m.2.2.2.2.2.2.2.2.2.1, m.2.2.2.2.2.2.2.2.2.2.1, m.2.2.2.2.2.2.2.2.2.2.2.1, (if mGC m x then va_up m.2.2.2.2.2.2.2.2.2.2.2.2.1 m.2.2.1.toNat 15 else m.2.2.2.2.2.2.2.2.2.2.2.2.1), (if mGC m x then va_up m.2.2.2.2.2.2.2.2.2.2.2.2.2.1 m.2.2.1.toNat m.2.2.2.1 else m.2.2.2.2.2.2.2.2.2.2.2.2.2.1), (if mGC m x then va_up m.2.2.2.2.2.2.2.2.2.2.2.2.2.2.1 m.2.2.1.toNat 1 else m.2.2.2.2.2.2.2.2.2.2.2.2.2.2.1), (if mGC m x then va_up m.2.2.2.2.2.2.2.2.2.2.2.2.2.2.2.1 m.2.2.1.toNat (m.2.2.2.2.2.2.2.1 + 3 + 1) else m.2.2.2.2.2.2.2.2.2.2.2.2.2.2.2.1), (if mGC m x then va_up m.2.2.2.2.2.2.2.2.2.2.2.2.2.2.2.2.1 m.2.2.2.1.toNat (Int.bmod x 256) else m.2.2.2.2.2.2.2.2.2.2.2.2.2.2.2.2.1), m.2.2.2.2.2.2.2.2.2.2.2.2.2.2.2.2.2.1, (if mGC m x then va_up m.2.2.2.2.2.2.2.2.2.2.2.2.2.2.2.2.2.2.1 x.toNat (m.2.2.2.2.2.2.2.1 + 3 + 1) else m.2.2.2.2.2.2.2.2.2.2.2.2.2.2.2.2.2.2.1), m.2.2.2.2.2.2.2.2.2.2.2.2.2.2.2.2.2.2.2)
theorem Rel.com (R : Rel c d m) (hc1 : c < 512) (x : Int) (hu : mGC m x → m.2.2.2.1 + 1 ≤ 19000) :
    (if ¬ (0 ≤ x ∧ x < 6) then 1 else if dBADc d x then 2 else 0) = (oMcom m x).1 ∧ ((oMcom m x).1 = 0 → d.2.2.1 + 4 = (if mGC m x then m.2.2.2.2.2.2.2.1 + 3 + 1 else 0)) ∧ Rel (c + 1) (oDcom d x) (oMcom m x) := by
  have he := R.heq
  have hp := R.hpl
  have hc := R.hc
  have hN := R.hN
  have hnr := R.hnr
  have h0 := R.hrec.h0
  have hq := R.full (n := 1) (by omega)
  by_cases hx : 0 ≤ x ∧ x < 6
  · have hw := R.hw x.toNat (by omega)
    have hq' : dBADc d x ↔ mBADc m x := by
      unfold dBADc mBADc
      rw [hq]
      constructor
      · rintro (h | h)
        · exact Or.inl (by omega)
        · exact Or.inr h
      · rintro (h | h)
        · exact Or.inl (by omega)
        · exact Or.inr h
    by_cases hb : dBADc d x
    · have hb' := hq'.mp hb
      have hg : ¬ ((0 ≤ x ∧ x < 6) ∧ ¬ dBADc d x) := fun q => q.2 hb
      have hg' : ¬ mGC m x := fun q => q.2 hb'
      have hth : (oMcom m x).1 = 2 := by dsimp only; rw [if_neg (fun q => q hx), if_pos hb']
      refine ⟨by rw [hth, if_neg (fun q => q hx), if_pos hb], fun q => by rw [hth] at q; omega, ?_⟩
      have eD : oDcom d x = d := by unfold oDcom; rw [if_neg hg, if_neg hg, if_neg hg]
      have eM : oMcom m x = (2, m.2.1, m.2.2.1, m.2.2.2.1, m.2.2.2.2.1, m.2.2.2.2.2.1, m.2.2.2.2.2.2.1, m.2.2.2.2.2.2.2.1, m.2.2.2.2.2.2.2.2.1, m.2.2.2.2.2.2.2.2.2.1, m.2.2.2.2.2.2.2.2.2.2.1, m.2.2.2.2.2.2.2.2.2.2.2.1, m.2.2.2.2.2.2.2.2.2.2.2.2.1, m.2.2.2.2.2.2.2.2.2.2.2.2.2.1, m.2.2.2.2.2.2.2.2.2.2.2.2.2.2.1, m.2.2.2.2.2.2.2.2.2.2.2.2.2.2.2.1, m.2.2.2.2.2.2.2.2.2.2.2.2.2.2.2.2.1, m.2.2.2.2.2.2.2.2.2.2.2.2.2.2.2.2.2.1, m.2.2.2.2.2.2.2.2.2.2.2.2.2.2.2.2.2.2.1, m.2.2.2.2.2.2.2.2.2.2.2.2.2.2.2.2.2.2.2) := by
        unfold oMcom; rw [if_neg (fun q => q hx), if_pos hb', if_neg hg', if_neg hg', if_neg hg', if_neg hg', if_neg hg', if_neg hg', if_neg hg', if_neg hg', if_neg hg']
      rw [eD, eM]
      exact (R.more hc1).th 2
    · have hb' : ¬ mBADc m x := fun q => hb (hq'.mpr q)
      have hg : ((0 ≤ x ∧ x < 6) ∧ ¬ dBADc d x) := ⟨hx, hb⟩
      have hg' : mGC m x := ⟨hx, hb'⟩
      have hth : (oMcom m x).1 = 0 := by dsimp only; rw [if_neg (fun q => q hx), if_neg hb']
      refine ⟨by rw [hth, if_neg (fun q => q hx), if_neg hb], fun _ => by rw [if_pos hg', he.2.1]; omega, ?_⟩
      have eD : oDcom d x = (d.1, d.2.1, d.2.2.1 + 4, d.2.2.2.1, d.2.2.2.2.1, d.2.2.2.2.2.1, d.2.2.2.2.2.2.1, d.2.2.2.2.2.2.2.1, d.2.2.2.2.2.2.2.2.1, d.2.2.2.2.2.2.2.2.2.1, va_up d.2.2.2.2.2.2.2.2.2.2.1 x.toNat (d.2.2.1 + 4), (uP (uP (uP (uP d.2.2.2.2.2.2.2.2.2.2.2.1 d.2.2.1 15) (d.2.2.1 + 1) (1 / 256)) (d.2.2.1 + 2) 1) (d.2.2.1 + 3) x), d.2.2.2.2.2.2.2.2.2.2.2.2) := by
        unfold oDcom; rw [if_pos hg, if_pos hg, if_pos hg]
      have eM : oMcom m x = (0, m.2.1, m.2.2.1 + 1, m.2.2.2.1 + 1, m.2.2.2.2.1, m.2.2.2.2.2.1, m.2.2.2.2.2.2.1, m.2.2.2.2.2.2.2.1 + 3 + 1, m.2.2.2.2.2.2.2.2.1, m.2.2.2.2.2.2.2.2.2.1, m.2.2.2.2.2.2.2.2.2.2.1, m.2.2.2.2.2.2.2.2.2.2.2.1, va_up m.2.2.2.2.2.2.2.2.2.2.2.2.1 m.2.2.1.toNat 15, va_up m.2.2.2.2.2.2.2.2.2.2.2.2.2.1 m.2.2.1.toNat m.2.2.2.1, va_up m.2.2.2.2.2.2.2.2.2.2.2.2.2.2.1 m.2.2.1.toNat 1, va_up m.2.2.2.2.2.2.2.2.2.2.2.2.2.2.2.1 m.2.2.1.toNat (m.2.2.2.2.2.2.2.1 + 3 + 1), va_up m.2.2.2.2.2.2.2.2.2.2.2.2.2.2.2.2.1 m.2.2.2.1.toNat (Int.bmod x 256), m.2.2.2.2.2.2.2.2.2.2.2.2.2.2.2.2.2.1, va_up m.2.2.2.2.2.2.2.2.2.2.2.2.2.2.2.2.2.2.1 x.toNat (m.2.2.2.2.2.2.2.1 + 3 + 1), m.2.2.2.2.2.2.2.2.2.2.2.2.2.2.2.2.2.2.2) := by
        unfold oMcom; rw [if_neg (fun q => q hx), if_neg hb', if_pos hg', if_pos hg', if_pos hg', if_pos hg', if_pos hg', if_pos hg', if_pos hg', if_pos hg', if_pos hg']
      rw [eD, eM]
      have hdf : ¬ dFULL d 1 := fun q => hb (Or.inr q)
      unfold dFULL at hdf
      have hnw := newRec1 (u := d.2.2.2.2.2.2.2.2.2.2.2.1) (bg := d.2.1) (en := d.2.2.1) (x := x) (by omega)
      rw [he.1, he.2.1] at hnw
      have hus := R.hrec.usz
      have hR := R.hrec.add (yb' := va_up m.2.2.2.2.2.2.2.2.2.2.2.2.2.2.2.2.1 m.2.2.2.1.toNat (Int.bmod x 256)) hnw (by omega) (hu hg') (by omega) (fun j hj => va_up_ne _ _ (by omega)) (fun i i0 i1 => by
        rw [show (m.2.2.2.1 + i).toNat = m.2.2.2.1.toNat by omega, va_up_self]
        have := Int.bmod_emod (x := x) (m := 256)
        simpa using this)
      refine ⟨Rel.hc (c := c + 1) (d := d) (m := m) (R.more hc1), Rel.hN (c := c + 1) (d := d) (m := m) (R.more hc1), ?_, ?_, Rel.hlf (c := c + 1) (d := d) (m := m) (R.more hc1), Rel.hcnt (c := c + 1) (d := d) (m := m) (R.more hc1), Rel.hh (c := c + 1) (d := d) (m := m) (R.more hc1), ?_, ?_, ?_, Rel.htc (c := c + 1) (d := d) (m := m) (R.more hc1), Rel.hpg (c := c + 1) (d := d) (m := m) (R.more hc1), Rel.hpn (c := c + 1) (d := d) (m := m) (R.more hc1), ?_, ?_, ?_⟩
      · exact ⟨he.1, by show d.2.2.1 + 4 = m.2.2.2.2.2.2.2.1 + 3 + 1; omega, he.2.2.1, he.2.2.2.1, he.2.2.2.2.1, he.2.2.2.2.2⟩
      · dsimp only; omega
      · intro j; dsimp only
        by_cases e : j = x.toNat
        · subst e; rw [va_up_self]; omega
        · rw [va_up_ne _ _ e]; exact R.hge j
      · intro j; dsimp only
        by_cases e : j = x.toNat
        · subst e; rw [va_up_self]; omega
        · rw [va_up_ne _ _ e]; exact R.hwt j
      · intro j hj; dsimp only
        by_cases e : j = x.toNat
        · subst e; rw [va_up_self, va_up_self]; omega
        · rw [va_up_ne _ _ e, va_up_ne _ _ e]; exact R.hw j hj
      · dsimp only; rw [he.2.1]; exact hR
      · dsimp only; omega
      · dsimp only
        rcases R.hrd with h1 | ⟨h1, h2, h3⟩
        · exact Or.inl h1
        · refine Or.inr ⟨h1, by omega, ?_⟩
          rw [h3]
          unfold SS
          by_cases e : ((m.2.2.2.2.2.2.2.2.2.2.2.1.toNat : Nat) : Int) = m.2.2.2.2.1
          · rw [if_pos e, if_pos e]
          · rw [if_neg e, if_neg e, va_up_ne _ _ (by omega)]
  · have hg : ¬ ((0 ≤ x ∧ x < 6) ∧ ¬ dBADc d x) := fun q => hx q.1
    have hg' : ¬ mGC m x := fun q => hx q.1
    have hth : (oMcom m x).1 = 1 := by dsimp only; rw [if_pos hx]
    refine ⟨by rw [hth, if_pos hx], fun q => by rw [hth] at q; omega, ?_⟩
    have eD : oDcom d x = d := by unfold oDcom; rw [if_neg hg, if_neg hg, if_neg hg]
    have eM : oMcom m x = (1, m.2.1, m.2.2.1, m.2.2.2.1, m.2.2.2.2.1, m.2.2.2.2.2.1, m.2.2.2.2.2.2.1, m.2.2.2.2.2.2.2.1, m.2.2.2.2.2.2.2.2.1, m.2.2.2.2.2.2.2.2.2.1, m.2.2.2.2.2.2.2.2.2.2.1, m.2.2.2.2.2.2.2.2.2.2.2.1, m.2.2.2.2.2.2.2.2.2.2.2.2.1, m.2.2.2.2.2.2.2.2.2.2.2.2.2.1, m.2.2.2.2.2.2.2.2.2.2.2.2.2.2.1, m.2.2.2.2.2.2.2.2.2.2.2.2.2.2.2.1, m.2.2.2.2.2.2.2.2.2.2.2.2.2.2.2.2.1, m.2.2.2.2.2.2.2.2.2.2.2.2.2.2.2.2.2.1, m.2.2.2.2.2.2.2.2.2.2.2.2.2.2.2.2.2.2.1, m.2.2.2.2.2.2.2.2.2.2.2.2.2.2.2.2.2.2.2) := by
      unfold oMcom; rw [if_pos hx, if_neg hg', if_neg hg', if_neg hg', if_neg hg', if_neg hg', if_neg hg', if_neg hg', if_neg hg', if_neg hg']
    rw [eD, eM]
    exact (R.more hc1).th 1
abbrev oMapp1 (m : MS) (x : Int) : MS := (0, m.2.1, (m.2.2.1 + 1), (m.2.2.2.1 + m.2.2.2.2.2.1), m.2.2.2.2.1, 0, m.2.2.2.2.2.2.1, (m.2.2.2.2.2.2.2.1 + 3 + m.2.2.2.2.2.1), m.2.2.2.2.2.2.2.2.1, m.2.2.2.2.2.2.2.2.2.1, m.2.2.2.2.2.2.2.2.2.2.1, m.2.2.2.2.2.2.2.2.2.2.2.1, (va_up m.2.2.2.2.2.2.2.2.2.2.2.2.1 m.2.2.1.toNat x), (va_up m.2.2.2.2.2.2.2.2.2.2.2.2.2.1 m.2.2.1.toNat m.2.2.2.1), (va_up m.2.2.2.2.2.2.2.2.2.2.2.2.2.2.1 m.2.2.1.toNat m.2.2.2.2.2.1), (va_up m.2.2.2.2.2.2.2.2.2.2.2.2.2.2.2.1 m.2.2.1.toNat (m.2.2.2.2.2.2.2.1 + 3 + m.2.2.2.2.2.1)), (fun j : Nat => if m.2.2.2.1 ≤ (j : Int) ∧ (j : Int) < m.2.2.2.1 + m.2.2.2.2.2.1 then Int.bmod (m.2.2.2.2.2.2.2.2.2.2.2.2.2.2.2.2.2.1 ((j : Int) - m.2.2.2.1).toNat) 256 else m.2.2.2.2.2.2.2.2.2.2.2.2.2.2.2.2.1 j), m.2.2.2.2.2.2.2.2.2.2.2.2.2.2.2.2.2.1, m.2.2.2.2.2.2.2.2.2.2.2.2.2.2.2.2.2.2.1, m.2.2.2.2.2.2.2.2.2.2.2.2.2.2.2.2.2.2.2)
theorem oMapp_eq {m : MS} {x : Int} (h : mGA m x) : oMapp m x = oMapp1 m x := by
  unfold oMapp oMapp1
  rw [if_neg (fun q => q h.1), if_neg h.2, if_pos h, if_pos h, if_pos h, if_pos h, if_pos h, if_pos h, if_pos h, if_pos h, if_pos h]
theorem Rel.app1 (R : Rel c d m) (hc1 : c < 512) (x : Int) (hg : mGA m x) :
    (if ¬ (1 ≤ x ∧ x ≤ 14) then 1 else if dFULL d d.2.2.2.2.2.1 then 2 else 0) = (0 : Int) ∧ ((0 : Int) = 0 → d.2.2.1 + 3 + d.2.2.2.2.2.1 = m.2.2.2.2.2.2.2.1 + 3 + m.2.2.2.2.2.1) ∧ Rel (c + 1) (oDapp d x) (oMapp1 (oMshr m) x) := by
  have hg' : mGA (oMshr m) x := hg
  have hu := R.shrU m.2.2.2.2.2.1 hg.2
  obtain ⟨a1, a2, a3⟩ := R.shr.app hc1 x (fun _ => hu)
  rw [oMapp_eq hg'] at a1 a2 a3
  have he := R.heq
  exact ⟨a1, fun _ => by rw [he.2.1, he.2.2.2.2.2], a3⟩
abbrev oMcom1 (m : MS) (x : Int) : MS := (0, m.2.1, (m.2.2.1 + 1), (m.2.2.2.1 + 1), m.2.2.2.2.1, m.2.2.2.2.2.1, m.2.2.2.2.2.2.1, (m.2.2.2.2.2.2.2.1 + 3 + 1), m.2.2.2.2.2.2.2.2.1, m.2.2.2.2.2.2.2.2.2.1, m.2.2.2.2.2.2.2.2.2.2.1, m.2.2.2.2.2.2.2.2.2.2.2.1, (va_up m.2.2.2.2.2.2.2.2.2.2.2.2.1 m.2.2.1.toNat 15), (va_up m.2.2.2.2.2.2.2.2.2.2.2.2.2.1 m.2.2.1.toNat m.2.2.2.1), (va_up m.2.2.2.2.2.2.2.2.2.2.2.2.2.2.1 m.2.2.1.toNat 1), (va_up m.2.2.2.2.2.2.2.2.2.2.2.2.2.2.2.1 m.2.2.1.toNat (m.2.2.2.2.2.2.2.1 + 3 + 1)), (va_up m.2.2.2.2.2.2.2.2.2.2.2.2.2.2.2.2.1 m.2.2.2.1.toNat (Int.bmod x 256)), m.2.2.2.2.2.2.2.2.2.2.2.2.2.2.2.2.2.1, (va_up m.2.2.2.2.2.2.2.2.2.2.2.2.2.2.2.2.2.2.1 x.toNat (m.2.2.2.2.2.2.2.1 + 3 + 1)), m.2.2.2.2.2.2.2.2.2.2.2.2.2.2.2.2.2.2.2)
theorem oMcom_eq {m : MS} {x : Int} (h : mGC m x) : oMcom m x = oMcom1 m x := by
  unfold oMcom oMcom1
  rw [if_neg (fun q => q h.1), if_neg h.2, if_pos h, if_pos h, if_pos h, if_pos h, if_pos h, if_pos h, if_pos h, if_pos h, if_pos h]
theorem Rel.com1 (R : Rel c d m) (hc1 : c < 512) (x : Int) (hg : mGC m x) :
    (if ¬ (0 ≤ x ∧ x < 6) then 1 else if dBADc d x then 2 else 0) = (0 : Int) ∧ ((0 : Int) = 0 → d.2.2.1 + 4 = m.2.2.2.2.2.2.2.1 + 3 + 1) ∧ Rel (c + 1) (oDcom d x) (oMcom1 (oMshr m) x) := by
  have hg' : mGC (oMshr m) x := hg
  have hu := R.shrU 1 (fun q => hg.2 (Or.inr q))
  obtain ⟨a1, a2, a3⟩ := R.shr.com hc1 x (fun _ => hu)
  rw [oMcom_eq hg'] at a1 a2 a3
  have he := R.heq
  exact ⟨a1, fun _ => by rw [he.2.1]; omega, a3⟩
theorem Rel.nxt (R : Rel c d m) (hc1 : c < 512) : (if (if d.2.2.2.2.1 = -1 then d.2.1 else er d.2.2.2.2.2.2.2.2.2.2.2.1 d.2.2.2.2.1) < d.2.2.1 then (0 : Int) else 1) = (oMnext m).1 ∧ ((oMnext m).1 = 0 → rb d.2.2.2.2.2.2.2.2.2.2.2.1 (if d.2.2.2.2.1 = -1 then d.2.1 else er d.2.2.2.2.2.2.2.2.2.2.2.1 d.2.2.2.2.1) = (if m.2.2.2.2.2.2.2.2.2.2.2.1 + 1 < m.2.2.1 then m.2.2.2.2.2.2.2.2.2.2.2.2.1 (m.2.2.2.2.2.2.2.2.2.2.2.1 + 1).toNat else 0)) ∧ Rel (c + 1) (oDnext d) (oMnext m) := by
  obtain ⟨n1, n2⟩ := R.next
  refine ⟨ite_congr (propext n1) (fun _ => rfl) (fun _ => rfl), fun h => ?_, (R.onext).more hc1⟩
  by_cases q : m.2.2.2.2.2.2.2.2.2.2.2.1 + 1 < m.2.2.1
  · rw [if_pos q]; exact (n2 q).1
  · exfalso
    have h2 : (if m.2.2.2.2.2.2.2.2.2.2.2.1 + 1 < m.2.2.1 then (0 : Int) else 1) = 0 := h
    rw [if_neg q] at h2
    omega
theorem Rel.chg (R : Rel c d m) (hc1 : c < 512) (x : Int) : (if 0 ≤ x ∧ x ≤ 999 then (0 : Int) else 1) = (oMcharge m x).1 ∧ True ∧ Rel (c + 1) (oDcharge d x) (oMcharge m x) := ⟨rfl, trivial, (R.charge x).more hc1⟩
theorem Rel.state (R : Rel c d m) (x : Int) : (if x = 0 then d.2.1 else if x = 1 then d.2.2.1 else if x = 2 then d.2.2.2.1 else if x = 3 then d.2.2.2.2.2.2.2.1 else if x = 4 then d.2.2.2.2.2.1 else if x = 5 then wcnt d.2.2.2.2.2.2.2.2.2.2.1 6 else if x = 6 then d.2.2.2.2.2.2.1 else if x = 7 then (if d.2.2.2.2.1 = -1 then -1 else er d.2.2.2.2.2.2.2.2.2.2.2.1 d.2.2.2.2.1) else -1) =
    (if x = 7 then (if m.2.2.2.2.2.2.2.2.2.2.2.1 < m.2.2.2.2.1 then -1 else m.2.2.2.2.2.2.2.2.2.2.2.2.2.2.2.1 m.2.2.2.2.2.2.2.2.2.2.2.1.toNat) else if x = 0 then m.2.2.2.2.2.2.1 else if x = 1 then m.2.2.2.2.2.2.2.1 else if x = 2 then m.2.2.2.2.2.2.2.2.1 else if x = 3 then m.2.2.2.2.2.2.2.2.2.1 else if x = 4 then m.2.2.2.2.2.1 else if x = 5 then mcnt m.2.2.2.2.2.2.2.2.2.2.2.2.2.2.2.2.2.2.1 6 else if x = 6 then wcnt m.2.2.2.2.2.2.2.2.2.2.2.2.2.2.2.2.2.2.2 2048 else -1) := by
  have he := R.heq
  rw [R.erd, wcnt_same 6 R.hw, R.hpn, he.1, he.2.1, he.2.2.1, he.2.2.2.1, he.2.2.2.2.2]
  by_cases h : x = 7
  · subst h; simp
  · rw [if_neg h, if_neg h]
end RELU
abbrev oD0 (N : Int) : DS := (N, 0, 0, 0, -1, 0, 0, 0, -1, fun _ => 0, fun _ => 0, fun _ => 0, fun _ => 0)
abbrev oM0 (N : Int) (wt : Nat → Int) : MS := (0, N, 0, 0, 0, 0, 0, 0, 0, 0, -1, -1, fun _ => 0, fun _ => 0, fun _ => 0, fun _ => 0, fun _ => 0, fun _ => 0, wt, fun _ => 0)
theorem Rel.new {N : Int} {wt : Nat → Int} (hN : 3 ≤ N ∧ N ≤ 32) (hw : ∀ j : Nat, j < 6 → wt j = -1) (hw2 : ∀ j : Nat, -1 ≤ wt j ∧ wt j < 1000000000) : Rel 0 (oD0 N) (oM0 N wt) :=
  ⟨by omega, ⟨rfl, hN⟩, ⟨rfl, rfl, rfl, rfl, rfl, rfl⟩, by dsimp only; omega, by dsimp only; omega, by dsimp only; omega, fun j _ => rfl, fun j => by dsimp only; omega, hw2, fun j hj => Or.inl ⟨rfl, hw j hj⟩, fun j => Or.inl rfl, fun x _ _ => ⟨fun _ => rfl, fun _ => pB_0⟩, (wcnt_0 2048 (fun _ _ => rfl)).symm, ⟨by dsimp only; omega, fun j => by dsimp only; omega, fun j => by dsimp only; omega, fun k a b => by dsimp only at b; omega, by simp [SS], fun k a b => by dsimp only at b; omega, fun k a b => by dsimp only at b; omega, by simp [FF], fun k a b => by dsimp only at b; omega, by dsimp only; omega⟩, by dsimp only; omega, Or.inl ⟨rfl, rfl⟩⟩
