def rpool (cB : ClassId) (L : List Nat) (B C : Nat → Nat) (f : Nat → Nat → Int) : va_W := L.flatMap (fun k => [(B k, .inr (0, [.ref (C k)])), (C k, .inl (cB, 500, .inl (fun j => iZ (Int.bmod (f k j) 256))))])
def RK (cB : ClassId) (pl : va_W) (g : Nat → Option Nat) (al : Nat → Bool) (u : Nat → Int) : Prop :=
  ∃ (L : List Nat) (B C : Nat → Nat) (f : Nat → Nat → Int), pl = rpool cB L B C f ∧ (∀ k, al k = true ↔ k ∈ L) ∧ (∀ k, g k = if k ∈ L then some (B k) else none) ∧ L.Nodup ∧ ∀ k j : Nat, k < 32 → j < 500 → u (k * 500 + j) = if k ∈ L then f k j else 0
theorem vaP_mem {D : va_G} {cl : List vw_C} {ws : va_W} {H : Heap} : va_P D cl ws H ↔ ∀ q ∈ ws, va_at D cl q H := by
  constructor
  · intro h q hq
    obtain ⟨k, hk⟩ := List.getElem?_of_mem hq
    exact h k q hk
  · intro h k q hk
    exact h q (List.mem_of_getElem? hk)
theorem vaD_iff {A : Nat → Prop} {ws : va_W} : va_D A ws ↔ (ws.map (·.1)).Nodup ∧ ∀ q ∈ ws, A q.1 := by
  constructor
  · intro h
    refine ⟨?_, fun q hq => ?_⟩
    · rw [List.nodup_iff_pairwise_ne] at *
      rw [List.pairwise_iff_getElem]
      intro i j hi hj hij e
      simp only [List.length_map] at hi hj
      have := h.1 i j ws[i] ws[j] (List.getElem?_eq_getElem hi) (List.getElem?_eq_getElem hj) (by simpa using e)
      omega
    · obtain ⟨k, hk⟩ := List.getElem?_of_mem hq
      exact h.2 k q hk
  · intro h
    refine ⟨fun i j p q hi hj e => ?_, fun k q hk => h.2 q (List.mem_of_getElem? hk)⟩
    have h1 : (ws.map (·.1))[i]? = some p.1 := by rw [List.getElem?_map, hi]; rfl
    have h2 : (ws.map (·.1))[j]? = some p.1 := by rw [List.getElem?_map, hj, e]; rfl
    obtain ⟨hi', e1⟩ := List.getElem?_eq_some_iff.mp h1
    obtain ⟨hj', e2⟩ := List.getElem?_eq_some_iff.mp h2
    have h3 := h.1
    rw [List.nodup_iff_pairwise_ne, List.pairwise_iff_getElem] at h3
    rcases Nat.lt_trichotomy i j with h4 | h4 | h4
    · exact absurd (e1.trans e2.symm) (h3 i j hi' hj' h4)
    · exact h4
    · exact absurd (e2.trans e1.symm) (h3 j i hj' hi' h4)
theorem vaP_set {D : va_G} {cl : List vw_C} {ws ws' : va_W} {H : Heap} {q0 a : Nat} {e e0 : va_E} (h : va_P D cl (ws.set q0 (a, e)) H) (h0 : ws[q0]? = some (a, e0)) (hw : ∀ q ∈ ws', q = (a, e) ∨ (q ∈ ws ∧ q.1 ≠ a)) : va_P D cl ws' H := by
  rw [vaP_mem] at h ⊢
  intro q hq
  have hlt : q0 < ws.length := (List.getElem?_eq_some_iff.mp h0).1
  rcases hw q hq with rfl | ⟨h1, h2⟩
  · exact h _ (List.mem_set hlt _)
  · obtain ⟨k, hk⟩ := List.getElem?_of_mem h1
    refine h q (List.mem_of_getElem? (i := k) ?_)
    have hne : q0 ≠ k := fun e => by
      subst e
      rw [h0] at hk
      exact h2 (Option.some.inj hk ▸ rfl)
    rw [List.getElem?_set_ne hne]
    exact hk
theorem rp_mem {cB : ClassId} {L : List Nat} {B C : Nat → Nat} {f : Nat → Nat → Int} {q : Nat × va_E} : q ∈ rpool cB L B C f ↔ ∃ k ∈ L, q = (B k, .inr (0, [.ref (C k)])) ∨ q = (C k, .inl (cB, 500, .inl (fun j => iZ (Int.bmod (f k j) 256)))) := by
  simp [rpool]
theorem rp_fst {cB : ClassId} {L : List Nat} {B C : Nat → Nat} {f f' : Nat → Nat → Int} : (rpool cB L B C f).map (·.1) = (rpool cB L B C f').map (·.1) := by
  simp [rpool, List.map_flatMap]
theorem rk_get {cB : ClassId} {pl : va_W} {g : Nat → Option Nat} {al : Nat → Bool} {u : Nat → Int} (h : RK cB pl g al u) (X : va_W) {k : Nat} (hk : al k = true) (hk2 : k < 32) :
    ∃ (bk ck : Nat) (fk : Nat → Int) (i1 i2 : Nat), g k = some bk ∧ (X ++ pl)[i1]? = some (bk, .inr (0, [.ref ck])) ∧ (X ++ pl)[i2]? = some (ck, .inl (cB, 500, .inl (fun j => iZ (Int.bmod (fk j) 256)))) ∧ ∀ j, j < 500 → u (k * 500 + j) = fk j := by
  obtain ⟨L, B, C, f, rfl, h1, h2, h3, h4⟩ := h
  have hL := (h1 k).mp hk
  obtain ⟨i1, e1⟩ := List.getElem?_of_mem (List.mem_append_right X (rp_mem (cB := cB) (L := L) (B := B) (C := C) (f := f).mpr ⟨k, hL, Or.inl rfl⟩))
  obtain ⟨i2, e2⟩ := List.getElem?_of_mem (List.mem_append_right X (rp_mem (cB := cB) (L := L) (B := B) (C := C) (f := f).mpr ⟨k, hL, Or.inr rfl⟩))
  exact ⟨B k, C k, f k, i1, i2, by rw [h2, if_pos hL], e1, e2, fun j hj => by rw [h4 k j hk2 hj, if_pos hL]⟩
theorem rk_no {cB : ClassId} {pl : va_W} {g : Nat → Option Nat} {al : Nat → Bool} {u : Nat → Int} (h : RK cB pl g al u) {k : Nat} (hk : al k = false) (hk2 : k < 32) : g k = none ∧ ∀ j, j < 500 → u (k * 500 + j) = 0 := by
  obtain ⟨L, B, C, f, rfl, h1, h2, h3, h4⟩ := h
  have hL : k ∉ L := fun q => by rw [(h1 k).mpr q] at hk; cases hk
  exact ⟨by rw [h2, if_neg hL], fun j hj => by rw [h4 k j hk2 hj, if_neg hL]⟩
theorem rk_put {D : va_G} {cl : List vw_C} {A : Nat → Prop} {cB : ClassId} {pl X : va_W} {g : Nat → Option Nat} {al : Nat → Bool} {u : Nat → Int} (h : RK cB pl g al u) {k j bk ck i1 i2 : Nat} {fk : Nat → Int} {v : Int} {H : Heap} (hk : al k = true) (hk2 : k < 32) (hj : j < 500) (hg : g k = some bk) (e1 : (X ++ pl)[i1]? = some (bk, .inr (0, [.ref ck]))) (e2 : (X ++ pl)[i2]? = some (ck, .inl (cB, 500, .inl (fun j => iZ (Int.bmod (fk j) 256)))))
    (hD : va_D A (X ++ pl)) (hP : va_P D cl ((X ++ pl).set i2 (ck, .inl (cB, 500, .inl (fun i => iZ (Int.bmod (va_up fk j v i) 256))))) H) :
    ∃ pl2, RK cB pl2 g al (va_up u (k * 500 + j) v) ∧ va_P D cl (X ++ pl2) H ∧ va_D A (X ++ pl2) := by
  obtain ⟨L, B, C, f, rfl, h1, h2, h3, h4⟩ := h
  have hL := (h1 k).mp hk
  have hbk : bk = B k := by rw [h2, if_pos hL] at hg; exact (Option.some.inj hg).symm
  subst hbk
  have hDn := (vaD_iff.mp hD).1
  have m1 := List.mem_of_getElem? e1
  have m2 := List.mem_of_getElem? e2
  have huniq : ∀ p q : Nat × va_E, p ∈ X ++ rpool cB L B C f → q ∈ X ++ rpool cB L B C f → p.1 = q.1 → p = q := by
    intro p q hp hq e
    obtain ⟨a, ha⟩ := List.getElem?_of_mem hp
    obtain ⟨b, hb⟩ := List.getElem?_of_mem hq
    have := hD.1 a b p q ha hb e
    subst this
    exact Option.some.inj (ha.symm.trans hb)
  have mB : ((B k, .inr (0, [.ref (C k)])) : Nat × va_E) ∈ X ++ rpool cB L B C f := List.mem_append_right _ (rp_mem.mpr ⟨k, hL, Or.inl rfl⟩)
  have mC : ∀ k' ∈ L, ((C k', .inl (cB, 500, .inl (fun j => iZ (Int.bmod (f k' j) 256)))) : Nat × va_E) ∈ X ++ rpool cB L B C f := fun k' h => List.mem_append_right _ (rp_mem.mpr ⟨k', h, Or.inr rfl⟩)
  have mBx : ∀ k' ∈ L, ((B k', .inr (0, [.ref (C k')])) : Nat × va_E) ∈ X ++ rpool cB L B C f := fun k' h => List.mem_append_right _ (rp_mem.mpr ⟨k', h, Or.inl rfl⟩)
  have hck : ck = C k := by
    have := huniq _ _ m1 mB rfl
    have h5 := congrArg Prod.snd this
    simpa using h5
  subst hck
  have hfk : (fun j => iZ (Int.bmod (fk j) 256)) = (fun j => iZ (Int.bmod (f k j) 256)) := by
    have := huniq _ _ m2 (mC k hL) rfl
    have h5 := congrArg Prod.snd this
    simpa using h5
  have hCinj : ∀ k' ∈ L, C k' = C k → k' = k := by
    intro k' hk' e
    have h6 : ((rpool cB L B C f).map (·.1)).Nodup := by
      rw [List.map_append] at hDn
      exact (List.nodup_append.mp hDn).2.1
    by_cases hkk : k' = k
    · exact hkk
    · exfalso
      have h7 : (L.flatMap fun k => [B k, C k]).Nodup := by simpa [rpool, List.map_flatMap] using h6
      clear h6
      clear hDn hD hP e1 e2 m1 m2 huniq mB mC mBx hfk hg h1 h2 h4
      induction L with
      | nil => cases hL
      | cons x L ih =>
        simp only [List.flatMap_cons, List.cons_append, List.nil_append, List.nodup_cons, List.mem_cons, List.mem_flatMap, List.not_mem_nil, or_false, not_or, not_exists, not_and] at h7 h3
        rcases List.mem_cons.mp hL with rfl | hL'
        · rcases List.mem_cons.mp hk' with rfl | hk''
          · exact hkk rfl
          · exact (h7.2.1 k' hk'').2 e.symm
        · rcases List.mem_cons.mp hk' with rfl | hk''
          · exact (h7.2.1 k hL').2 e
          · exact ih h3.2 hL' hk'' h7.2.2
  refine ⟨rpool cB L B C (va_up f k (va_up (f k) j v)), ⟨L, B, C, va_up f k (va_up (f k) j v), rfl, h1, h2, h3, ?_⟩, ?_, ?_⟩
  · intro k' j' hk' hj'
    by_cases hkk : k' = k
    · subst hkk
      rw [va_up_self]
      by_cases hjj : j' = j
      · subst hjj
        rw [va_up_self, va_up_self, if_pos hL]
      · rw [va_up_ne _ _ hjj, va_up_ne _ _ (by omega), h4 k' j' hk' hj']
    · rw [va_up_ne _ _ hkk, va_up_ne _ _ (by omega), h4 k' j' hk' hj']
  · refine vaP_set hP e2 (fun q hq => ?_)
    rcases List.mem_append.mp hq with hq | hq
    · refine Or.inr ⟨List.mem_append_left _ hq, fun e => ?_⟩
      have hne := (List.nodup_append.mp (by rw [List.map_append] at hDn; exact hDn)).2.2
      exact hne q.1 (List.mem_map_of_mem hq) (C k) (List.mem_map.mpr ⟨_, rp_mem.mpr ⟨k, hL, Or.inr rfl⟩, rfl⟩) e
    · obtain ⟨k', hk', hq⟩ := rp_mem.mp hq
      rcases hq with rfl | rfl
      · refine Or.inr ⟨mBx k' hk', fun e => ?_⟩
        have := huniq _ _ (mBx k' hk') (mC k hL) e
        exact absurd (congrArg Prod.snd this) (by intro h; cases h)
      · by_cases hkk : k' = k
        · subst hkk
          refine Or.inl ?_
          rw [va_up_self]
          congr 5
          funext i
          by_cases hi : i = j
          · subst hi; rw [va_up_self, va_up_self]
          · rw [va_up_ne _ _ hi, va_up_ne _ _ hi]
            exact (congrFun hfk i).symm
        · refine Or.inr ⟨?_, fun e => hkk (hCinj k' hk' e)⟩
          rw [va_up_ne _ _ hkk]
          exact mC k' hk'
  · rw [vaD_iff] at hD ⊢
    have e3 : (X ++ rpool cB L B C (va_up f k (va_up (f k) j v))).map (·.1) = (X ++ rpool cB L B C f).map (·.1) := by
      rw [List.map_append, List.map_append, rp_fst]
    refine ⟨by rw [e3]; exact hD.1, fun q hq => ?_⟩
    have h8 : q.1 ∈ (X ++ rpool cB L B C f).map (·.1) := by rw [← e3]; exact List.mem_map_of_mem hq
    obtain ⟨q', hq', e4⟩ := List.mem_map.mp h8
    rw [← e4]
    exact hD.2 q' hq'
theorem rk_new {cB : ClassId} {pl : va_W} {g : Nat → Option Nat} {al : Nat → Bool} {u : Nat → Int} (h : RK cB pl g al u) {k : Nat} (b c : Nat) (hk : al k = false) (hk2 : k < 32) :
    RK cB (pl ++ [(b, .inr (0, [.ref c])), (c, .inl (cB, 500, .inl (fun j => iZ (Int.bmod ((fun _ => 0 : Nat → Int) j) 256))))]) (va_up g k (some b)) (va_up al k true) u := by
  obtain ⟨L, B, C, f, rfl, h1, h2, h3, h4⟩ := h
  have hL : k ∉ L := fun q => by rw [(h1 k).mpr q] at hk; cases hk
  have hne : ∀ k' ∈ L, k' ≠ k := fun k' h e => hL (e ▸ h)
  refine ⟨L ++ [k], va_up B k b, va_up C k c, va_up f k (fun _ => 0), ?_, ?_, ?_, ?_, ?_⟩
  · unfold rpool
    rw [List.flatMap_append]
    congr 1
    · rw [List.flatMap_def, List.flatMap_def]
      congr 1
      apply List.map_congr_left
      intro k' hk'
      rw [va_up_ne _ _ (hne k' hk'), va_up_ne _ _ (hne k' hk'), va_up_ne _ _ (hne k' hk')]
    · simp [va_up_self]
  · intro k'
    by_cases e : k' = k
    · subst e; simp [va_up_self]
    · rw [va_up_ne _ _ e, h1]; simp [e]
  · intro k'
    by_cases e : k' = k
    · subst e; simp [va_up_self]
    · rw [va_up_ne _ _ e, va_up_ne _ _ e, h2]; simp [e]
  · rw [List.nodup_append]
    exact ⟨h3, by simp, fun a ha b hb => by simp at hb; subst hb; exact hne a ha⟩
  · intro k' j hk' hj
    by_cases e : k' = k
    · subst e; rw [h4 k' j hk' hj, if_neg hL]; simp [va_up_self]
    · rw [h4 k' j hk' hj, va_up_ne _ _ e]; simp [e]
theorem rk_0 (cB : ClassId) : RK cB [] (fun _ => none) (fun _ => false) (fun _ => 0) := ⟨[], fun _ => 0, fun _ => 0, fun _ _ => 0, rfl, by simp, by simp, List.nodup_nil, by simp⟩
def cal (al : Nat → Bool) : Nat → Nat
  | 0 => 0
  | n + 1 => cal al n + if al n then 1 else 0
theorem cal_le (al : Nat → Bool) : ∀ n, cal al n ≤ n
  | 0 => Nat.le_refl 0
  | n + 1 => by have := cal_le al n; show cal al n + _ ≤ _; split <;> omega
theorem cal_same {al : Nat → Bool} {k : Nat} (hk : al k = true) : va_up al k true = al := by
  funext j
  by_cases e : j = k
  · subst e; rw [va_up_self, hk]
  · rw [va_up_ne _ _ e]
theorem cal_up {al : Nat → Bool} {k : Nat} (hk : al k = false) : ∀ n, cal (va_up al k true) n = cal al n + if k < n then 1 else 0
  | 0 => by simp [cal]
  | n + 1 => by
    have ih := cal_up hk n
    show cal (va_up al k true) n + (if va_up al k true n then 1 else 0) = cal al n + (if al n then 1 else 0) + _
    by_cases e : n = k
    · subst e
      rw [ih, va_up_self, hk]
      simp
    · rw [ih, va_up_ne _ _ e]
      by_cases h : k < n
      · rw [if_pos h, if_pos (show k < n + 1 by omega)]; omega
      · rw [if_neg h, if_neg (show ¬ k < n + 1 by omega)]; omega
theorem cal_mono (al : Nat → Bool) (k n : Nat) : cal al n ≤ cal (va_up al k true) n := by
  cases h : al k with
  | true => rw [cal_same h]; exact Nat.le_refl _
  | false => rw [cal_up h]; omega
def aP (al : Nat → Bool) (x : Int) : Nat → Bool := va_up al (x / 500 % 32).toNat true
def uP (u : Nat → Int) (x v : Int) : Nat → Int := va_up u (x % 16000).toNat (Int.bmod v 256)
theorem aP_mono (al : Nat → Bool) (x : Int) : cal al 32 ≤ cal (aP al x) 32 := cal_mono al _ 32
def aW (al : Nat → Bool) (x : Int) : Nat → (Nat → Bool)
  | 0 => al
  | n + 1 => aP (aW al x n) (x + n)
def uW (u : Nat → Int) (x : Int) (f : Nat → Int) : Nat → (Nat → Int)
  | 0 => u
  | n + 1 => uP (uW u x f n) (x + n) (f n)
theorem aW_mono (al : Nat → Bool) (x : Int) : ∀ n, cal al 32 ≤ cal (aW al x n) 32
  | 0 => Nat.le_refl _
  | n + 1 => Nat.le_trans (aW_mono al x n) (aP_mono _ _)
section ZR
variable {p : Program} {l : Launch} {e : Env} {R : Room} {s : State} {m : MethodId} {args : Array Value} {below : List Frame} {meth : Method} {c : Code} {H : Heap} {locs : List Loc} {cells slots : Nat} {Q : State → Prop} {pc : Nat} {ls : Array Slot} {rest : List Value}
theorem zz_rfN {x : Option Nat} (h : x = none) (k : W p l e R s m args below meth c H locs cells slots Q (F0 m pc ls (.null :: rest))) : W p l e R s m args below meth c H locs cells slots Q (F0 m pc ls (va_rf x :: rest)) := by subst h; exact k
theorem zz_rfS {x : Option Nat} {a : Nat} (h : x = some a) (k : W p l e R s m args below meth c H locs cells slots Q (F0 m pc ls (.ref a :: rest))) : W p l e R s m args below meth c H locs cells slots Q (F0 m pc ls (va_rf x :: rest)) := by subst h; exact k
end ZR
