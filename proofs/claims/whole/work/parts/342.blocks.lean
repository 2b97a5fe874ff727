theorem cal_pt {a b : Nat → Bool} (h : ∀ j, a j = true → b j = true) : ∀ n, cal a n ≤ cal b n
  | 0 => Nat.le_refl _
  | n + 1 => by
    have ih := cal_pt h n
    show cal a n + (if a n then 1 else 0) ≤ cal b n + (if b n then 1 else 0)
    cases ha : a n with
    | false => simp; omega
    | true => rw [h n ha]; simp; omega
theorem cal_up1 (al : Nat → Bool) (k n : Nat) : cal (va_up al k true) n ≤ cal al n + 1 := by
  cases h : al k with
  | true => rw [cal_same h]; omega
  | false => rw [cal_up h]; split <;> omega
def al3 (al : Nat → Bool) (x : Int) : Nat → Bool := va_up (va_up (va_up al (x / 500 % 32).toNat true) ((x / 500 + 1) % 32).toNat true) ((x / 500 + 2) % 32).toNat true
theorem al3_le (al : Nat → Bool) (x : Int) : cal (al3 al x) 32 ≤ cal al 32 + 3 := by
  have h1 := cal_up1 al (x / 500 % 32).toNat 32
  have h2 := cal_up1 (va_up al (x / 500 % 32).toNat true) ((x / 500 + 1) % 32).toNat 32
  have h3 := cal_up1 (va_up (va_up al (x / 500 % 32).toNat true) ((x / 500 + 1) % 32).toNat true) ((x / 500 + 2) % 32).toNat 32
  unfold al3
  omega
theorem al3_self {al : Nat → Bool} {x : Int} {j : Nat} (h : al j = true) : al3 al x j = true := by
  unfold al3 va_up
  split
  · rfl
  · split
    · rfl
    · split
      · rfl
      · exact h
theorem al3_in {al a : Nat → Bool} {x y : Int} (ha : ∀ j, a j = true → al3 al x j = true) (h0 : 0 ≤ x) (h1 : x ≤ y) (h2 : y < x + 603) : ∀ j, aP a y j = true → al3 al x j = true := by
  intro j hj
  unfold aP at hj
  by_cases e : j = (y / 500 % 32).toNat
  · have : y / 500 = x / 500 ∨ y / 500 = x / 500 + 1 ∨ y / 500 = x / 500 + 2 := by omega
    unfold al3
    rcases this with q | q | q
    · rw [q] at e
      subst e
      unfold va_up
      simp
    · rw [q] at e
      subst e
      unfold va_up
      simp
    · rw [q] at e
      subst e
      exact va_up_self _ _ _
  · rw [va_up_ne _ _ e] at hj
    exact ha j hj
theorem al3_W {al a : Nat → Bool} {x y : Int} (ha : ∀ j, a j = true → al3 al x j = true) (h0 : 0 ≤ x) (h1 : x ≤ y) : ∀ n : Nat, y + n ≤ x + 603 → ∀ j, aW a y n j = true → al3 al x j = true
  | 0, _ => ha
  | n + 1, h => al3_in (al3_W ha h0 h1 n (by omega)) h0 (by omega) (by omega)
theorem alf_le (al : Nat → Bool) {en n : Int} (h0 : 0 ≤ en) (hn : 0 ≤ n ∧ n ≤ 600) : cal (aW (aP (aP (aP al en) (en + 1)) (en + 2)) (en + 3) n.toNat) 32 ≤ cal al 32 + 3 := by
  have h := al3_W (al := al) (x := en) (al3_in (al3_in (al3_in (fun j => al3_self) h0 (Int.le_refl _) (by omega)) h0 (show en ≤ en + 1 by omega) (by omega)) h0 (show en ≤ en + 2 by omega) (by omega)) h0 (show en ≤ en + 3 by omega) n.toNat (by omega)
  exact Nat.le_trans (cal_pt h 32) (al3_le al en)
theorem al4_le (al : Nat → Bool) {en : Int} (h0 : 0 ≤ en) : cal (aP (aP (aP (aP al en) (en + 1)) (en + 2)) (en + 3)) 32 ≤ cal al 32 + 3 := by
  have h := al3_in (al3_in (al3_in (al3_in (fun j => al3_self (al := al)) h0 (Int.le_refl _) (by omega)) h0 (show en ≤ en + 1 by omega) (by omega)) h0 (show en ≤ en + 2 by omega) (by omega)) h0 (show en ≤ en + 3 by omega) (by omega)
  exact Nat.le_trans (cal_pt h 32) (al3_le al en)
