def mlR (ed : Nat → Int) (fd fi : Int) : Nat → Int → Int
  | 0, n => n
  | k + 1, n => if fi < n ∧ fd < ed (n - 1).toNat then mlR ed fd fi k (n - 1) else n
def mlU (ed siz : Nat → Int) (fd fi : Int) : Nat → Int → Int → Int
  | 0, _, q => q
  | k + 1, n, q => if fi < n ∧ fd < ed (n - 1).toNat then mlU ed siz fd fi k (n - 1) (q - siz (n - 1).toNat) else q
theorem ml_stop {ed siz : Nat → Int} {fd fi n q : Int} (k : Nat) (h : ¬ (fi < n ∧ fd < ed (n - 1).toNat)) : mlR ed fd fi k n = n ∧ mlU ed siz fd fi k n q = q := by
  cases k with
  | zero => exact ⟨rfl, rfl⟩
  | succ k => unfold mlR mlU; rw [if_neg h, if_neg h]; exact ⟨rfl, rfl⟩
theorem ml_step {ed siz : Nat → Int} {fd fi n q : Int} (h : fi < n ∧ fd < ed (n - 1).toNat) : mlR ed fd fi (n - fi).toNat n = mlR ed fd fi (n - 1 - fi).toNat (n - 1) ∧ mlU ed siz fd fi (n - fi).toNat n q = mlU ed siz fd fi (n - 1 - fi).toNat (n - 1) (q - siz (n - 1).toNat) := by
  rw [show (n - fi).toNat = (n - 1 - fi).toNat + 1 by omega]
  constructor
  · show (if _ then _ else _) = _
    rw [if_pos h]
  · show (if _ then _ else _) = _
    rw [if_pos h]
