theorem up_lt {α : Type} {w u : Nat → α} {v : α} {i : Int} (h0 : 0 ≤ i) (hw : ∀ j : Nat, w j = if (j : Int) < i then v else u j) : ∀ j : Nat, va_up w i.toNat v j = if (j : Int) < i + 1 then v else u j := by
  intro j
  by_cases hj : j = i.toNat
  · subst hj
    rw [va_up_self, if_pos (by omega)]
  · rw [va_up_ne _ _ hj, hw]
    by_cases h : (j : Int) < i
    · rw [if_pos h, if_pos (by omega)]
    · rw [if_neg h, if_neg (by omega)]
theorem up_end {α : Type} {w u : Nat → α} {v : α} {i : Int} {N : Nat} (hi : i = N) (hw : ∀ j : Nat, w j = if (j : Int) < i then v else u j) : w = fun j => if j < N then v else u j := by
  funext j
  rw [hw j]
  by_cases h : j < N
  · rw [if_pos h, if_pos (by omega)]
  · rw [if_neg h, if_neg (by omega)]
def wfst (g : Nat → Int) : Nat → Int
  | 0 => -1
  | n + 1 => if g n ≠ 0 ∧ (wfst g n = -1 ∨ g n < g (wfst g n).toNat) then (n : Int) else wfst g n
theorem wfst_step {g : Nat → Int} {i f : Int} (h0 : 0 ≤ i) (hf : f = wfst g i.toNat) : wfst g (i + 1).toNat = if g i.toNat ≠ 0 ∧ (f = -1 ∨ g i.toNat < g f.toNat) then i else f := by
  have e : (i + 1).toNat = i.toNat + 1 := by omega
  rw [e, hf]
  show (if _ then ((i.toNat : Nat) : Int) else _) = _
  rw [Int.toNat_of_nonneg h0]
def wcnt (g : Nat → Int) : Nat → Int
  | 0 => 0
  | n + 1 => wcnt g n + if g n ≠ 0 then 1 else 0
theorem wcnt_step {g : Nat → Int} {i : Int} (h0 : 0 ≤ i) : wcnt g (i + 1).toNat = wcnt g i.toNat + if g i.toNat ≠ 0 then 1 else 0 := by
  have e : (i + 1).toNat = i.toNat + 1 := by omega
  rw [e]
  rfl
