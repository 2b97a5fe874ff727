def mflG (ee x : Int) : Nat → Int → Int → Int → Int → Int × Int × Int × Int × Int
  | 0, ww, le, fd, k => (ww, le, fd, k, 0)
  | n + 1, ww, le, fd, k => if fd < x then (if le = 0 then (ww, le, fd, k, 1) else mflG ee x n (ww + 1) (if 0 < le then le - 1 else le) (if 500 * (fd / 500 + 1) < ee then 500 * (fd / 500 + 1) else ee) (k + 1)) else (ww, le, fd, k, 0)
theorem mflG_end {ee x ww le fd k : Int} {n : Nat} (h : n = 0 ∨ ¬ fd < x) : mflG ee x n ww le fd k = (ww, le, fd, k, 0) := by
  cases n with
  | zero => rfl
  | succ n => rcases h with h | h
              · cases h
              · unfold mflG; rw [if_neg h]
theorem mflG_cut {ee x ww le fd k : Int} {n : Nat} (h : 0 < n) (h1 : fd < x) (h2 : le = 0) : mflG ee x n ww le fd k = (ww, le, fd, k, 1) := by
  cases n with
  | zero => omega
  | succ n => unfold mflG; rw [if_pos h1, if_pos h2]
theorem mflG_step {ee x ww le fd k m : Int} (h : 0 < m) (h1 : fd < x) (h2 : le ≠ 0) : mflG ee x m.toNat ww le fd k = mflG ee x (m - 1).toNat (ww + 1) (if 0 < le then le - 1 else le) (if 500 * (fd / 500 + 1) < ee then 500 * (fd / 500 + 1) else ee) (k + 1) := by
  rw [show m.toNat = (m - 1).toNat + 1 by omega]
  show (if _ then _ else _) = _
  rw [if_pos h1, if_neg h2]
