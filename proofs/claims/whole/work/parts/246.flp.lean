theorem eg_ge {u : Nat → Int} {en x : Int} : ∀ (n : Nat) (q : Int), q ≤ eg u en x n q
  | 0, q => Int.le_refl q
  | n + 1, q => by
    have h := eg_ge (u := u) (en := en) (x := x) n (er u q)
    have hb := bl_in u q
    have he : er u q = q + 3 + bl u q := rfl
    unfold eg
    split <;> omega
def flG (en : Int) : Nat → Int → Int → Int → Int → Int × Int × Int × Int
  | 0, _, wr, lf, fl => (wr, lf, fl, 0)
  | n + 1, b, wr, lf, fl => if lf = 0 then (wr, lf, fl, 1) else flG en n (b + 1) (wr + 1) (if 0 < lf then lf - 1 else lf) (if en < (b + 1) * 500 then en else (b + 1) * 500)
theorem flG_0 {en b wr lf fl : Int} {n : Nat} (h : n = 0) : flG en n b wr lf fl = (wr, lf, fl, 0) := by subst h; rfl
theorem flG_cut {en b wr lf fl : Int} {n : Nat} (h : 0 < n) (h2 : lf = 0) : flG en n b wr lf fl = (wr, lf, fl, 1) := by
  cases n with
  | zero => omega
  | succ n => unfold flG; rw [if_pos h2]
theorem flG_step {en b wr lf fl m : Int} (h : 0 < m) (h2 : lf ≠ 0) : flG en m.toNat b wr lf fl = flG en (m - 1).toNat (b + 1) (wr + 1) (if 0 < lf then lf - 1 else lf) (if en < (b + 1) * 500 then en else (b + 1) * 500) := by
  rw [show m.toNat = (m - 1).toNat + 1 by omega]
  show (if _ then _ else _) = _
  rw [if_neg h2]
