def iZ (z : Int) : Int32 := Int32.ofInt z
def iB (z : Int) : Prop := -2147483648 ≤ z ∧ z < 2147483648
theorem iZ_toInt {z : Int} (h : iB z) : (iZ z).toInt = z := Int32.toInt_ofInt_of_le h.1 h.2
theorem iZ_of (x : Int32) : ∃ z : Int, iB z ∧ x = iZ z := ⟨x.toInt, ⟨x.le_toInt, x.toInt_lt⟩, (Int32.ofInt_toInt x).symm⟩
theorem iZ_self (x : Int32) : iZ x.toInt = x := Int32.ofInt_toInt x
theorem iB_toInt (x : Int32) : iB x.toInt := ⟨x.le_toInt, x.toInt_lt⟩
theorem iZ_add (a b : Int) : iZ a + iZ b = iZ (a + b) := (Int32.ofInt_add a b).symm
theorem iZ_sub (a b : Int) : iZ a - iZ b = iZ (a - b) := (Int32.ofInt_sub a b).symm
theorem iZ_mul (a b : Int) : iZ a * iZ b = iZ (a * b) := (Int32.ofInt_mul a b).symm
theorem iZ_lt {a b : Int} (ha : iB a) (hb : iB b) : iZ a < iZ b ↔ a < b := by rw [Int32.lt_iff_toInt_lt, iZ_toInt ha, iZ_toInt hb]
theorem iZ_le {a b : Int} (ha : iB a) (hb : iB b) : iZ a ≤ iZ b ↔ a ≤ b := by rw [Int32.le_iff_toInt_le, iZ_toInt ha, iZ_toInt hb]
theorem iZ_eq {a b : Int} (ha : iB a) (hb : iB b) : iZ a = iZ b ↔ a = b := by rw [← Int32.toInt_inj, iZ_toInt ha, iZ_toInt hb]
theorem iZ_0 : (0 : Int32) = iZ 0 := rfl
theorem iZ_cl {a : Int} (h0 : 0 ≤ a) (h1 : a < 2147483648) : (iZ a).toNatClampNeg = a.toNat := by
  show (iZ a).toInt.toNat = a.toNat
  rw [iZ_toInt ⟨by omega, h1⟩]
theorem iZ_in {a : Int} {n : Nat} (h0 : 0 ≤ a) (h1 : a < n) (hn : n < 2147483648) : vp_in (iZ a) n := by
  rw [vp_in_iff, iZ_toInt ⟨by omega, by omega⟩]
  exact ⟨h0, h1⟩
theorem iZ_nat (n : Nat) : iZ (n : Int) = nI n := Int32.ofInt_eq_ofNat
theorem iZ_div {a d : Int} (h0 : 0 ≤ a) (h1 : a < 2147483648) (hd : 0 < d) (hd2 : d < 2147483648) : iZ a / iZ d = iZ (a / d) := by
  obtain ⟨n, rfl⟩ := Int.eq_ofNat_of_zero_le h0
  obtain ⟨k, rfl⟩ := Int.eq_ofNat_of_zero_le (Int.le_of_lt hd)
  rw [iZ_nat, iZ_nat, pk_div (by omega) (by omega) (by omega), ← iZ_nat]
  rfl
theorem iZ_rem {a d : Int} (h0 : 0 ≤ a) (h1 : a < 2147483648) (hd : 0 < d) (hd2 : d < 2147483648) : iZ a - iZ a / iZ d * iZ d = iZ (a % d) := by
  rw [iZ_div h0 h1 hd hd2, iZ_mul, iZ_sub]
  congr 1
  rw [Int.emod_def, Int.mul_comm]
theorem iZ_tb (a : Int) : (iZ a).toBitVec = BitVec.ofInt 32 a := rfl
theorem iZ_tn (a : Int) : ((iZ a).toBitVec.toNat : Int) = a % 4294967296 := by
  rw [iZ_tb, BitVec.toNat_ofInt]
  omega
theorem iZ_and255 (a : Int) : iZ a &&& iZ 255 = iZ (a % 256) := by
  have h := pk_and (iZ a) (m := iZ 255) 8 (by decide)
  rw [h, ← iZ_nat]
  congr 1
  have := iZ_tn a
  omega
theorem iZ_i8 (a : Int) : (iZ a).toInt8.toInt32 = iZ (Int.bmod a 256) := by
  apply Int32.toInt_inj.mp
  rw [iZ_toInt ⟨by have := Int.le_bmod (x := a) (m := 256) (by decide); omega, by have := Int.bmod_lt (x := a) (m := 256) (by decide); omega⟩]
  rw [Int8.toInt_toInt32, Int32.toInt_toInt8]
  show ((iZ a).toInt).bmod 256 = _
  show ((Int32.ofInt a).toInt).bmod 256 = _
  rw [Int32.toInt_ofInt]
  exact Int.bmod_bmod_of_dvd (by decide)
theorem bm256 (a : Int) : Int.bmod a 256 % 256 = a % 256 := by
  have := Int.bmod_emod (x := a) (m := 256)
  simpa using this
