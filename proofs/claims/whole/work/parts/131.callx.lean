section ZX
variable {p : Program} {l : Launch} {e : Env} {R : Room} {s : State} {m : MethodId} {args : Array Value} {below : List Frame} {meth : Method} {c : Code} {H : Heap} {locs : List Loc} {cells slots : Nat} {Q : State → Prop}
variable {pc : Nat} {ls : Array Slot} {rest st0 : List Value} {D : va_G} {A : Nat → Prop} {tys : List (ClassId × FieldType)} {ws wc wr X cx pl : va_W} {H0 : Heap} {mc ms : Nat} {z : Int} {a : Array Value} {S : Type} {Φ : S → Prop} {w1 rx pl1 : S → va_W}
theorem zx_v (hr : va_Run p l e R s m args below meth c H locs cells slots mc ms (F0 m pc ls st0) rest (va_Qv Φ (zBx D tys (va_A wc H.size) w1) (va_A wc H.size) a) (va_A wc H.size)) (hP : va_P D vwCl ws H) (hD : va_D A ws) (hS : va_S A H0 H locs) (hA : ∀ q, H0.size ≤ q → A q) (isC isR : List Nat) (hC : isC.map (fun i => ws[i]?) = wc.map some) (hR : isR.map (fun i => ws[i]?) = wr.map some) (hn : va_nd isR = true) (hdis : ∀ i ∈ isR, i ∉ isC)
    (kk : ∀ (u : S), Φ u → ∀ (H1 : Heap) (locs1 : List Loc), va_P D vwCl (wr ++ w1 u) H1 → va_D A (wr ++ w1 u) → va_S A H0 H1 locs1 → W p l e R s m args below meth c H1 locs1 (cells + mc) (slots + ms) Q (F0 m (pc + 3) ls rest)) : W p l e R s m args below meth c H locs cells slots Q (F0 m pc ls st0) := by
  have hFc := va_free (wc := wc) hD hS hA isC hC
  refine va_callv hr hS (fun q _ h => hFc q h) hFc (fun u t H1 locs1 ht hvm hw hB hz1 hk1 hS1 => ?_)
  obtain ⟨hP1, hK1, hD1⟩ := hB
  rw [ht] at hP1
  obtain ⟨hP2, hD2⟩ := va_join hP hD isC isR hC hR hn hdis hk1 hFc hP1 hD1
  exact kk u hw H1 locs1 hP2 hD2 hS1
theorem zxq_v (hr : va_Run p l e R s m args below meth c H locs cells slots mc ms (F0 m pc ls st0) rest (va_Qv Φ (zBx D tys (va_A cx H.size) w1) (va_A cx H.size) a) (va_A cx H.size)) (hP : va_P D vwCl (X ++ pl) H) (hD : va_D A (X ++ pl)) (hS : va_S A H0 H locs) (hA : ∀ q, H0.size ≤ q → A q) (isC isR : List Nat) (hC : isC.map (fun i => X[i]?) = cx.map some) (hR : isR.map (fun i => X[i]?) = wr.map some) (hn : va_nd isR = true) (hdis : ∀ i ∈ isR, i ∉ isC) (hC2 : isC.map (fun i => (X ++ pl)[i]?) = cx.map some)
    (kk : ∀ (u : S), Φ u → ∀ (H1 : Heap) (locs1 : List Loc), va_P D vwCl ((wr ++ w1 u) ++ pl) H1 → va_D A ((wr ++ w1 u) ++ pl) → va_S A H0 H1 locs1 → W p l e R s m args below meth c H1 locs1 (cells + mc) (slots + ms) Q (F0 m (pc + 3) ls rest)) : W p l e R s m args below meth c H locs cells slots Q (F0 m pc ls st0) := by
  have hFc := va_free (wc := cx) hD hS hA isC hC2
  refine va_callv hr hS (fun q _ h => hFc q h) hFc (fun u t H1 locs1 ht hvm hw hB hz1 hk1 hS1 => ?_)
  obtain ⟨hP1, hK1, hD1⟩ := hB
  rw [ht] at hP1
  obtain ⟨hP2, hD2⟩ := va_joinQ hP hD isC isR hC hR hn hdis hk1 hFc hP1 hD1
  exact kk u hw H1 locs1 hP2 hD2 hS1
theorem zxp_v (hr : va_Run p l e R s m args below meth c H locs cells slots mc ms (F0 m pc ls st0) rest (va_Qv Φ (zBx D tys (va_A (cx ++ pl) H.size) (fun u => rx u ++ pl1 u)) (va_A (cx ++ pl) H.size) a) (va_A (cx ++ pl) H.size)) (hP : va_P D vwCl (X ++ pl) H) (hD : va_D A (X ++ pl)) (hS : va_S A H0 H locs) (hA : ∀ q, H0.size ≤ q → A q) (isC isR : List Nat) (hC : isC.map (fun i => X[i]?) = cx.map some) (hR : isR.map (fun i => X[i]?) = wr.map some) (hn : va_nd isR = true) (hdis : ∀ i ∈ isR, i ∉ isC)
    (kk : ∀ (u : S), Φ u → ∀ (H1 : Heap) (locs1 : List Loc), va_P D vwCl ((wr ++ rx u) ++ pl1 u) H1 → va_D A ((wr ++ rx u) ++ pl1 u) → va_S A H0 H1 locs1 → W p l e R s m args below meth c H1 locs1 (cells + mc) (slots + ms) Q (F0 m (pc + 3) ls rest)) : W p l e R s m args below meth c H locs cells slots Q (F0 m pc ls st0) := by
  have hFc := va_freeP (cx := cx) hD hS hA isC hC
  refine va_callv hr hS (fun q _ h => hFc q h) hFc (fun u t H1 locs1 ht hvm hw hB hz1 hk1 hS1 => ?_)
  obtain ⟨hP1, hK1, hD1⟩ := hB
  rw [ht] at hP1
  obtain ⟨hP2, hD2⟩ := va_joinP hP hD isC isR hC hR hn hdis hk1 hFc hP1 hD1
  exact kk u hw H1 locs1 hP2 hD2 hS1
theorem zxp_i (hr : va_Run p l e R s m args below meth c H locs cells slots mc ms (F0 m pc ls st0) rest (va_Qi (fun (r : Int32) (u : S) => r = iZ z ∧ Φ u) (zBx D tys (va_A (cx ++ pl) H.size) (fun u => rx u ++ pl1 u)) (va_A (cx ++ pl) H.size) a) (va_A (cx ++ pl) H.size)) (hP : va_P D vwCl (X ++ pl) H) (hD : va_D A (X ++ pl)) (hS : va_S A H0 H locs) (hA : ∀ q, H0.size ≤ q → A q) (isC isR : List Nat) (hC : isC.map (fun i => X[i]?) = cx.map some) (hR : isR.map (fun i => X[i]?) = wr.map some) (hn : va_nd isR = true) (hdis : ∀ i ∈ isR, i ∉ isC)
    (kk : ∀ (u : S), Φ u → ∀ (H1 : Heap) (locs1 : List Loc), va_P D vwCl ((wr ++ rx u) ++ pl1 u) H1 → va_D A ((wr ++ rx u) ++ pl1 u) → va_S A H0 H1 locs1 → W p l e R s m args below meth c H1 locs1 (cells + mc) (slots + ms) Q (F0 m (pc + 3) ls (.int (iZ z) :: rest))) : W p l e R s m args below meth c H locs cells slots Q (F0 m pc ls st0) := by
  have hFc := va_freeP (cx := cx) hD hS hA isC hC
  refine va_calli hr hS (fun q _ h => hFc q h) hFc (fun r u t H1 locs1 ht hvm hw hB hz1 hk1 hS1 => ?_)
  obtain ⟨hP1, hK1, hD1⟩ := hB
  rw [ht] at hP1
  obtain ⟨hP2, hD2⟩ := va_joinP hP hD isC isR hC hR hn hdis hk1 hFc hP1 hD1
  rw [hw.1]
  exact kk u hw.2 H1 locs1 hP2 hD2 hS1
end ZX
theorem iZ_shr8 {a : Int} (h0 : 0 ≤ a) (h1 : a < 2147483648) : iZ a >>> (iZ 8 &&& 31) = iZ (a / 256) := by
  obtain ⟨n, rfl⟩ := Int.eq_ofNat_of_zero_le h0
  rw [iZ_nat, pk_shrN (by omega) (iZ 8 &&& 31) 8 (by decide), ← iZ_nat]
  rfl
theorem iZ_shl8 {a : Int} (h0 : 0 ≤ a) (h1 : a < 8388608) : iZ a <<< (iZ 8 &&& 31) = iZ (a * 256) := by
  obtain ⟨n, rfl⟩ := Int.eq_ofNat_of_zero_le h0
  rw [iZ_nat, pk_shlN (iZ 8 &&& 31) 8 (by decide) (by omega), ← iZ_nat]
  rfl
theorem iZ_or8 {a b : Int} (h0 : 0 ≤ a) (h1 : a < 8388608) (hb : 0 ≤ b) (hb1 : b < 256) : iZ (a * 256) ||| iZ b = iZ (a * 256 + b) := by
  obtain ⟨n, rfl⟩ := Int.eq_ofNat_of_zero_le h0
  obtain ⟨k, rfl⟩ := Int.eq_ofNat_of_zero_le hb
  have e1 : ((n : Int) * 256) = ((n * 256 : Nat) : Int) := by omega
  have e2 : ((n : Int) * 256 + (k : Int)) = ((n * 256 + k : Nat) : Int) := by omega
  rw [e2, e1, iZ_nat, iZ_nat, iZ_nat]
  have hk : k < 2 ^ 8 := by omega
  have e3 : n * 256 + k = n * 256 ||| k := by
    have := Nat.two_pow_add_eq_or_of_lt hk n
    rw [Nat.mul_comm] at this
    exact this
  rw [e3]
  apply Int32.toBitVec_inj.mp
  show (nI (n * 256)).toBitVec ||| (nI k).toBitVec = (nI (n * 256 ||| k)).toBitVec
  apply BitVec.eq_of_toNat_eq
  rw [BitVec.toNat_or, pk_tn (by omega), pk_tn (by omega), pk_tn (by rw [← e3]; omega)]
section ZS
variable {p : Program} {l : Launch} {e : Env} {R : Room} {s : State} {m : MethodId} {args : Array Value} {below : List Frame} {meth : Method} {c : Code} {H : Heap} {locs : List Loc} {cells slots : Nat} {Q : State → Prop} {cc : ByteArray} {pc : Nat} {ls : Array Slot} {rest : List Value}
theorem zz_shr8 (hexec : p.tables.exec = Jvm.exec) (hb : c.code = cc) {x : Int} (h0 : 0 ≤ x) (h1 : x < 2147483648) (hdg : decode cc pc = .ok (.ishr, 1)) (k : W p l e R s m args below meth c H locs cells slots Q (F0 m (pc + 1) ls (.int (iZ (x / 256)) :: rest))) : W p l e R s m args below meth c H locs cells slots Q (F0 m pc ls (.int (iZ 8) :: .int (iZ x) :: rest)) := by
  refine lv_ishr hexec hb hdg ?_
  rw [iZ_shr8 h0 h1]
  exact k
theorem zz_shl8 (hexec : p.tables.exec = Jvm.exec) (hb : c.code = cc) {x : Int} (h0 : 0 ≤ x) (h1 : x < 8388608) (hdg : decode cc pc = .ok (.ishl, 1)) (k : W p l e R s m args below meth c H locs cells slots Q (F0 m (pc + 1) ls (.int (iZ (x * 256)) :: rest))) : W p l e R s m args below meth c H locs cells slots Q (F0 m pc ls (.int (iZ 8) :: .int (iZ x) :: rest)) := by
  refine lv_ishl hexec hb hdg ?_
  rw [iZ_shl8 h0 h1]
  exact k
theorem zz_or8 (hexec : p.tables.exec = Jvm.exec) (hb : c.code = cc) {x y : Int} (h0 : 0 ≤ x) (h1 : x < 8388608) (hy0 : 0 ≤ y) (hy1 : y < 256) (hdg : decode cc pc = .ok (.ior, 1)) (k : W p l e R s m args below meth c H locs cells slots Q (F0 m (pc + 1) ls (.int (iZ (x * 256 + y)) :: rest))) : W p l e R s m args below meth c H locs cells slots Q (F0 m pc ls (.int (iZ y) :: .int (iZ (x * 256)) :: rest)) := by
  refine lv_ior hexec hb hdg ?_
  rw [iZ_or8 h0 h1 hy0 hy1]
  exact k
end ZS
def rb (u : Nat → Int) (x : Int) : Int := u (x % 16000).toNat % 256
def bl (u : Nat → Int) (x : Int) : Int := rb u (x + 1) * 256 + rb u (x + 2)
def er (u : Nat → Int) (x : Int) : Int := x + 3 + bl u x
theorem rb_in (u : Nat → Int) (x : Int) : 0 ≤ rb u x ∧ rb u x < 256 := by unfold rb; omega
theorem bl_in (u : Nat → Int) (x : Int) : 0 ≤ bl u x ∧ bl u x < 65536 := by
  have := rb_in u (x + 1)
  have := rb_in u (x + 2)
  unfold bl; omega
def eg (u : Nat → Int) (en x : Int) : Nat → Int → Int
  | 0, q => q
  | n + 1, q => if q < x ∧ q < en then eg u en x n (er u q) else q
def rcE (u : Nat → Int) (en fl : Int) : Nat → Int → Int
  | 0, q => q
  | n + 1, q => if q < en ∧ er u q ≤ fl then rcE u en fl n (er u q) else q
def rcN (u : Nat → Int) (en fl : Int) : Nat → Int → Int
  | 0, _ => 0
  | n + 1, q => if q < en ∧ er u q ≤ fl then rcN u en fl n (er u q) + 1 else 0
def lb (v : Int64) (r : Int) : Int := (((v).toUInt64 >>> ((iZ (8 * r)).toInt64.toUInt64 &&& Int64.toUInt64 63)).toInt64).toInt32.toInt
def pU (v : Int64) : Nat → Int → (Nat → Int) → (Nat → Int)
  | 0, _, u => u
  | r + 1, c, u => pU v r (c + 1) (va_up u c.toNat (Int.bmod (lb v r) 256))
theorem fU_step {w uh : Nat → Int} {cnt k v : Int} (h0 : 0 ≤ cnt) (h1 : cnt ≤ k) (hw : ∀ j : Nat, w j = if cnt ≤ (j : Int) ∧ (j : Int) < k then Int.bmod v 256 else uh j) : ∀ j : Nat, va_up w k.toNat (Int.bmod v 256) j = if cnt ≤ (j : Int) ∧ (j : Int) < k + 1 then Int.bmod v 256 else uh j := by
  intro j
  by_cases hj : j = k.toNat
  · subst hj
    rw [va_up_self, if_pos (by omega)]
  · rw [va_up_ne _ _ hj, hw]
    by_cases h : cnt ≤ (j : Int) ∧ (j : Int) < k
    · rw [if_pos h, if_pos (by omega)]
    · rw [if_neg h, if_neg (by omega)]
theorem wfst_in (g : Nat → Int) : ∀ n : Nat, -1 ≤ wfst g n ∧ wfst g n < n
  | 0 => by simp [wfst]
  | n + 1 => by
    have := wfst_in g n
    unfold wfst
    split <;> omega
theorem pU_succ {v : Int64} {i k : Int} {w : Nat → Int} (h : 0 ≤ i) : pU v (i + 1).toNat k w = pU v i.toNat (k + 1) (va_up w k.toNat (Int.bmod (lb v i) 256)) := by
  have e : (i + 1).toNat = i.toNat + 1 := by omega
  have e2 : ((i.toNat : Nat) : Int) = i := Int.toNat_of_nonneg h
  rw [e]
  show pU v i.toNat (k + 1) (va_up w k.toNat (Int.bmod (lb v ((i.toNat : Nat) : Int)) 256)) = _
  rw [e2]
theorem eg_stop {u : Nat → Int} {en x q : Int} {n : Nat} (h : n = 0 ∨ ¬ (q < x ∧ q < en)) : eg u en x n q = q := by
  cases n with
  | zero => rfl
  | succ n => rcases h with h | h
              · cases h
              · unfold eg; rw [if_neg h]
theorem eg_step {u : Nat → Int} {en x q m : Int} (hm : 0 < m) (h : q < x ∧ q < en) : eg u en x m.toNat q = eg u en x (m - 1).toNat (er u q) := by
  rw [show m.toNat = (m - 1).toNat + 1 by omega]
  show (if _ then _ else _) = _
  rw [if_pos h]
theorem rcE_stop {u : Nat → Int} {en fl q : Int} {n : Nat} (h : n = 0 ∨ ¬ (q < en ∧ er u q ≤ fl)) : rcE u en fl n q = q ∧ rcN u en fl n q = 0 := by
  cases n with
  | zero => exact ⟨rfl, rfl⟩
  | succ n => rcases h with h | h
              · cases h
              · unfold rcE rcN; rw [if_neg h, if_neg h]; exact ⟨rfl, rfl⟩
theorem rcE_step {u : Nat → Int} {en fl q m : Int} (hm : 0 < m) (h : q < en ∧ er u q ≤ fl) : rcE u en fl m.toNat q = rcE u en fl (m - 1).toNat (er u q) ∧ rcN u en fl m.toNat q = rcN u en fl (m - 1).toNat (er u q) + 1 := by
  rw [show m.toNat = (m - 1).toNat + 1 by omega]
  constructor
  · show (if _ then _ else _) = _
    rw [if_pos h]
  · show (if _ then _ else _) = _
    rw [if_pos h]
