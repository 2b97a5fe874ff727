section ZZ
variable {p : Program} {l : Launch} {e : Env} {R : Room} {s : State} {m : MethodId} {args : Array Value} {below : List Frame} {meth : Method} {c : Code} {H : Heap} {locs : List Loc} {cells slots : Nat} {Q : State → Prop}
variable {cc : ByteArray} {pc : Nat} {ls : Array Slot} {rest : List Value} {D : va_G} {cl : List vw_C} {A : Nat → Prop} {a : Nat} {tys : List (ClassId × FieldType)} {ws : va_W} {H0 : Heap}
theorem zz_iadd (hexec : p.tables.exec = Jvm.exec) (hb : c.code = cc) {x y : Int} (hdg : decode cc pc = .ok (.iadd, 1)) (k : W p l e R s m args below meth c H locs cells slots Q (F0 m (pc + 1) ls (.int (iZ (x + y)) :: rest))) : W p l e R s m args below meth c H locs cells slots Q (F0 m pc ls (.int (iZ y) :: .int (iZ x) :: rest)) := by
  refine lv_iadd hexec hb hdg ?_
  rw [iZ_add]
  exact k
theorem zz_isub (hexec : p.tables.exec = Jvm.exec) (hb : c.code = cc) {x y : Int} (hdg : decode cc pc = .ok (.isub, 1)) (k : W p l e R s m args below meth c H locs cells slots Q (F0 m (pc + 1) ls (.int (iZ (x - y)) :: rest))) : W p l e R s m args below meth c H locs cells slots Q (F0 m pc ls (.int (iZ y) :: .int (iZ x) :: rest)) := by
  refine lv_isub hexec hb hdg ?_
  rw [iZ_sub]
  exact k
theorem zz_imul (hexec : p.tables.exec = Jvm.exec) (hb : c.code = cc) {x y : Int} (hdg : decode cc pc = .ok (.imul, 1)) (k : W p l e R s m args below meth c H locs cells slots Q (F0 m (pc + 1) ls (.int (iZ (x * y)) :: rest))) : W p l e R s m args below meth c H locs cells slots Q (F0 m pc ls (.int (iZ y) :: .int (iZ x) :: rest)) := by
  refine lv_imul hexec hb hdg ?_
  rw [iZ_mul]
  exact k
theorem zz_idiv (hexec : p.tables.exec = Jvm.exec) (hb : c.code = cc) {x y : Int} (h0 : 0 ≤ x) (h1 : x < 2147483648) (hd : 0 < y) (hd2 : y < 2147483648) (hdg : decode cc pc = .ok (.idiv, 1)) (k : W p l e R s m args below meth c H locs cells slots Q (F0 m (pc + 1) ls (.int (iZ (x / y)) :: rest))) : W p l e R s m args below meth c H locs cells slots Q (F0 m pc ls (.int (iZ y) :: .int (iZ x) :: rest)) := by
  refine lv_idiv hexec hb hdg (fun h => ?_) ?_
  · rw [iZ_0, iZ_eq ⟨by omega, by omega⟩ ⟨by omega, by omega⟩] at h
    omega
  · rw [iZ_div h0 h1 hd hd2]
    exact k
theorem zz_irem (hexec : p.tables.exec = Jvm.exec) (hb : c.code = cc) {x y : Int} (h0 : 0 ≤ x) (h1 : x < 2147483648) (hd : 0 < y) (hd2 : y < 2147483648) (hdg : decode cc pc = .ok (.irem, 1)) (k : W p l e R s m args below meth c H locs cells slots Q (F0 m (pc + 1) ls (.int (iZ (x % y)) :: rest))) : W p l e R s m args below meth c H locs cells slots Q (F0 m pc ls (.int (iZ y) :: .int (iZ x) :: rest)) := by
  refine lv_irem hexec hb hdg (fun h => ?_) ?_
  · rw [iZ_0, iZ_eq ⟨by omega, by omega⟩ ⟨by omega, by omega⟩] at h
    omega
  · rw [iZ_rem h0 h1 hd hd2]
    exact k
theorem zz_and255 (hexec : p.tables.exec = Jvm.exec) (hb : c.code = cc) {x : Int} (hdg : decode cc pc = .ok (.iand, 1)) (k : W p l e R s m args below meth c H locs cells slots Q (F0 m (pc + 1) ls (.int (iZ (x % 256)) :: rest))) : W p l e R s m args below meth c H locs cells slots Q (F0 m pc ls (.int (iZ 255) :: .int (iZ x) :: rest)) := by
  refine lv_iand hexec hb hdg ?_
  rw [iZ_and255]
  exact k
theorem zz_and255b (hexec : p.tables.exec = Jvm.exec) (hb : c.code = cc) {x : Int} (hdg : decode cc pc = .ok (.iand, 1)) (k : W p l e R s m args below meth c H locs cells slots Q (F0 m (pc + 1) ls (.int (iZ (x % 256)) :: rest))) : W p l e R s m args below meth c H locs cells slots Q (F0 m pc ls (.int (iZ 255) :: .int (iZ (Int.bmod x 256)) :: rest)) := by
  refine zz_and255 hexec hb hdg ?_
  rw [bm256]
  exact k
theorem zz_i2b (hexec : p.tables.exec = Jvm.exec) (hb : c.code = cc) {x : Int} (hdg : decode cc pc = .ok (.i2b, 1)) (k : W p l e R s m args below meth c H locs cells slots Q (F0 m (pc + 1) ls (.int (iZ (Int.bmod x 256)) :: rest))) : W p l e R s m args below meth c H locs cells slots Q (F0 m pc ls (.int (iZ x) :: rest)) := by
  exact lv_i2b hexec hb hdg (iZ_i8 x) k
theorem zz_l2i (hexec : p.tables.exec = Jvm.exec) (hb : c.code = cc) {x : Int64} (hdg : decode cc pc = .ok (.l2i, 1)) (k : W p l e R s m args below meth c H locs cells slots Q (F0 m (pc + 1) ls (.int (iZ x.toInt32.toInt) :: rest))) : W p l e R s m args below meth c H locs cells slots Q (F0 m pc ls (.long x :: rest)) := by
  exact lv_l2i hexec hb hdg (iZ_self _).symm k
theorem zz_icmp_eq (hexec : p.tables.exec = Jvm.exec) (hb : c.code = cc) {x y off : Int} {tgt : Nat} (hdg : decode cc pc = .ok (.if_icmp .eq off, 3)) (ht : (pc : Int) + off = (tgt : Int)) (hx : iB x) (hy : iB y) (kt : x = y → W p l e R s m args below meth c H locs cells slots Q (F0 m tgt ls rest)) (kf : x ≠ y → W p l e R s m args below meth c H locs cells slots Q (F0 m (pc + 3) ls rest)) : W p l e R s m args below meth c H locs cells slots Q (F0 m pc ls (.int (iZ y) :: .int (iZ x) :: rest)) :=
  lv_icmp_eq hexec hb hdg ht (fun h => kt ((iZ_eq hx hy).mp h)) (fun h => kf (fun q => h ((iZ_eq hx hy).mpr q)))
theorem zz_if_eq (hexec : p.tables.exec = Jvm.exec) (hb : c.code = cc) {x off : Int} {tgt : Nat} (hdg : decode cc pc = .ok (.ifCond .eq off, 3)) (ht : (pc : Int) + off = (tgt : Int)) (hx : iB x) (kt : x = 0 → W p l e R s m args below meth c H locs cells slots Q (F0 m tgt ls rest)) (kf : x ≠ 0 → W p l e R s m args below meth c H locs cells slots Q (F0 m (pc + 3) ls rest)) : W p l e R s m args below meth c H locs cells slots Q (F0 m pc ls (.int (iZ x) :: rest)) :=
  have hy : iB 0 := ⟨by omega, by omega⟩
  lv_if_eq hexec hb hdg ht (fun h => kt ((iZ_eq hx hy).mp h)) (fun h => kf (fun q => h ((iZ_eq hx hy).mpr q)))
theorem zz_icmp_ne (hexec : p.tables.exec = Jvm.exec) (hb : c.code = cc) {x y off : Int} {tgt : Nat} (hdg : decode cc pc = .ok (.if_icmp .ne off, 3)) (ht : (pc : Int) + off = (tgt : Int)) (hx : iB x) (hy : iB y) (kt : x ≠ y → W p l e R s m args below meth c H locs cells slots Q (F0 m tgt ls rest)) (kf : x = y → W p l e R s m args below meth c H locs cells slots Q (F0 m (pc + 3) ls rest)) : W p l e R s m args below meth c H locs cells slots Q (F0 m pc ls (.int (iZ y) :: .int (iZ x) :: rest)) :=
  lv_icmp_ne hexec hb hdg ht (fun h => kt (fun q => h ((iZ_eq hx hy).mpr q))) (fun h => kf ((iZ_eq hx hy).mp h))
theorem zz_if_ne (hexec : p.tables.exec = Jvm.exec) (hb : c.code = cc) {x off : Int} {tgt : Nat} (hdg : decode cc pc = .ok (.ifCond .ne off, 3)) (ht : (pc : Int) + off = (tgt : Int)) (hx : iB x) (kt : x ≠ 0 → W p l e R s m args below meth c H locs cells slots Q (F0 m tgt ls rest)) (kf : x = 0 → W p l e R s m args below meth c H locs cells slots Q (F0 m (pc + 3) ls rest)) : W p l e R s m args below meth c H locs cells slots Q (F0 m pc ls (.int (iZ x) :: rest)) :=
  have hy : iB 0 := ⟨by omega, by omega⟩
  lv_if_ne hexec hb hdg ht (fun h => kt (fun q => h ((iZ_eq hx hy).mpr q))) (fun h => kf ((iZ_eq hx hy).mp h))
theorem zz_icmp_lt (hexec : p.tables.exec = Jvm.exec) (hb : c.code = cc) {x y off : Int} {tgt : Nat} (hdg : decode cc pc = .ok (.if_icmp .lt off, 3)) (ht : (pc : Int) + off = (tgt : Int)) (hx : iB x) (hy : iB y) (kt : x < y → W p l e R s m args below meth c H locs cells slots Q (F0 m tgt ls rest)) (kf : y ≤ x → W p l e R s m args below meth c H locs cells slots Q (F0 m (pc + 3) ls rest)) : W p l e R s m args below meth c H locs cells slots Q (F0 m pc ls (.int (iZ y) :: .int (iZ x) :: rest)) :=
  lv_icmp_lt hexec hb hdg ht (fun h => kt ((iZ_lt hx hy).mp h)) (fun h => kf (Int.not_lt.mp fun q => h ((iZ_lt hx hy).mpr q)))
theorem zz_if_lt (hexec : p.tables.exec = Jvm.exec) (hb : c.code = cc) {x off : Int} {tgt : Nat} (hdg : decode cc pc = .ok (.ifCond .lt off, 3)) (ht : (pc : Int) + off = (tgt : Int)) (hx : iB x) (kt : x < 0 → W p l e R s m args below meth c H locs cells slots Q (F0 m tgt ls rest)) (kf : 0 ≤ x → W p l e R s m args below meth c H locs cells slots Q (F0 m (pc + 3) ls rest)) : W p l e R s m args below meth c H locs cells slots Q (F0 m pc ls (.int (iZ x) :: rest)) :=
  have hy : iB 0 := ⟨by omega, by omega⟩
  lv_if_lt hexec hb hdg ht (fun h => kt ((iZ_lt hx hy).mp h)) (fun h => kf (Int.not_lt.mp fun q => h ((iZ_lt hx hy).mpr q)))
theorem zz_icmp_ge (hexec : p.tables.exec = Jvm.exec) (hb : c.code = cc) {x y off : Int} {tgt : Nat} (hdg : decode cc pc = .ok (.if_icmp .ge off, 3)) (ht : (pc : Int) + off = (tgt : Int)) (hx : iB x) (hy : iB y) (kt : y ≤ x → W p l e R s m args below meth c H locs cells slots Q (F0 m tgt ls rest)) (kf : x < y → W p l e R s m args below meth c H locs cells slots Q (F0 m (pc + 3) ls rest)) : W p l e R s m args below meth c H locs cells slots Q (F0 m pc ls (.int (iZ y) :: .int (iZ x) :: rest)) :=
  lv_icmp_ge hexec hb hdg ht (fun h => kt ((iZ_le hy hx).mp h)) (fun h => kf (Int.not_le.mp fun q => h ((iZ_le hy hx).mpr q)))
theorem zz_if_ge (hexec : p.tables.exec = Jvm.exec) (hb : c.code = cc) {x off : Int} {tgt : Nat} (hdg : decode cc pc = .ok (.ifCond .ge off, 3)) (ht : (pc : Int) + off = (tgt : Int)) (hx : iB x) (kt : 0 ≤ x → W p l e R s m args below meth c H locs cells slots Q (F0 m tgt ls rest)) (kf : x < 0 → W p l e R s m args below meth c H locs cells slots Q (F0 m (pc + 3) ls rest)) : W p l e R s m args below meth c H locs cells slots Q (F0 m pc ls (.int (iZ x) :: rest)) :=
  have hy : iB 0 := ⟨by omega, by omega⟩
  lv_if_ge hexec hb hdg ht (fun h => kt ((iZ_le hy hx).mp h)) (fun h => kf (Int.not_le.mp fun q => h ((iZ_le hy hx).mpr q)))
theorem zz_icmp_gt (hexec : p.tables.exec = Jvm.exec) (hb : c.code = cc) {x y off : Int} {tgt : Nat} (hdg : decode cc pc = .ok (.if_icmp .gt off, 3)) (ht : (pc : Int) + off = (tgt : Int)) (hx : iB x) (hy : iB y) (kt : y < x → W p l e R s m args below meth c H locs cells slots Q (F0 m tgt ls rest)) (kf : x ≤ y → W p l e R s m args below meth c H locs cells slots Q (F0 m (pc + 3) ls rest)) : W p l e R s m args below meth c H locs cells slots Q (F0 m pc ls (.int (iZ y) :: .int (iZ x) :: rest)) :=
  lv_icmp_gt hexec hb hdg ht (fun h => kt ((iZ_lt hy hx).mp h)) (fun h => kf (Int.not_lt.mp fun q => h ((iZ_lt hy hx).mpr q)))
theorem zz_if_gt (hexec : p.tables.exec = Jvm.exec) (hb : c.code = cc) {x off : Int} {tgt : Nat} (hdg : decode cc pc = .ok (.ifCond .gt off, 3)) (ht : (pc : Int) + off = (tgt : Int)) (hx : iB x) (kt : 0 < x → W p l e R s m args below meth c H locs cells slots Q (F0 m tgt ls rest)) (kf : x ≤ 0 → W p l e R s m args below meth c H locs cells slots Q (F0 m (pc + 3) ls rest)) : W p l e R s m args below meth c H locs cells slots Q (F0 m pc ls (.int (iZ x) :: rest)) :=
  have hy : iB 0 := ⟨by omega, by omega⟩
  lv_if_gt hexec hb hdg ht (fun h => kt ((iZ_lt hy hx).mp h)) (fun h => kf (Int.not_lt.mp fun q => h ((iZ_lt hy hx).mpr q)))
theorem zz_icmp_le (hexec : p.tables.exec = Jvm.exec) (hb : c.code = cc) {x y off : Int} {tgt : Nat} (hdg : decode cc pc = .ok (.if_icmp .le off, 3)) (ht : (pc : Int) + off = (tgt : Int)) (hx : iB x) (hy : iB y) (kt : x ≤ y → W p l e R s m args below meth c H locs cells slots Q (F0 m tgt ls rest)) (kf : y < x → W p l e R s m args below meth c H locs cells slots Q (F0 m (pc + 3) ls rest)) : W p l e R s m args below meth c H locs cells slots Q (F0 m pc ls (.int (iZ y) :: .int (iZ x) :: rest)) :=
  lv_icmp_le hexec hb hdg ht (fun h => kt ((iZ_le hx hy).mp h)) (fun h => kf (Int.not_le.mp fun q => h ((iZ_le hx hy).mpr q)))
theorem zz_if_le (hexec : p.tables.exec = Jvm.exec) (hb : c.code = cc) {x off : Int} {tgt : Nat} (hdg : decode cc pc = .ok (.ifCond .le off, 3)) (ht : (pc : Int) + off = (tgt : Int)) (hx : iB x) (kt : x ≤ 0 → W p l e R s m args below meth c H locs cells slots Q (F0 m tgt ls rest)) (kf : 0 < x → W p l e R s m args below meth c H locs cells slots Q (F0 m (pc + 3) ls rest)) : W p l e R s m args below meth c H locs cells slots Q (F0 m pc ls (.int (iZ x) :: rest)) :=
  have hy : iB 0 := ⟨by omega, by omega⟩
  lv_if_le hexec hb hdg ht (fun h => kt ((iZ_le hx hy).mp h)) (fun h => kf (Int.not_le.mp fun q => h ((iZ_le hx hy).mpr q)))
theorem zz_bald (hexec : p.tables.exec = Jvm.exec) (hb : c.code = cc) (hK : va_K D cl tys s) (hP : va_P D cl ws H) (q0 t0 : Nat) {cA : ClassId} {n : Nat} {u : Nat → Int} {x : Int} (ha : ws[q0]? = some (a, .inl (cA, n, .inl (fun j => iZ (Int.bmod (u j) 256))))) (ht : tys[t0]? = some (cA, .byte)) (h0 : 0 ≤ x) (h1 : x < n) (hn : n < 2147483648) (hdg : decode cc pc = .ok (.baload, 1)) (k : W p l e R s m args below meth c H locs cells slots Q (F0 m (pc + 1) ls (.int (iZ (Int.bmod (u x.toNat) 256)) :: rest))) : W p l e R s m args below meth c H locs cells slots Q (F0 m pc ls (.int (iZ x) :: .ref a :: rest)) := by
  refine va_bald hexec hb hK hP q0 t0 ha ht (iZ_in h0 h1 hn) hdg ?_
  rw [iZ_cl h0 (by omega)]
  exact k
theorem zz_iald (hexec : p.tables.exec = Jvm.exec) (hb : c.code = cc) (hK : va_K D cl tys s) (hP : va_P D cl ws H) (q0 t0 : Nat) {cA : ClassId} {n : Nat} {u : Nat → Int} {x : Int} (ha : ws[q0]? = some (a, .inl (cA, n, .inl (fun j => iZ (u j))))) (ht : tys[t0]? = some (cA, .int)) (h0 : 0 ≤ x) (h1 : x < n) (hn : n < 2147483648) (hdg : decode cc pc = .ok (.iaload, 1)) (k : W p l e R s m args below meth c H locs cells slots Q (F0 m (pc + 1) ls (.int (iZ (u x.toNat)) :: rest))) : W p l e R s m args below meth c H locs cells slots Q (F0 m pc ls (.int (iZ x) :: .ref a :: rest)) := by
  refine va_iald hexec hb hK hP q0 t0 ha ht (iZ_in h0 h1 hn) hdg ?_
  rw [iZ_cl h0 (by omega)]
  exact k
theorem zz_lald (hexec : p.tables.exec = Jvm.exec) (hb : c.code = cc) (hK : va_K D cl tys s) (hP : va_P D cl ws H) (q0 t0 : Nat) {cA : ClassId} {n : Nat} {u : Nat → Int64} {x : Int} (ha : ws[q0]? = some (a, .inl (cA, n, .inr (.inl u)))) (ht : tys[t0]? = some (cA, .long)) (h0 : 0 ≤ x) (h1 : x < n) (hn : n < 2147483648) (hdg : decode cc pc = .ok (.laload, 1)) (k : W p l e R s m args below meth c H locs cells slots Q (F0 m (pc + 1) ls (.long (u x.toNat) :: rest))) : W p l e R s m args below meth c H locs cells slots Q (F0 m pc ls (.int (iZ x) :: .ref a :: rest)) := by
  refine va_lald hexec hb hK hP q0 t0 ha ht (iZ_in h0 h1 hn) hdg ?_
  rw [iZ_cl h0 (by omega)]
  exact k
theorem zz_bast (hexec : p.tables.exec = Jvm.exec) (hb : c.code = cc) (hK : va_K D cl tys s) (hP : va_P D cl ws H) (hD : va_D A ws) (hS : va_S A H0 H locs) (q0 t0 : Nat) {cA : ClassId} {n : Nat} {u : Nat → Int} {x v : Int} (ha : ws[q0]? = some (a, .inl (cA, n, .inl (fun j => iZ (Int.bmod (u j) 256))))) (ht : tys[t0]? = some (cA, .byte)) (h0 : 0 ≤ x) (h1 : x < n) (hn : n < 2147483648) (hdg : decode cc pc = .ok (.bastore, 1)) (kk : ∀ (H1 : Heap) (locs1 : List Loc), va_P D cl (ws.set q0 (a, .inl (cA, n, .inl (fun j => iZ (Int.bmod (va_up u x.toNat v j) 256))))) H1 → va_D A (ws.set q0 (a, .inl (cA, n, .inl (fun j => iZ (Int.bmod (va_up u x.toNat v j) 256))))) → va_S A H0 H1 locs1 → W p l e R s m args below meth c H1 locs1 cells slots Q (F0 m (pc + 1) ls rest)) : W p l e R s m args below meth c H locs cells slots Q (F0 m pc ls (.int (iZ v) :: .int (iZ x) :: .ref a :: rest)) := by
  refine va_bast hexec hb hK hP hD hS q0 t0 ha ht (iZ_in h0 h1 hn) hdg (fun H1 l1 h1' h2 h3 => ?_)
  have hf : upd (fun j => iZ (Int.bmod (u j) 256)) (iZ x).toNatClampNeg (vp_nar .byte (iZ v)) = (fun j => iZ (Int.bmod (va_up u x.toNat v j) 256)) := by
    funext j
    rw [iZ_cl h0 (by omega), vp_nar_byte, iZ_i8]
    by_cases hj : j = x.toNat
    · subst hj; rw [pk_us, va_up_self]
    · rw [pk_un hj, va_up_ne _ _ hj]
  rw [hf] at h1' h2
  exact kk H1 l1 h1' h2 h3
theorem zz_iast (hexec : p.tables.exec = Jvm.exec) (hb : c.code = cc) (hK : va_K D cl tys s) (hP : va_P D cl ws H) (hD : va_D A ws) (hS : va_S A H0 H locs) (q0 t0 : Nat) {cA : ClassId} {n : Nat} {u : Nat → Int} {x v : Int} (ha : ws[q0]? = some (a, .inl (cA, n, .inl (fun j => iZ (u j))))) (ht : tys[t0]? = some (cA, .int)) (h0 : 0 ≤ x) (h1 : x < n) (hn : n < 2147483648) (hdg : decode cc pc = .ok (.iastore, 1)) (kk : ∀ (H1 : Heap) (locs1 : List Loc), va_P D cl (ws.set q0 (a, .inl (cA, n, .inl (fun j => iZ (va_up u x.toNat v j))))) H1 → va_D A (ws.set q0 (a, .inl (cA, n, .inl (fun j => iZ (va_up u x.toNat v j))))) → va_S A H0 H1 locs1 → W p l e R s m args below meth c H1 locs1 cells slots Q (F0 m (pc + 1) ls rest)) : W p l e R s m args below meth c H locs cells slots Q (F0 m pc ls (.int (iZ v) :: .int (iZ x) :: .ref a :: rest)) := by
  refine va_iast hexec hb hK hP hD hS q0 t0 ha ht (iZ_in h0 h1 hn) hdg (fun H1 l1 h1' h2 h3 => ?_)
  have hf : upd (fun j => iZ (u j)) (iZ x).toNatClampNeg (iZ v) = (fun j => iZ (va_up u x.toNat v j)) := by
    funext j
    rw [iZ_cl h0 (by omega)]
    by_cases hj : j = x.toNat
    · subst hj; rw [pk_us, va_up_self]
    · rw [pk_un hj, va_up_ne _ _ hj]
  rw [hf] at h1' h2
  exact kk H1 l1 h1' h2 h3
theorem zz_last (hexec : p.tables.exec = Jvm.exec) (hb : c.code = cc) (hK : va_K D cl tys s) (hP : va_P D cl ws H) (hD : va_D A ws) (hS : va_S A H0 H locs) (q0 t0 : Nat) {cA : ClassId} {n : Nat} {u : Nat → Int64} {x : Int} {v : Int64} (ha : ws[q0]? = some (a, .inl (cA, n, .inr (.inl u)))) (ht : tys[t0]? = some (cA, .long)) (h0 : 0 ≤ x) (h1 : x < n) (hn : n < 2147483648) (hdg : decode cc pc = .ok (.lastore, 1)) (kk : ∀ (H1 : Heap) (locs1 : List Loc), va_P D cl (ws.set q0 (a, .inl (cA, n, .inr (.inl (va_up u x.toNat v))))) H1 → va_D A (ws.set q0 (a, .inl (cA, n, .inr (.inl (va_up u x.toNat v))))) → va_S A H0 H1 locs1 → W p l e R s m args below meth c H1 locs1 cells slots Q (F0 m (pc + 1) ls rest)) : W p l e R s m args below meth c H locs cells slots Q (F0 m pc ls (.long v :: .int (iZ x) :: .ref a :: rest)) := by
  refine va_last hexec hb hK hP hD hS q0 t0 ha ht (iZ_in h0 h1 hn) hdg (fun H1 l1 h1' h2 h3 => ?_)
  have hf : vp_updL u (iZ x).toNatClampNeg v = va_up u x.toNat v := by
    funext j
    rw [iZ_cl h0 (by omega)]
    by_cases hj : j = x.toNat
    · subst hj; rw [pk_uLs, va_up_self]
    · rw [pk_uLn hj, va_up_ne _ _ hj]
  rw [hf] at h1' h2
  exact kk H1 l1 h1' h2 h3
end ZZ
