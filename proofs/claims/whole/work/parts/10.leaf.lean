set_option maxHeartbeats 4000000 in
set_option maxRecDepth 100000 in
theorem c_Di_written (l : Launch) (dC : Nat → ClassId) (dI : Nat → Nat → Nat) (cB : ClassId) (cI : ClassId) (cJ : ClassId) (cZ : ClassId) (cQ : ClassId) (h0 : Nat) (sz : Nat) (wr : Int) (lf : Int) : Met l y_Di_written ((Cond.code y_Di_written prog_3_method_2_code 1 (some .int)) :: gw) ({ frames := 0, cells := 0, slots := 0, locals := 0 } : Room) (zPc (dC, dI) [(cB, .byte), (cI, .int), (cJ, .long), (cZ, .boolean), (cQ, .object "LogDesk$Block")] [.ref h0] [(h0, .inr (1, [.int (iZ wr), .int (iZ lf)]))] sz) (va_Qi (fun (r : Int32) (_ : Unit) => r = iZ wr) (zB (dC, dI) [(cB, .byte), (cI, .int), (cJ, .long), (cZ, .boolean), (cQ, .object "LogDesk$Block")] (va_A [(h0, .inr (1, [.int (iZ wr), .int (iZ lf)]))] sz) [(h0, .inr (1, [.int (iZ wr), .int (iZ lf)]))]) (va_A [(h0, .inr (1, [.int (iZ wr), .int (iZ lf)]))] sz)) 0 0 (va_A [(h0, .inr (1, [.int (iZ wr), .int (iZ lf)]))] sz) := by
  refine Met.ofW (cc := prog_3_method_2_code) (maxL := 1) (ret := (some .int)) (by decide) rfl ?_
  intro p e s m args below meth c s₁ B hml hv
  obtain ⟨rfl, hsz, hP, hK, hD0, hZ⟩ := hv
  have hx := B.exec
  have hb := B.bytes
  have hr := B.returns
  have hts := atoms_spec (ws := (Cond.code y_Di_written prog_3_method_2_code 1 (some .int)) :: gw) B.pre
  have htg : ∀ w ∈ gw, w.before _ s = true := fun w h => hts w (List.mem_cons_of_mem _ h)
  have hown : s.vm.findClass "LogDesk$Disk" = some m.cls := findClass_of_methodNamed B.named
  have hlocks := B.notSynchronized
  subst hsz
  have hD := hD0.self (sz := s.heap.size)
  generalize hAe : va_A [(h0, .inr (1, [.int (iZ wr), .int (iZ lf)]))] s.heap.size = A at hD ⊢
  have hRc : (headSpec ((Cond.code y_Di_written prog_3_method_2_code 1 (some .int)) :: gw) ({ frames := 0, cells := 0, slots := 0, locals := 0 } : Room)).room.cells = 0 := rfl
  have hRs : (headSpec ((Cond.code y_Di_written prog_3_method_2_code 1 (some .int)) :: gw) ({ frames := 0, cells := 0, slots := 0, locals := 0 } : Room)).room.slots = 0 := rfl
  have hA : ∀ q : Nat, s.heap.size ≤ q → A q := fun q h => by rw [← hAe]; exact Or.inr h
  have hS : va_S A s.heap s.heap [] := va_S.rf
  have hP : va_P (dC, dI) vwCl [(h0, .inr (1, [.int (iZ wr), .int (iZ lf)]))] s.heap := hP
  have hl := lv_entry ([.ref h0]) (n := 1) (Nat.le_of_ble_eq_true rfl)
  rw [lg_entry_eq]
  generalize (lg_sl ([.ref h0]) ++ List.replicate (1 - (lg_sl ([.ref h0])).length) Slot.unset).toArray = ls at hl ⊢
  have hl : lv_has ls 1 [(0, .ref h0)] := hl
  refine lv_aload_n hx hb d_Di_written_0 rfl (lv_at hl 0 rfl) ?_
  refine va_get (D := (dC, dI)) (ci := 1) (v := .int (iZ wr)) (C := "LogDesk$Disk") (T := F_Di) (N := 2) hx hb htg hin_Di hown hK hP 0 rfl rfl 0 (by decide) (htg _ k_83) (fun _ h9 => h9) rfl d_Di_written_1 ?_
  exact W.iret (v := (iZ wr)) hx hb hr (fun t ht hW => ⟨⟨_, (), rfl, rfl, by rw [ht]; exact hP, va_K.moved hW.alike hK, hAe ▸ hD⟩, hAe ▸ hS.F ht⟩) (hAe ▸ hS.2.2) d_Di_written_4
set_option maxHeartbeats 4000000 in
set_option maxRecDepth 100000 in
theorem c_Di_setCharge (l : Launch) (dC : Nat → ClassId) (dI : Nat → Nat → Nat) (cB : ClassId) (cI : ClassId) (cJ : ClassId) (cZ : ClassId) (cQ : ClassId) (h0 : Nat) (sz : Nat) (wr : Int) (lf : Int) (n : Int) : Met l y_Di_setCharge ((Cond.code y_Di_setCharge prog_3_method_3_code 2 none) :: gw) ({ frames := 0, cells := 0, slots := 0, locals := 0 } : Room) (zPc (dC, dI) [(cB, .byte), (cI, .int), (cJ, .long), (cZ, .boolean), (cQ, .object "LogDesk$Block")] [.ref h0, .int (iZ n)] [(h0, .inr (1, [.int (iZ wr), .int (iZ lf)]))] sz) (va_Qv (fun (_ : Unit) => True) (zB (dC, dI) [(cB, .byte), (cI, .int), (cJ, .long), (cZ, .boolean), (cQ, .object "LogDesk$Block")] (va_A [(h0, .inr (1, [.int (iZ wr), .int (iZ lf)]))] sz) [(h0, .inr (1, [.int (iZ wr), .int (iZ n)]))]) (va_A [(h0, .inr (1, [.int (iZ wr), .int (iZ lf)]))] sz)) 0 0 (va_A [(h0, .inr (1, [.int (iZ wr), .int (iZ lf)]))] sz) := by
  refine Met.ofW (cc := prog_3_method_3_code) (maxL := 2) (ret := none) (by decide) rfl ?_
  intro p e s m args below meth c s₁ B hml hv
  obtain ⟨rfl, hsz, hP, hK, hD0, hZ⟩ := hv
  have hx := B.exec
  have hb := B.bytes
  have hr := B.returns
  have hts := atoms_spec (ws := (Cond.code y_Di_setCharge prog_3_method_3_code 2 none) :: gw) B.pre
  have htg : ∀ w ∈ gw, w.before _ s = true := fun w h => hts w (List.mem_cons_of_mem _ h)
  have hown : s.vm.findClass "LogDesk$Disk" = some m.cls := findClass_of_methodNamed B.named
  have hlocks := B.notSynchronized
  subst hsz
  have hD := hD0.self (sz := s.heap.size)
  generalize hAe : va_A [(h0, .inr (1, [.int (iZ wr), .int (iZ lf)]))] s.heap.size = A at hD ⊢
  have hRc : (headSpec ((Cond.code y_Di_setCharge prog_3_method_3_code 2 none) :: gw) ({ frames := 0, cells := 0, slots := 0, locals := 0 } : Room)).room.cells = 0 := rfl
  have hRs : (headSpec ((Cond.code y_Di_setCharge prog_3_method_3_code 2 none) :: gw) ({ frames := 0, cells := 0, slots := 0, locals := 0 } : Room)).room.slots = 0 := rfl
  have hA : ∀ q : Nat, s.heap.size ≤ q → A q := fun q h => by rw [← hAe]; exact Or.inr h
  have hS : va_S A s.heap s.heap [] := va_S.rf
  have hP : va_P (dC, dI) vwCl [(h0, .inr (1, [.int (iZ wr), .int (iZ lf)]))] s.heap := hP
  have hl := lv_entry ([.ref h0, .int (iZ n)]) (n := 2) (Nat.le_of_ble_eq_true rfl)
  rw [lg_entry_eq]
  generalize (lg_sl ([.ref h0, .int (iZ n)]) ++ List.replicate (2 - (lg_sl ([.ref h0, .int (iZ n)])).length) Slot.unset).toArray = ls at hl ⊢
  have hl : lv_has ls 2 [(0, .ref h0), (1, .int (iZ n))] := hl
  refine lv_aload_n hx hb d_Di_setCharge_0 rfl (lv_at hl 0 rfl) ?_
  refine lv_iload_n hx hb d_Di_setCharge_1 rfl (lv_at hl 1 rfl) ?_
  refine va_put (D := (dC, dI)) (ci := 1) (v := .int (iZ n)) (ty := t_Di 1) (C := "LogDesk$Disk") (T := F_Di) (N := 2) hx hb htg hin_Di t_Di t_Di_ok n_Di hown hK hP hD hS 0 rfl rfl 1 (by decide) (htg _ k_84) (fun _ h9 => h9) rfl (by decide +kernel) rfl rfl (Nat.le_of_ble_eq_true rfl) d_Di_setCharge_2 (fun H locs hP hD hS => ?_)
  have hP : va_P (dC, dI) vwCl [(h0, .inr (1, [.int (iZ wr), .int (iZ n)]))] H := hP
  have hD : va_D A [(h0, .inr (1, [.int (iZ wr), .int (iZ n)]))] := hD
  exact W.vret hx hb hr (fun t ht hW => ⟨⟨(), rfl, trivial, by rw [ht]; exact hP, va_K.moved hW.alike hK, hAe ▸ hD⟩, hAe ▸ hS.F ht⟩) (hAe ▸ hS.2.2) d_Di_setCharge_5
set_option maxHeartbeats 4000000 in
set_option maxRecDepth 100000 in
theorem c_Di_dropCharge (l : Launch) (dC : Nat → ClassId) (dI : Nat → Nat → Nat) (cB : ClassId) (cI : ClassId) (cJ : ClassId) (cZ : ClassId) (cQ : ClassId) (h0 : Nat) (sz : Nat) (wr : Int) (lf : Int) : Met l y_Di_dropCharge ((Cond.code y_Di_dropCharge prog_3_method_4_code 1 none) :: gw) ({ frames := 0, cells := 0, slots := 0, locals := 0 } : Room) (zPc (dC, dI) [(cB, .byte), (cI, .int), (cJ, .long), (cZ, .boolean), (cQ, .object "LogDesk$Block")] [.ref h0] [(h0, .inr (1, [.int (iZ wr), .int (iZ lf)]))] sz) (va_Qv (fun (_ : Unit) => True) (zB (dC, dI) [(cB, .byte), (cI, .int), (cJ, .long), (cZ, .boolean), (cQ, .object "LogDesk$Block")] (va_A [(h0, .inr (1, [.int (iZ wr), .int (iZ lf)]))] sz) [(h0, .inr (1, [.int (iZ wr), .int (iZ (-1))]))]) (va_A [(h0, .inr (1, [.int (iZ wr), .int (iZ lf)]))] sz)) 0 0 (va_A [(h0, .inr (1, [.int (iZ wr), .int (iZ lf)]))] sz) := by
  refine Met.ofW (cc := prog_3_method_4_code) (maxL := 1) (ret := none) (by decide) rfl ?_
  intro p e s m args below meth c s₁ B hml hv
  obtain ⟨rfl, hsz, hP, hK, hD0, hZ⟩ := hv
  have hx := B.exec
  have hb := B.bytes
  have hr := B.returns
  have hts := atoms_spec (ws := (Cond.code y_Di_dropCharge prog_3_method_4_code 1 none) :: gw) B.pre
  have htg : ∀ w ∈ gw, w.before _ s = true := fun w h => hts w (List.mem_cons_of_mem _ h)
  have hown : s.vm.findClass "LogDesk$Disk" = some m.cls := findClass_of_methodNamed B.named
  have hlocks := B.notSynchronized
  subst hsz
  have hD := hD0.self (sz := s.heap.size)
  generalize hAe : va_A [(h0, .inr (1, [.int (iZ wr), .int (iZ lf)]))] s.heap.size = A at hD ⊢
  have hRc : (headSpec ((Cond.code y_Di_dropCharge prog_3_method_4_code 1 none) :: gw) ({ frames := 0, cells := 0, slots := 0, locals := 0 } : Room)).room.cells = 0 := rfl
  have hRs : (headSpec ((Cond.code y_Di_dropCharge prog_3_method_4_code 1 none) :: gw) ({ frames := 0, cells := 0, slots := 0, locals := 0 } : Room)).room.slots = 0 := rfl
  have hA : ∀ q : Nat, s.heap.size ≤ q → A q := fun q h => by rw [← hAe]; exact Or.inr h
  have hS : va_S A s.heap s.heap [] := va_S.rf
  have hP : va_P (dC, dI) vwCl [(h0, .inr (1, [.int (iZ wr), .int (iZ lf)]))] s.heap := hP
  have hl := lv_entry ([.ref h0]) (n := 1) (Nat.le_of_ble_eq_true rfl)
  rw [lg_entry_eq]
  generalize (lg_sl ([.ref h0]) ++ List.replicate (1 - (lg_sl ([.ref h0])).length) Slot.unset).toArray = ls at hl ⊢
  have hl : lv_has ls 1 [(0, .ref h0)] := hl
  refine lv_aload_n hx hb d_Di_dropCharge_0 rfl (lv_at hl 0 rfl) ?_
  refine lv_iconst (v := iZ (-1)) hx hb d_Di_dropCharge_1 rfl ?_
  refine va_put (D := (dC, dI)) (ci := 1) (v := .int (iZ (-1))) (ty := t_Di 1) (C := "LogDesk$Disk") (T := F_Di) (N := 2) hx hb htg hin_Di t_Di t_Di_ok n_Di hown hK hP hD hS 0 rfl rfl 1 (by decide) (htg _ k_84) (fun _ h9 => h9) rfl (by decide +kernel) rfl rfl (Nat.le_of_ble_eq_true rfl) d_Di_dropCharge_2 (fun H locs hP hD hS => ?_)
  have hP : va_P (dC, dI) vwCl [(h0, .inr (1, [.int (iZ wr), .int (iZ (-1))]))] H := hP
  have hD : va_D A [(h0, .inr (1, [.int (iZ wr), .int (iZ (-1))]))] := hD
  exact W.vret hx hb hr (fun t ht hW => ⟨⟨(), rfl, trivial, by rw [ht]; exact hP, va_K.moved hW.alike hK, hAe ▸ hD⟩, hAe ▸ hS.F ht⟩) (hAe ▸ hS.2.2) d_Di_dropCharge_5
set_option maxHeartbeats 4000000 in
set_option maxRecDepth 100000 in
theorem c_Di_writeBlock (l : Launch) (dC : Nat → ClassId) (dI : Nat → Nat → Nat) (cB : ClassId) (cI : ClassId) (cJ : ClassId) (cZ : ClassId) (cQ : ClassId) (h0 : Nat) (sz : Nat) (wr : Int) (lf : Int) (hlf : -1 ≤ lf ∧ lf < 1000) (hwr : 0 ≤ wr ∧ wr < 1000000000) : Met l y_Di_writeBlock ((Cond.code y_Di_writeBlock prog_3_method_5_code 1 (some .boolean)) :: gw) ({ frames := 0, cells := 0, slots := 0, locals := 0 } : Room) (zPc (dC, dI) [(cB, .byte), (cI, .int), (cJ, .long), (cZ, .boolean), (cQ, .object "LogDesk$Block")] [.ref h0] [(h0, .inr (1, [.int (iZ wr), .int (iZ lf)]))] sz) (va_Qi (fun (r : Int32) (_ : Unit) => r = iZ (if lf = 0 then 0 else 1)) (zB (dC, dI) [(cB, .byte), (cI, .int), (cJ, .long), (cZ, .boolean), (cQ, .object "LogDesk$Block")] (va_A [(h0, .inr (1, [.int (iZ wr), .int (iZ lf)]))] sz) [(h0, .inr (1, [.int (iZ (if lf = 0 then wr else wr + 1)), .int (iZ (if 0 < lf then lf - 1 else lf))]))]) (va_A [(h0, .inr (1, [.int (iZ wr), .int (iZ lf)]))] sz)) 0 0 (va_A [(h0, .inr (1, [.int (iZ wr), .int (iZ lf)]))] sz) := by
  refine Met.ofW (cc := prog_3_method_5_code) (maxL := 1) (ret := (some .boolean)) (by decide) rfl ?_
  intro p e s m args below meth c s₁ B hml hv
  obtain ⟨rfl, hsz, hP, hK, hD0, hZ⟩ := hv
  have hx := B.exec
  have hb := B.bytes
  have hr := B.returns
  have hts := atoms_spec (ws := (Cond.code y_Di_writeBlock prog_3_method_5_code 1 (some .boolean)) :: gw) B.pre
  have htg : ∀ w ∈ gw, w.before _ s = true := fun w h => hts w (List.mem_cons_of_mem _ h)
  have hown : s.vm.findClass "LogDesk$Disk" = some m.cls := findClass_of_methodNamed B.named
  have hlocks := B.notSynchronized
  subst hsz
  have hD := hD0.self (sz := s.heap.size)
  generalize hAe : va_A [(h0, .inr (1, [.int (iZ wr), .int (iZ lf)]))] s.heap.size = A at hD ⊢
  have hRc : (headSpec ((Cond.code y_Di_writeBlock prog_3_method_5_code 1 (some .boolean)) :: gw) ({ frames := 0, cells := 0, slots := 0, locals := 0 } : Room)).room.cells = 0 := rfl
  have hRs : (headSpec ((Cond.code y_Di_writeBlock prog_3_method_5_code 1 (some .boolean)) :: gw) ({ frames := 0, cells := 0, slots := 0, locals := 0 } : Room)).room.slots = 0 := rfl
  have hA : ∀ q : Nat, s.heap.size ≤ q → A q := fun q h => by rw [← hAe]; exact Or.inr h
  have hS : va_S A s.heap s.heap [] := va_S.rf
  have hP : va_P (dC, dI) vwCl [(h0, .inr (1, [.int (iZ wr), .int (iZ lf)]))] s.heap := hP
  have hl := lv_entry ([.ref h0]) (n := 1) (Nat.le_of_ble_eq_true rfl)
  rw [lg_entry_eq]
  generalize (lg_sl ([.ref h0]) ++ List.replicate (1 - (lg_sl ([.ref h0])).length) Slot.unset).toArray = ls at hl ⊢
  have hl : lv_has ls 1 [(0, .ref h0)] := hl
  refine lv_aload_n hx hb d_Di_writeBlock_0 rfl (lv_at hl 0 rfl) ?_
  refine va_get (D := (dC, dI)) (ci := 1) (v := .int (iZ lf)) (C := "LogDesk$Disk") (T := F_Di) (N := 2) hx hb htg hin_Di hown hK hP 0 rfl rfl 1 (by decide) (htg _ k_84) (fun _ h9 => h9) rfl d_Di_writeBlock_1 ?_
  refine zz_if_ne (tgt := 9) hx hb d_Di_writeBlock_4 (by decide) ⟨by omega, by omega⟩ (fun c_1 => ?_) (fun c_1 => ?_)
  · refine lv_aload_n hx hb d_Di_writeBlock_9 rfl (lv_at hl 0 rfl) ?_
    refine va_get (D := (dC, dI)) (ci := 1) (v := .int (iZ lf)) (C := "LogDesk$Disk") (T := F_Di) (N := 2) hx hb htg hin_Di hown hK hP 0 rfl rfl 1 (by decide) (htg _ k_84) (fun _ h9 => h9) rfl d_Di_writeBlock_10 ?_
    refine lv_iconst (v := iZ (-1)) hx hb d_Di_writeBlock_13 rfl ?_
    refine zz_icmp_eq (tgt := 27) hx hb d_Di_writeBlock_14 (by decide) ⟨by omega, by omega⟩ ⟨by omega, by omega⟩ (fun c_2 => ?_) (fun c_2 => ?_)
    · refine lv_aload_n hx hb d_Di_writeBlock_27 rfl (lv_at hl 0 rfl) ?_
      refine lv_dup hx hb d_Di_writeBlock_28 rfl ?_
      refine va_get (D := (dC, dI)) (ci := 1) (v := .int (iZ wr)) (C := "LogDesk$Disk") (T := F_Di) (N := 2) hx hb htg hin_Di hown hK hP 0 rfl rfl 0 (by decide) (htg _ k_83) (fun _ h9 => h9) rfl d_Di_writeBlock_29 ?_
      refine lv_iconst (v := iZ 1) hx hb d_Di_writeBlock_32 rfl ?_
      refine zz_iadd hx hb d_Di_writeBlock_33 ?_
      refine va_put (D := (dC, dI)) (ci := 1) (v := .int (iZ (wr + 1))) (ty := t_Di 0) (C := "LogDesk$Disk") (T := F_Di) (N := 2) hx hb htg hin_Di t_Di t_Di_ok n_Di hown hK hP hD hS 0 rfl rfl 0 (by decide) (htg _ k_83) (fun _ h9 => h9) rfl (by decide +kernel) rfl rfl (Nat.le_of_ble_eq_true rfl) d_Di_writeBlock_34 (fun H locs hP hD hS => ?_)
      have hP : va_P (dC, dI) vwCl [(h0, .inr (1, [.int (iZ (wr + 1)), .int (iZ lf)]))] H := hP
      have hD : va_D A [(h0, .inr (1, [.int (iZ (wr + 1)), .int (iZ lf)]))] := hD
      refine lv_iconst (v := iZ 1) hx hb d_Di_writeBlock_37 rfl ?_
      have eW : ∀ (x0 y0 : Int) (x1 y1 : Int), x0 = y0 → x1 = y1 → ([(h0, .inr (1, [.int (iZ x0), .int (iZ x1)]))] : va_W) = [(h0, .inr (1, [.int (iZ y0), .int (iZ y1)]))] := by intros; subst_vars; rfl
      have eW := eW (wr + 1) (if lf = 0 then wr else wr + 1) lf (if 0 < lf then lf - 1 else lf) (by omega) (by omega)
      have hP : va_P (dC, dI) vwCl [(h0, .inr (1, [.int (iZ (if lf = 0 then wr else wr + 1)), .int (iZ (if 0 < lf then lf - 1 else lf))]))] H := eW ▸ hP
      have hD : va_D A [(h0, .inr (1, [.int (iZ (if lf = 0 then wr else wr + 1)), .int (iZ (if 0 < lf then lf - 1 else lf))]))] := eW ▸ hD
      exact W.zret (v := (iZ 1)) hx hb hr rfl (fun t ht hW => ⟨⟨_, (), rfl, (congrArg iZ (by omega)), by rw [ht]; exact hP, va_K.moved hW.alike hK, hAe ▸ hD⟩, hAe ▸ hS.F ht⟩) (hAe ▸ hS.2.2) d_Di_writeBlock_38
    · refine lv_aload_n hx hb d_Di_writeBlock_17 rfl (lv_at hl 0 rfl) ?_
      refine lv_dup hx hb d_Di_writeBlock_18 rfl ?_
      refine va_get (D := (dC, dI)) (ci := 1) (v := .int (iZ lf)) (C := "LogDesk$Disk") (T := F_Di) (N := 2) hx hb htg hin_Di hown hK hP 0 rfl rfl 1 (by decide) (htg _ k_84) (fun _ h9 => h9) rfl d_Di_writeBlock_19 ?_
      refine lv_iconst (v := iZ 1) hx hb d_Di_writeBlock_22 rfl ?_
      refine zz_isub hx hb d_Di_writeBlock_23 ?_
      refine va_put (D := (dC, dI)) (ci := 1) (v := .int (iZ (lf - 1))) (ty := t_Di 1) (C := "LogDesk$Disk") (T := F_Di) (N := 2) hx hb htg hin_Di t_Di t_Di_ok n_Di hown hK hP hD hS 0 rfl rfl 1 (by decide) (htg _ k_84) (fun _ h9 => h9) rfl (by decide +kernel) rfl rfl (Nat.le_of_ble_eq_true rfl) d_Di_writeBlock_24 (fun H locs hP hD hS => ?_)
      have hP : va_P (dC, dI) vwCl [(h0, .inr (1, [.int (iZ wr), .int (iZ (lf - 1))]))] H := hP
      have hD : va_D A [(h0, .inr (1, [.int (iZ wr), .int (iZ (lf - 1))]))] := hD
      refine lv_aload_n hx hb d_Di_writeBlock_27 rfl (lv_at hl 0 rfl) ?_
      refine lv_dup hx hb d_Di_writeBlock_28 rfl ?_
      refine va_get (D := (dC, dI)) (ci := 1) (v := .int (iZ wr)) (C := "LogDesk$Disk") (T := F_Di) (N := 2) hx hb htg hin_Di hown hK hP 0 rfl rfl 0 (by decide) (htg _ k_83) (fun _ h9 => h9) rfl d_Di_writeBlock_29 ?_
      refine lv_iconst (v := iZ 1) hx hb d_Di_writeBlock_32 rfl ?_
      refine zz_iadd hx hb d_Di_writeBlock_33 ?_
      refine va_put (D := (dC, dI)) (ci := 1) (v := .int (iZ (wr + 1))) (ty := t_Di 0) (C := "LogDesk$Disk") (T := F_Di) (N := 2) hx hb htg hin_Di t_Di t_Di_ok n_Di hown hK hP hD hS 0 rfl rfl 0 (by decide) (htg _ k_83) (fun _ h9 => h9) rfl (by decide +kernel) rfl rfl (Nat.le_of_ble_eq_true rfl) d_Di_writeBlock_34 (fun H locs hP hD hS => ?_)
      have hP : va_P (dC, dI) vwCl [(h0, .inr (1, [.int (iZ (wr + 1)), .int (iZ (lf - 1))]))] H := hP
      have hD : va_D A [(h0, .inr (1, [.int (iZ (wr + 1)), .int (iZ (lf - 1))]))] := hD
      refine lv_iconst (v := iZ 1) hx hb d_Di_writeBlock_37 rfl ?_
      have eW : ∀ (x0 y0 : Int) (x1 y1 : Int), x0 = y0 → x1 = y1 → ([(h0, .inr (1, [.int (iZ x0), .int (iZ x1)]))] : va_W) = [(h0, .inr (1, [.int (iZ y0), .int (iZ y1)]))] := by intros; subst_vars; rfl
      have eW := eW (wr + 1) (if lf = 0 then wr else wr + 1) (lf - 1) (if 0 < lf then lf - 1 else lf) (by omega) (by omega)
      have hP : va_P (dC, dI) vwCl [(h0, .inr (1, [.int (iZ (if lf = 0 then wr else wr + 1)), .int (iZ (if 0 < lf then lf - 1 else lf))]))] H := eW ▸ hP
      have hD : va_D A [(h0, .inr (1, [.int (iZ (if lf = 0 then wr else wr + 1)), .int (iZ (if 0 < lf then lf - 1 else lf))]))] := eW ▸ hD
      exact W.zret (v := (iZ 1)) hx hb hr rfl (fun t ht hW => ⟨⟨_, (), rfl, (congrArg iZ (by omega)), by rw [ht]; exact hP, va_K.moved hW.alike hK, hAe ▸ hD⟩, hAe ▸ hS.F ht⟩) (hAe ▸ hS.2.2) d_Di_writeBlock_38
  · refine lv_iconst (v := iZ 0) hx hb d_Di_writeBlock_7 rfl ?_
    have eW : ∀ (x0 y0 : Int) (x1 y1 : Int), x0 = y0 → x1 = y1 → ([(h0, .inr (1, [.int (iZ x0), .int (iZ x1)]))] : va_W) = [(h0, .inr (1, [.int (iZ y0), .int (iZ y1)]))] := by intros; subst_vars; rfl
    have eW := eW wr (if lf = 0 then wr else wr + 1) lf (if 0 < lf then lf - 1 else lf) (by omega) (by omega)
    have hP : va_P (dC, dI) vwCl [(h0, .inr (1, [.int (iZ (if lf = 0 then wr else wr + 1)), .int (iZ (if 0 < lf then lf - 1 else lf))]))] s.heap := eW ▸ hP
    have hD : va_D A [(h0, .inr (1, [.int (iZ (if lf = 0 then wr else wr + 1)), .int (iZ (if 0 < lf then lf - 1 else lf))]))] := eW ▸ hD
    exact W.zret (v := (iZ 0)) hx hb hr rfl (fun t ht hW => ⟨⟨_, (), rfl, (congrArg iZ (by omega)), by rw [ht]; exact hP, va_K.moved hW.alike hK, hAe ▸ hD⟩, hAe ▸ hS.F ht⟩) (hAe ▸ hS.2.2) d_Di_writeBlock_8
set_option maxHeartbeats 4000000 in
set_option maxRecDepth 100000 in
theorem c_Ha_count (l : Launch) (dC : Nat → ClassId) (dI : Nat → Nat → Nat) (cB : ClassId) (cI : ClassId) (cJ : ClassId) (cZ : ClassId) (cQ : ClassId) (h0 h1 : Nat) (sz : Nat) (cnt : Int) (u : Nat → Int) : Met l y_Ha_count ((Cond.code y_Ha_count prog_4_method_2_code 1 (some .int)) :: gw) ({ frames := 0, cells := 0, slots := 0, locals := 0 } : Room) (zPc (dC, dI) [(cB, .byte), (cI, .int), (cJ, .long), (cZ, .boolean), (cQ, .object "LogDesk$Block")] [.ref h0] [(h0, .inr (2, [.ref h1, .int (iZ cnt)])), (h1, .inl (cB, 600, .inl (fun j => iZ (Int.bmod (u j) 256))))] sz) (va_Qi (fun (r : Int32) (_ : Unit) => r = iZ cnt) (zB (dC, dI) [(cB, .byte), (cI, .int), (cJ, .long), (cZ, .boolean), (cQ, .object "LogDesk$Block")] (va_A [(h0, .inr (2, [.ref h1, .int (iZ cnt)])), (h1, .inl (cB, 600, .inl (fun j => iZ (Int.bmod (u j) 256))))] sz) [(h0, .inr (2, [.ref h1, .int (iZ cnt)])), (h1, .inl (cB, 600, .inl (fun j => iZ (Int.bmod (u j) 256))))]) (va_A [(h0, .inr (2, [.ref h1, .int (iZ cnt)])), (h1, .inl (cB, 600, .inl (fun j => iZ (Int.bmod (u j) 256))))] sz)) 0 0 (va_A [(h0, .inr (2, [.ref h1, .int (iZ cnt)])), (h1, .inl (cB, 600, .inl (fun j => iZ (Int.bmod (u j) 256))))] sz) := by
  refine Met.ofW (cc := prog_4_method_2_code) (maxL := 1) (ret := (some .int)) (by decide) rfl ?_
  intro p e s m args below meth c s₁ B hml hv
  obtain ⟨rfl, hsz, hP, hK, hD0, hZ⟩ := hv
  have hx := B.exec
  have hb := B.bytes
  have hr := B.returns
  have hts := atoms_spec (ws := (Cond.code y_Ha_count prog_4_method_2_code 1 (some .int)) :: gw) B.pre
  have htg : ∀ w ∈ gw, w.before _ s = true := fun w h => hts w (List.mem_cons_of_mem _ h)
  have hown : s.vm.findClass "LogDesk$Hand" = some m.cls := findClass_of_methodNamed B.named
  have hlocks := B.notSynchronized
  subst hsz
  have hD := hD0.self (sz := s.heap.size)
  generalize hAe : va_A [(h0, .inr (2, [.ref h1, .int (iZ cnt)])), (h1, .inl (cB, 600, .inl (fun j => iZ (Int.bmod (u j) 256))))] s.heap.size = A at hD ⊢
  have hRc : (headSpec ((Cond.code y_Ha_count prog_4_method_2_code 1 (some .int)) :: gw) ({ frames := 0, cells := 0, slots := 0, locals := 0 } : Room)).room.cells = 0 := rfl
  have hRs : (headSpec ((Cond.code y_Ha_count prog_4_method_2_code 1 (some .int)) :: gw) ({ frames := 0, cells := 0, slots := 0, locals := 0 } : Room)).room.slots = 0 := rfl
  have hA : ∀ q : Nat, s.heap.size ≤ q → A q := fun q h => by rw [← hAe]; exact Or.inr h
  have hS : va_S A s.heap s.heap [] := va_S.rf
  have hP : va_P (dC, dI) vwCl [(h0, .inr (2, [.ref h1, .int (iZ cnt)])), (h1, .inl (cB, 600, .inl (fun j => iZ (Int.bmod (u j) 256))))] s.heap := hP
  have hl := lv_entry ([.ref h0]) (n := 1) (Nat.le_of_ble_eq_true rfl)
  rw [lg_entry_eq]
  generalize (lg_sl ([.ref h0]) ++ List.replicate (1 - (lg_sl ([.ref h0])).length) Slot.unset).toArray = ls at hl ⊢
  have hl : lv_has ls 1 [(0, .ref h0)] := hl
  refine lv_aload_n hx hb d_Ha_count_0 rfl (lv_at hl 0 rfl) ?_
  refine va_get (D := (dC, dI)) (ci := 2) (v := .int (iZ cnt)) (C := "LogDesk$Hand") (T := F_Ha) (N := 2) hx hb htg hin_Ha hown hK hP 0 rfl rfl 1 (by decide) (htg _ k_45) (fun _ h9 => h9) rfl d_Ha_count_1 ?_
  exact W.iret (v := (iZ cnt)) hx hb hr (fun t ht hW => ⟨⟨_, (), rfl, rfl, by rw [ht]; exact hP, va_K.moved hW.alike hK, hAe ▸ hD⟩, hAe ▸ hS.F ht⟩) (hAe ▸ hS.2.2) d_Ha_count_4
set_option maxHeartbeats 4000000 in
set_option maxRecDepth 100000 in
theorem c_Ha_hasRoomFor (l : Launch) (dC : Nat → ClassId) (dI : Nat → Nat → Nat) (cB : ClassId) (cI : ClassId) (cJ : ClassId) (cZ : ClassId) (cQ : ClassId) (h0 h1 : Nat) (sz : Nat) (cnt : Int) (u : Nat → Int) (n : Int) (hc : 0 ≤ cnt ∧ cnt ≤ 600) (hn : iB n) : Met l y_Ha_hasRoomFor ((Cond.code y_Ha_hasRoomFor prog_4_method_3_code 2 (some .boolean)) :: gw) ({ frames := 0, cells := 0, slots := 0, locals := 0 } : Room) (zPc (dC, dI) [(cB, .byte), (cI, .int), (cJ, .long), (cZ, .boolean), (cQ, .object "LogDesk$Block")] [.ref h0, .int (iZ n)] [(h0, .inr (2, [.ref h1, .int (iZ cnt)])), (h1, .inl (cB, 600, .inl (fun j => iZ (Int.bmod (u j) 256))))] sz) (va_Qi (fun (r : Int32) (_ : Unit) => r = iZ (if n ≤ 600 - cnt then 1 else 0)) (zB (dC, dI) [(cB, .byte), (cI, .int), (cJ, .long), (cZ, .boolean), (cQ, .object "LogDesk$Block")] (va_A [(h0, .inr (2, [.ref h1, .int (iZ cnt)])), (h1, .inl (cB, 600, .inl (fun j => iZ (Int.bmod (u j) 256))))] sz) [(h0, .inr (2, [.ref h1, .int (iZ cnt)])), (h1, .inl (cB, 600, .inl (fun j => iZ (Int.bmod (u j) 256))))]) (va_A [(h0, .inr (2, [.ref h1, .int (iZ cnt)])), (h1, .inl (cB, 600, .inl (fun j => iZ (Int.bmod (u j) 256))))] sz)) 0 0 (va_A [(h0, .inr (2, [.ref h1, .int (iZ cnt)])), (h1, .inl (cB, 600, .inl (fun j => iZ (Int.bmod (u j) 256))))] sz) := by
  refine Met.ofW (cc := prog_4_method_3_code) (maxL := 2) (ret := (some .boolean)) (by decide) rfl ?_
  intro p e s m args below meth c s₁ B hml hv
  obtain ⟨rfl, hsz, hP, hK, hD0, hZ⟩ := hv
  have hx := B.exec
  have hb := B.bytes
  have hr := B.returns
  have hts := atoms_spec (ws := (Cond.code y_Ha_hasRoomFor prog_4_method_3_code 2 (some .boolean)) :: gw) B.pre
  have htg : ∀ w ∈ gw, w.before _ s = true := fun w h => hts w (List.mem_cons_of_mem _ h)
  have hown : s.vm.findClass "LogDesk$Hand" = some m.cls := findClass_of_methodNamed B.named
  have hlocks := B.notSynchronized
  subst hsz
  have hD := hD0.self (sz := s.heap.size)
  generalize hAe : va_A [(h0, .inr (2, [.ref h1, .int (iZ cnt)])), (h1, .inl (cB, 600, .inl (fun j => iZ (Int.bmod (u j) 256))))] s.heap.size = A at hD ⊢
  have hRc : (headSpec ((Cond.code y_Ha_hasRoomFor prog_4_method_3_code 2 (some .boolean)) :: gw) ({ frames := 0, cells := 0, slots := 0, locals := 0 } : Room)).room.cells = 0 := rfl
  have hRs : (headSpec ((Cond.code y_Ha_hasRoomFor prog_4_method_3_code 2 (some .boolean)) :: gw) ({ frames := 0, cells := 0, slots := 0, locals := 0 } : Room)).room.slots = 0 := rfl
  have hA : ∀ q : Nat, s.heap.size ≤ q → A q := fun q h => by rw [← hAe]; exact Or.inr h
  have hS : va_S A s.heap s.heap [] := va_S.rf
  have hP : va_P (dC, dI) vwCl [(h0, .inr (2, [.ref h1, .int (iZ cnt)])), (h1, .inl (cB, 600, .inl (fun j => iZ (Int.bmod (u j) 256))))] s.heap := hP
  have hl := lv_entry ([.ref h0, .int (iZ n)]) (n := 2) (Nat.le_of_ble_eq_true rfl)
  rw [lg_entry_eq]
  generalize (lg_sl ([.ref h0, .int (iZ n)]) ++ List.replicate (2 - (lg_sl ([.ref h0, .int (iZ n)])).length) Slot.unset).toArray = ls at hl ⊢
  have hl : lv_has ls 2 [(0, .ref h0), (1, .int (iZ n))] := hl
  have hn1 := hn.1
  have hn2 := hn.2
  refine lv_iload_n hx hb d_Ha_hasRoomFor_0 rfl (lv_at hl 1 rfl) ?_
  refine lv_sipush (v := iZ 600) hx hb d_Ha_hasRoomFor_1 (by decide) ?_
  refine lv_aload_n hx hb d_Ha_hasRoomFor_4 rfl (lv_at hl 0 rfl) ?_
  refine va_get (D := (dC, dI)) (ci := 2) (v := .int (iZ cnt)) (C := "LogDesk$Hand") (T := F_Ha) (N := 2) hx hb htg hin_Ha hown hK hP 0 rfl rfl 1 (by decide) (htg _ k_45) (fun _ h9 => h9) rfl d_Ha_hasRoomFor_5 ?_
  refine zz_isub hx hb d_Ha_hasRoomFor_8 ?_
  refine zz_icmp_gt (tgt := 16) hx hb d_Ha_hasRoomFor_9 (by decide) ⟨by omega, by omega⟩ ⟨by omega, by omega⟩ (fun c_1 => ?_) (fun c_1 => ?_)
  · refine lv_iconst (v := iZ 0) hx hb d_Ha_hasRoomFor_16 rfl ?_
    exact W.zret (v := (iZ 0)) hx hb hr rfl (fun t ht hW => ⟨⟨_, (), rfl, (congrArg iZ (by omega)), by rw [ht]; exact hP, va_K.moved hW.alike hK, hAe ▸ hD⟩, hAe ▸ hS.F ht⟩) (hAe ▸ hS.2.2) d_Ha_hasRoomFor_17
  · refine lv_iconst (v := iZ 1) hx hb d_Ha_hasRoomFor_12 rfl ?_
    refine lv_goto (tgt := 17) hx hb d_Ha_hasRoomFor_13 (by decide) ?_
    exact W.zret (v := (iZ 1)) hx hb hr rfl (fun t ht hW => ⟨⟨_, (), rfl, (congrArg iZ (by omega)), by rw [ht]; exact hP, va_K.moved hW.alike hK, hAe ▸ hD⟩, hAe ▸ hS.F ht⟩) (hAe ▸ hS.2.2) d_Ha_hasRoomFor_17
set_option maxHeartbeats 4000000 in
set_option maxRecDepth 100000 in
theorem c_Ha_add (l : Launch) (dC : Nat → ClassId) (dI : Nat → Nat → Nat) (cB : ClassId) (cI : ClassId) (cJ : ClassId) (cZ : ClassId) (cQ : ClassId) (h0 h1 : Nat) (sz : Nat) (cnt : Int) (u : Nat → Int) (v : Int) (hc : 0 ≤ cnt ∧ cnt < 600) : Met l y_Ha_add ((Cond.code y_Ha_add prog_4_method_4_code 2 none) :: gw) ({ frames := 0, cells := 0, slots := 0, locals := 0 } : Room) (zPc (dC, dI) [(cB, .byte), (cI, .int), (cJ, .long), (cZ, .boolean), (cQ, .object "LogDesk$Block")] [.ref h0, .int (iZ v)] [(h0, .inr (2, [.ref h1, .int (iZ cnt)])), (h1, .inl (cB, 600, .inl (fun j => iZ (Int.bmod (u j) 256))))] sz) (va_Qv (fun (_ : Unit) => True) (zB (dC, dI) [(cB, .byte), (cI, .int), (cJ, .long), (cZ, .boolean), (cQ, .object "LogDesk$Block")] (va_A [(h0, .inr (2, [.ref h1, .int (iZ cnt)])), (h1, .inl (cB, 600, .inl (fun j => iZ (Int.bmod (u j) 256))))] sz) [(h0, .inr (2, [.ref h1, .int (iZ (cnt + 1))])), (h1, .inl (cB, 600, .inl (fun j => iZ (Int.bmod ((va_up u cnt.toNat (Int.bmod v 256)) j) 256))))]) (va_A [(h0, .inr (2, [.ref h1, .int (iZ cnt)])), (h1, .inl (cB, 600, .inl (fun j => iZ (Int.bmod (u j) 256))))] sz)) 0 0 (va_A [(h0, .inr (2, [.ref h1, .int (iZ cnt)])), (h1, .inl (cB, 600, .inl (fun j => iZ (Int.bmod (u j) 256))))] sz) := by
  refine Met.ofW (cc := prog_4_method_4_code) (maxL := 2) (ret := none) (by decide) rfl ?_
  intro p e s m args below meth c s₁ B hml hv
  obtain ⟨rfl, hsz, hP, hK, hD0, hZ⟩ := hv
  have hx := B.exec
  have hb := B.bytes
  have hr := B.returns
  have hts := atoms_spec (ws := (Cond.code y_Ha_add prog_4_method_4_code 2 none) :: gw) B.pre
  have htg : ∀ w ∈ gw, w.before _ s = true := fun w h => hts w (List.mem_cons_of_mem _ h)
  have hown : s.vm.findClass "LogDesk$Hand" = some m.cls := findClass_of_methodNamed B.named
  have hlocks := B.notSynchronized
  subst hsz
  have hD := hD0.self (sz := s.heap.size)
  generalize hAe : va_A [(h0, .inr (2, [.ref h1, .int (iZ cnt)])), (h1, .inl (cB, 600, .inl (fun j => iZ (Int.bmod (u j) 256))))] s.heap.size = A at hD ⊢
  have hRc : (headSpec ((Cond.code y_Ha_add prog_4_method_4_code 2 none) :: gw) ({ frames := 0, cells := 0, slots := 0, locals := 0 } : Room)).room.cells = 0 := rfl
  have hRs : (headSpec ((Cond.code y_Ha_add prog_4_method_4_code 2 none) :: gw) ({ frames := 0, cells := 0, slots := 0, locals := 0 } : Room)).room.slots = 0 := rfl
  have hA : ∀ q : Nat, s.heap.size ≤ q → A q := fun q h => by rw [← hAe]; exact Or.inr h
  have hS : va_S A s.heap s.heap [] := va_S.rf
  have hP : va_P (dC, dI) vwCl [(h0, .inr (2, [.ref h1, .int (iZ cnt)])), (h1, .inl (cB, 600, .inl (fun j => iZ (Int.bmod (u j) 256))))] s.heap := hP
  have hl := lv_entry ([.ref h0, .int (iZ v)]) (n := 2) (Nat.le_of_ble_eq_true rfl)
  rw [lg_entry_eq]
  generalize (lg_sl ([.ref h0, .int (iZ v)]) ++ List.replicate (2 - (lg_sl ([.ref h0, .int (iZ v)])).length) Slot.unset).toArray = ls at hl ⊢
  have hl : lv_has ls 2 [(0, .ref h0), (1, .int (iZ v))] := hl
  refine lv_aload_n hx hb d_Ha_add_0 rfl (lv_at hl 0 rfl) ?_
  refine va_get (D := (dC, dI)) (ci := 2) (v := .int (iZ cnt)) (C := "LogDesk$Hand") (T := F_Ha) (N := 2) hx hb htg hin_Ha hown hK hP 0 rfl rfl 1 (by decide) (htg _ k_45) (fun _ h9 => h9) rfl d_Ha_add_1 ?_
  refine zz_if_lt (tgt := 38) hx hb d_Ha_add_4 (by decide) ⟨by omega, by omega⟩ (fun c_1 => ?_) (fun c_1 => ?_)
  · exfalso; omega
  · refine lv_aload_n hx hb d_Ha_add_7 rfl (lv_at hl 0 rfl) ?_
    refine va_get (D := (dC, dI)) (ci := 2) (v := .int (iZ cnt)) (C := "LogDesk$Hand") (T := F_Ha) (N := 2) hx hb htg hin_Ha hown hK hP 0 rfl rfl 1 (by decide) (htg _ k_45) (fun _ h9 => h9) rfl d_Ha_add_8 ?_
    refine lv_sipush (v := iZ 600) hx hb d_Ha_add_11 (by decide) ?_
    refine zz_icmp_ge (tgt := 38) hx hb d_Ha_add_14 (by decide) ⟨by omega, by omega⟩ ⟨by omega, by omega⟩ (fun c_2 => ?_) (fun c_2 => ?_)
    · exfalso; omega
    · refine lv_aload_n hx hb d_Ha_add_17 rfl (lv_at hl 0 rfl) ?_
      refine va_get (D := (dC, dI)) (ci := 2) (v := .ref h1) (C := "LogDesk$Hand") (T := F_Ha) (N := 2) hx hb htg hin_Ha hown hK hP 0 rfl rfl 0 (by decide) (htg _ k_44) (fun _ h9 => h9) rfl d_Ha_add_18 ?_
      refine lv_aload_n hx hb d_Ha_add_21 rfl (lv_at hl 0 rfl) ?_
      refine va_get (D := (dC, dI)) (ci := 2) (v := .int (iZ cnt)) (C := "LogDesk$Hand") (T := F_Ha) (N := 2) hx hb htg hin_Ha hown hK hP 0 rfl rfl 1 (by decide) (htg _ k_45) (fun _ h9 => h9) rfl d_Ha_add_22 ?_
      refine lv_iload_n hx hb d_Ha_add_25 rfl (lv_at hl 1 rfl) ?_
      refine zz_i2b hx hb d_Ha_add_26 ?_
      refine zz_bast hx hb hK hP hD hS 1 0 rfl rfl (by omega) (by omega) (by omega) d_Ha_add_27 (fun H locs hP hD hS => ?_)
      have hP : va_P (dC, dI) vwCl [(h0, .inr (2, [.ref h1, .int (iZ cnt)])), (h1, .inl (cB, 600, .inl (fun j => iZ (Int.bmod ((va_up u (cnt).toNat (Int.bmod v 256)) j) 256))))] H := hP
      have hD : va_D A [(h0, .inr (2, [.ref h1, .int (iZ cnt)])), (h1, .inl (cB, 600, .inl (fun j => iZ (Int.bmod ((va_up u (cnt).toNat (Int.bmod v 256)) j) 256))))] := hD
      refine lv_aload_n hx hb d_Ha_add_28 rfl (lv_at hl 0 rfl) ?_
      refine lv_dup hx hb d_Ha_add_29 rfl ?_
      refine va_get (D := (dC, dI)) (ci := 2) (v := .int (iZ cnt)) (C := "LogDesk$Hand") (T := F_Ha) (N := 2) hx hb htg hin_Ha hown hK hP 0 rfl rfl 1 (by decide) (htg _ k_45) (fun _ h9 => h9) rfl d_Ha_add_30 ?_
      refine lv_iconst (v := iZ 1) hx hb d_Ha_add_33 rfl ?_
      refine zz_iadd hx hb d_Ha_add_34 ?_
      refine va_put (D := (dC, dI)) (ci := 2) (v := .int (iZ (cnt + 1))) (ty := t_Ha 1) (C := "LogDesk$Hand") (T := F_Ha) (N := 2) hx hb htg hin_Ha t_Ha t_Ha_ok n_Ha hown hK hP hD hS 0 rfl rfl 1 (by decide) (htg _ k_45) (fun _ h9 => h9) rfl (by decide +kernel) rfl rfl (Nat.le_of_ble_eq_true rfl) d_Ha_add_35 (fun H locs hP hD hS => ?_)
      have hP : va_P (dC, dI) vwCl [(h0, .inr (2, [.ref h1, .int (iZ (cnt + 1))])), (h1, .inl (cB, 600, .inl (fun j => iZ (Int.bmod ((va_up u (cnt).toNat (Int.bmod v 256)) j) 256))))] H := hP
      have hD : va_D A [(h0, .inr (2, [.ref h1, .int (iZ (cnt + 1))])), (h1, .inl (cB, 600, .inl (fun j => iZ (Int.bmod ((va_up u (cnt).toNat (Int.bmod v 256)) j) 256))))] := hD
      have eW : ∀ (x0 y0 : Nat → Int), x0 = y0 → ([(h0, .inr (2, [.ref h1, .int (iZ (cnt + 1))])), (h1, .inl (cB, 600, .inl (fun j => iZ (Int.bmod (x0 j) 256))))] : va_W) = [(h0, .inr (2, [.ref h1, .int (iZ (cnt + 1))])), (h1, .inl (cB, 600, .inl (fun j => iZ (Int.bmod (y0 j) 256))))] := by intros; subst_vars; rfl
      have eW := eW (va_up u (cnt).toNat (Int.bmod v 256)) (va_up u cnt.toNat (Int.bmod v 256)) (by first | rfl | exact (if_pos (by omega)).symm | exact (if_neg (by omega)).symm)
      have hP : va_P (dC, dI) vwCl [(h0, .inr (2, [.ref h1, .int (iZ (cnt + 1))])), (h1, .inl (cB, 600, .inl (fun j => iZ (Int.bmod ((va_up u cnt.toNat (Int.bmod v 256)) j) 256))))] H := eW ▸ hP
      have hD : va_D A [(h0, .inr (2, [.ref h1, .int (iZ (cnt + 1))])), (h1, .inl (cB, 600, .inl (fun j => iZ (Int.bmod ((va_up u cnt.toNat (Int.bmod v 256)) j) 256))))] := eW ▸ hD
      exact W.vret hx hb hr (fun t ht hW => ⟨⟨(), rfl, trivial, by rw [ht]; exact hP, va_K.moved hW.alike hK, hAe ▸ hD⟩, hAe ▸ hS.F ht⟩) (hAe ▸ hS.2.2) d_Ha_add_38
set_option maxHeartbeats 4000000 in
set_option maxRecDepth 100000 in
theorem c_Ha_get (l : Launch) (dC : Nat → ClassId) (dI : Nat → Nat → Nat) (cB : ClassId) (cI : ClassId) (cJ : ClassId) (cZ : ClassId) (cQ : ClassId) (h0 h1 : Nat) (sz : Nat) (cnt : Int) (u : Nat → Int) (i : Int) (hc : 0 ≤ cnt ∧ cnt ≤ 600) (hi : 0 ≤ i ∧ i < cnt) : Met l y_Ha_get ((Cond.code y_Ha_get prog_4_method_5_code 2 (some .int)) :: gw) ({ frames := 0, cells := 0, slots := 0, locals := 0 } : Room) (zPc (dC, dI) [(cB, .byte), (cI, .int), (cJ, .long), (cZ, .boolean), (cQ, .object "LogDesk$Block")] [.ref h0, .int (iZ i)] [(h0, .inr (2, [.ref h1, .int (iZ cnt)])), (h1, .inl (cB, 600, .inl (fun j => iZ (Int.bmod (u j) 256))))] sz) (va_Qi (fun (r : Int32) (_ : Unit) => r = iZ (u i.toNat % 256)) (zB (dC, dI) [(cB, .byte), (cI, .int), (cJ, .long), (cZ, .boolean), (cQ, .object "LogDesk$Block")] (va_A [(h0, .inr (2, [.ref h1, .int (iZ cnt)])), (h1, .inl (cB, 600, .inl (fun j => iZ (Int.bmod (u j) 256))))] sz) [(h0, .inr (2, [.ref h1, .int (iZ cnt)])), (h1, .inl (cB, 600, .inl (fun j => iZ (Int.bmod (u j) 256))))]) (va_A [(h0, .inr (2, [.ref h1, .int (iZ cnt)])), (h1, .inl (cB, 600, .inl (fun j => iZ (Int.bmod (u j) 256))))] sz)) 0 0 (va_A [(h0, .inr (2, [.ref h1, .int (iZ cnt)])), (h1, .inl (cB, 600, .inl (fun j => iZ (Int.bmod (u j) 256))))] sz) := by
  refine Met.ofW (cc := prog_4_method_5_code) (maxL := 2) (ret := (some .int)) (by decide) rfl ?_
  intro p e s m args below meth c s₁ B hml hv
  obtain ⟨rfl, hsz, hP, hK, hD0, hZ⟩ := hv
  have hx := B.exec
  have hb := B.bytes
  have hr := B.returns
  have hts := atoms_spec (ws := (Cond.code y_Ha_get prog_4_method_5_code 2 (some .int)) :: gw) B.pre
  have htg : ∀ w ∈ gw, w.before _ s = true := fun w h => hts w (List.mem_cons_of_mem _ h)
  have hown : s.vm.findClass "LogDesk$Hand" = some m.cls := findClass_of_methodNamed B.named
  have hlocks := B.notSynchronized
  subst hsz
  have hD := hD0.self (sz := s.heap.size)
  generalize hAe : va_A [(h0, .inr (2, [.ref h1, .int (iZ cnt)])), (h1, .inl (cB, 600, .inl (fun j => iZ (Int.bmod (u j) 256))))] s.heap.size = A at hD ⊢
  have hRc : (headSpec ((Cond.code y_Ha_get prog_4_method_5_code 2 (some .int)) :: gw) ({ frames := 0, cells := 0, slots := 0, locals := 0 } : Room)).room.cells = 0 := rfl
  have hRs : (headSpec ((Cond.code y_Ha_get prog_4_method_5_code 2 (some .int)) :: gw) ({ frames := 0, cells := 0, slots := 0, locals := 0 } : Room)).room.slots = 0 := rfl
  have hA : ∀ q : Nat, s.heap.size ≤ q → A q := fun q h => by rw [← hAe]; exact Or.inr h
  have hS : va_S A s.heap s.heap [] := va_S.rf
  have hP : va_P (dC, dI) vwCl [(h0, .inr (2, [.ref h1, .int (iZ cnt)])), (h1, .inl (cB, 600, .inl (fun j => iZ (Int.bmod (u j) 256))))] s.heap := hP
  have hl := lv_entry ([.ref h0, .int (iZ i)]) (n := 2) (Nat.le_of_ble_eq_true rfl)
  rw [lg_entry_eq]
  generalize (lg_sl ([.ref h0, .int (iZ i)]) ++ List.replicate (2 - (lg_sl ([.ref h0, .int (iZ i)])).length) Slot.unset).toArray = ls at hl ⊢
  have hl : lv_has ls 2 [(0, .ref h0), (1, .int (iZ i))] := hl
  refine lv_iload_n hx hb d_Ha_get_0 rfl (lv_at hl 1 rfl) ?_
  refine zz_if_lt (tgt := 32) hx hb d_Ha_get_1 (by decide) ⟨by omega, by omega⟩ (fun c_1 => ?_) (fun c_1 => ?_)
  · refine lv_iconst (v := iZ 0) hx hb d_Ha_get_32 rfl ?_
    exact W.iret (v := (iZ 0)) hx hb hr (fun t ht hW => ⟨⟨_, (), rfl, (congrArg iZ (by omega)), by rw [ht]; exact hP, va_K.moved hW.alike hK, hAe ▸ hD⟩, hAe ▸ hS.F ht⟩) (hAe ▸ hS.2.2) d_Ha_get_33
  · refine lv_iload_n hx hb d_Ha_get_4 rfl (lv_at hl 1 rfl) ?_
    refine lv_aload_n hx hb d_Ha_get_5 rfl (lv_at hl 0 rfl) ?_
    refine va_get (D := (dC, dI)) (ci := 2) (v := .int (iZ cnt)) (C := "LogDesk$Hand") (T := F_Ha) (N := 2) hx hb htg hin_Ha hown hK hP 0 rfl rfl 1 (by decide) (htg _ k_45) (fun _ h9 => h9) rfl d_Ha_get_6 ?_
    refine zz_icmp_ge (tgt := 32) hx hb d_Ha_get_9 (by decide) ⟨by omega, by omega⟩ ⟨by omega, by omega⟩ (fun c_2 => ?_) (fun c_2 => ?_)
    · refine lv_iconst (v := iZ 0) hx hb d_Ha_get_32 rfl ?_
      exact W.iret (v := (iZ 0)) hx hb hr (fun t ht hW => ⟨⟨_, (), rfl, (congrArg iZ (by omega)), by rw [ht]; exact hP, va_K.moved hW.alike hK, hAe ▸ hD⟩, hAe ▸ hS.F ht⟩) (hAe ▸ hS.2.2) d_Ha_get_33
    · refine lv_iload_n hx hb d_Ha_get_12 rfl (lv_at hl 1 rfl) ?_
      refine lv_sipush (v := iZ 600) hx hb d_Ha_get_13 (by decide) ?_
      refine zz_icmp_ge (tgt := 32) hx hb d_Ha_get_16 (by decide) ⟨by omega, by omega⟩ ⟨by omega, by omega⟩ (fun c_3 => ?_) (fun c_3 => ?_)
      · refine lv_iconst (v := iZ 0) hx hb d_Ha_get_32 rfl ?_
        exact W.iret (v := (iZ 0)) hx hb hr (fun t ht hW => ⟨⟨_, (), rfl, (congrArg iZ (by omega)), by rw [ht]; exact hP, va_K.moved hW.alike hK, hAe ▸ hD⟩, hAe ▸ hS.F ht⟩) (hAe ▸ hS.2.2) d_Ha_get_33
      · refine lv_aload_n hx hb d_Ha_get_19 rfl (lv_at hl 0 rfl) ?_
        refine va_get (D := (dC, dI)) (ci := 2) (v := .ref h1) (C := "LogDesk$Hand") (T := F_Ha) (N := 2) hx hb htg hin_Ha hown hK hP 0 rfl rfl 0 (by decide) (htg _ k_44) (fun _ h9 => h9) rfl d_Ha_get_20 ?_
        refine lv_iload_n hx hb d_Ha_get_23 rfl (lv_at hl 1 rfl) ?_
        refine zz_bald hx hb hK hP 1 0 rfl rfl (by omega) (by omega) (by omega) d_Ha_get_24 ?_
        refine lv_sipush (v := iZ 255) hx hb d_Ha_get_25 (by decide) ?_
        refine zz_and255b hx hb d_Ha_get_28 ?_
        refine lv_goto (tgt := 33) hx hb d_Ha_get_29 (by decide) ?_
        exact W.iret (v := (iZ ((u (i).toNat) % 256))) hx hb hr (fun t ht hW => ⟨⟨_, (), rfl, (congrArg iZ (by omega)), by rw [ht]; exact hP, va_K.moved hW.alike hK, hAe ▸ hD⟩, hAe ▸ hS.F ht⟩) (hAe ▸ hS.2.2) d_Ha_get_33
set_option maxHeartbeats 4000000 in
set_option maxRecDepth 100000 in
theorem c_Ha_clear (l : Launch) (dC : Nat → ClassId) (dI : Nat → Nat → Nat) (cB : ClassId) (cI : ClassId) (cJ : ClassId) (cZ : ClassId) (cQ : ClassId) (h0 h1 : Nat) (sz : Nat) (cnt : Int) (u : Nat → Int) : Met l y_Ha_clear ((Cond.code y_Ha_clear prog_4_method_6_code 1 none) :: gw) ({ frames := 0, cells := 0, slots := 0, locals := 0 } : Room) (zPc (dC, dI) [(cB, .byte), (cI, .int), (cJ, .long), (cZ, .boolean), (cQ, .object "LogDesk$Block")] [.ref h0] [(h0, .inr (2, [.ref h1, .int (iZ cnt)])), (h1, .inl (cB, 600, .inl (fun j => iZ (Int.bmod (u j) 256))))] sz) (va_Qv (fun (_ : Unit) => True) (zB (dC, dI) [(cB, .byte), (cI, .int), (cJ, .long), (cZ, .boolean), (cQ, .object "LogDesk$Block")] (va_A [(h0, .inr (2, [.ref h1, .int (iZ cnt)])), (h1, .inl (cB, 600, .inl (fun j => iZ (Int.bmod (u j) 256))))] sz) [(h0, .inr (2, [.ref h1, .int (iZ 0)])), (h1, .inl (cB, 600, .inl (fun j => iZ (Int.bmod (u j) 256))))]) (va_A [(h0, .inr (2, [.ref h1, .int (iZ cnt)])), (h1, .inl (cB, 600, .inl (fun j => iZ (Int.bmod (u j) 256))))] sz)) 0 0 (va_A [(h0, .inr (2, [.ref h1, .int (iZ cnt)])), (h1, .inl (cB, 600, .inl (fun j => iZ (Int.bmod (u j) 256))))] sz) := by
  refine Met.ofW (cc := prog_4_method_6_code) (maxL := 1) (ret := none) (by decide) rfl ?_
  intro p e s m args below meth c s₁ B hml hv
  obtain ⟨rfl, hsz, hP, hK, hD0, hZ⟩ := hv
  have hx := B.exec
  have hb := B.bytes
  have hr := B.returns
  have hts := atoms_spec (ws := (Cond.code y_Ha_clear prog_4_method_6_code 1 none) :: gw) B.pre
  have htg : ∀ w ∈ gw, w.before _ s = true := fun w h => hts w (List.mem_cons_of_mem _ h)
  have hown : s.vm.findClass "LogDesk$Hand" = some m.cls := findClass_of_methodNamed B.named
  have hlocks := B.notSynchronized
  subst hsz
  have hD := hD0.self (sz := s.heap.size)
  generalize hAe : va_A [(h0, .inr (2, [.ref h1, .int (iZ cnt)])), (h1, .inl (cB, 600, .inl (fun j => iZ (Int.bmod (u j) 256))))] s.heap.size = A at hD ⊢
  have hRc : (headSpec ((Cond.code y_Ha_clear prog_4_method_6_code 1 none) :: gw) ({ frames := 0, cells := 0, slots := 0, locals := 0 } : Room)).room.cells = 0 := rfl
  have hRs : (headSpec ((Cond.code y_Ha_clear prog_4_method_6_code 1 none) :: gw) ({ frames := 0, cells := 0, slots := 0, locals := 0 } : Room)).room.slots = 0 := rfl
  have hA : ∀ q : Nat, s.heap.size ≤ q → A q := fun q h => by rw [← hAe]; exact Or.inr h
  have hS : va_S A s.heap s.heap [] := va_S.rf
  have hP : va_P (dC, dI) vwCl [(h0, .inr (2, [.ref h1, .int (iZ cnt)])), (h1, .inl (cB, 600, .inl (fun j => iZ (Int.bmod (u j) 256))))] s.heap := hP
  have hl := lv_entry ([.ref h0]) (n := 1) (Nat.le_of_ble_eq_true rfl)
  rw [lg_entry_eq]
  generalize (lg_sl ([.ref h0]) ++ List.replicate (1 - (lg_sl ([.ref h0])).length) Slot.unset).toArray = ls at hl ⊢
  have hl : lv_has ls 1 [(0, .ref h0)] := hl
  refine lv_aload_n hx hb d_Ha_clear_0 rfl (lv_at hl 0 rfl) ?_
  refine lv_iconst (v := iZ 0) hx hb d_Ha_clear_1 rfl ?_
  refine va_put (D := (dC, dI)) (ci := 2) (v := .int (iZ 0)) (ty := t_Ha 1) (C := "LogDesk$Hand") (T := F_Ha) (N := 2) hx hb htg hin_Ha t_Ha t_Ha_ok n_Ha hown hK hP hD hS 0 rfl rfl 1 (by decide) (htg _ k_45) (fun _ h9 => h9) rfl (by decide +kernel) rfl rfl (Nat.le_of_ble_eq_true rfl) d_Ha_clear_2 (fun H locs hP hD hS => ?_)
  have hP : va_P (dC, dI) vwCl [(h0, .inr (2, [.ref h1, .int (iZ 0)])), (h1, .inl (cB, 600, .inl (fun j => iZ (Int.bmod (u j) 256))))] H := hP
  have hD : va_D A [(h0, .inr (2, [.ref h1, .int (iZ 0)])), (h1, .inl (cB, 600, .inl (fun j => iZ (Int.bmod (u j) 256))))] := hD
  exact W.vret hx hb hr (fun t ht hW => ⟨⟨(), rfl, trivial, by rw [ht]; exact hP, va_K.moved hW.alike hK, hAe ▸ hD⟩, hAe ▸ hS.F ht⟩) (hAe ▸ hS.2.2) d_Ha_clear_5
