set_option maxHeartbeats 4000000 in
set_option maxRecDepth 100000 in
theorem c_Ri_init (l : Launch) (dC : Nat → ClassId) (dI : Nat → Nat → Nat) (cB : ClassId) (cI : ClassId) (cJ : ClassId) (cZ : ClassId) (cQ : ClassId) (h0 : Nat) (sz : Nat) : Met l y_Ri_init ((Cond.code y_Ri_init prog_6_method_1_code 1 none) :: gw) ({ frames := 1, cells := 1, slots := 32, locals := 13 } : Room) (zPc (dC, dI) [(cB, .byte), (cI, .int), (cJ, .long), (cZ, .boolean), (cQ, .object "LogDesk$Block")] [.ref h0] [(h0, .inr (4, [.null]))] sz) (va_Qv (fun (q : Nat) => True) (zBx (dC, dI) [(cB, .byte), (cI, .int), (cJ, .long), (cZ, .boolean), (cQ, .object "LogDesk$Block")] (va_A [(h0, .inr (4, [.null]))] sz) (fun (q : Nat) => [(h0, .inr (4, [.ref q])), (q, .inl (cQ, 32, .inr (.inr (.inr (.inr (fun _ => none))))))])) (va_A [(h0, .inr (4, [.null]))] sz)) 1 32 (va_A [(h0, .inr (4, [.null]))] sz) := by
  refine Met.ofW (cc := prog_6_method_1_code) (maxL := 1) (ret := none) (by decide) rfl ?_
  intro p e s m args below meth c s₁ B hml hv
  obtain ⟨rfl, hsz, hP, hK, hD0, hZ⟩ := hv
  have hx := B.exec
  have hb := B.bytes
  have hr := B.returns
  have hts := atoms_spec (ws := (Cond.code y_Ri_init prog_6_method_1_code 1 none) :: gw) B.pre
  have htg : ∀ w ∈ gw, w.before _ s = true := fun w h => hts w (List.mem_cons_of_mem _ h)
  have hown : s.vm.findClass "LogDesk$Ring" = some m.cls := findClass_of_methodNamed B.named
  have hlocks := B.notSynchronized
  have hin : meth.name = "<init>" := (name_of_methodNamed B.named B.method).1
  subst hsz
  have hD := hD0.self (sz := s.heap.size)
  generalize hAe : va_A [(h0, .inr (4, [.null]))] s.heap.size = A at hD ⊢
  have hRc : (headSpec ((Cond.code y_Ri_init prog_6_method_1_code 1 none) :: gw) ({ frames := 1, cells := 1, slots := 32, locals := 13 } : Room)).room.cells = 1 := rfl
  have hRs : (headSpec ((Cond.code y_Ri_init prog_6_method_1_code 1 none) :: gw) ({ frames := 1, cells := 1, slots := 32, locals := 13 } : Room)).room.slots = 32 := rfl
  have hA : ∀ q : Nat, s.heap.size ≤ q → A q := fun q h => by rw [← hAe]; exact Or.inr h
  have hS : va_S A s.heap s.heap [] := va_S.rf
  have hP : va_P (dC, dI) vwCl [(h0, .inr (4, [.null]))] s.heap := hP
  have hl := lv_entry ([.ref h0]) (n := 1) (Nat.le_of_ble_eq_true rfl)
  rw [lg_entry_eq]
  generalize (lg_sl ([.ref h0]) ++ List.replicate (1 - (lg_sl ([.ref h0])).length) Slot.unset).toArray = ls at hl ⊢
  have hl : lv_has ls 1 [(0, .ref h0)] := hl
  refine lv_aload_n hx hb d_Ri_init_0 rfl (lv_at hl 0 rfl) ?_
  refine W.objInit hx hb hown (htg _ k_31) (htg _ k_24) (htg _ k_25) rfl (by rw [hml]; exact hl.1) rfl d_Ri_init_1 (Nat.le_of_ble_eq_true rfl) (Nat.le_of_ble_eq_true rfl) ?_
  refine W.eq (g2 := F0 m 4 ls []) rfl ?_
  refine lv_aload_n hx hb d_Ri_init_4 rfl (lv_at hl 0 rfl) ?_
  refine lv_bipush (v := iZ 32) hx hb d_Ri_init_5 (by decide) ?_
  refine va_newq hx hb hown (htg _ k_32) hZ.2.2 hK hP hD hS hA (N' := 32) (by decide) (by decide) (by decide) (by omega) (by omega) d_Ri_init_7 (fun q_1 ca_2 H hK9 hP hD hS => ?_)
  obtain rfl : cQ = ca_2 := tyU hK9 (i := 4) (j := 5) rfl rfl
  have hK := hK9.sub (tys' := [(cB, .byte), (cI, .int), (cJ, .long), (cZ, .boolean), (cQ, .object "LogDesk$Block")]) [0, 1, 2, 3, 4] rfl
  have hP : va_P (dC, dI) vwCl [(h0, .inr (4, [.null])), (q_1, .inl (cQ, 32, .inr (.inr (.inr (.inr (fun _ => none))))))] H := hP
  have hD : va_D A [(h0, .inr (4, [.null])), (q_1, .inl (cQ, 32, .inr (.inr (.inr (.inr (fun _ => none))))))] := hD
  refine va_putF (D := (dC, dI)) (ci := 4) (v := .ref q_1) (ty := t_Ri 0) (C := "LogDesk$Ring") (T := F_Ri) (N := 1) hx hb htg hin_Ri t_Ri t_Ri_ok n_Ri hown hK hP hD hS 0 rfl rfl 0 (by decide) (htg _ k_34) (fun _ h9 => h9) rfl hin rfl (by decide +kernel) rfl rfl (Nat.le_of_ble_eq_true rfl) d_Ri_init_10 (fun H locs hP hD hS => ?_)
  have hP : va_P (dC, dI) vwCl [(h0, .inr (4, [.ref q_1])), (q_1, .inl (cQ, 32, .inr (.inr (.inr (.inr (fun _ => none))))))] H := hP
  have hD : va_D A [(h0, .inr (4, [.ref q_1])), (q_1, .inl (cQ, 32, .inr (.inr (.inr (.inr (fun _ => none))))))] := hD
  refine W.widen (k := 1) (n := 32) (by omega) (by omega) ?_
  exact W.vret hx hb hr (fun t ht hW => ⟨⟨(q_1), rfl, trivial, by rw [ht]; exact hP, va_K.moved hW.alike hK, hAe ▸ hD⟩, hAe ▸ hS.F ht⟩) (hAe ▸ hS.2.2) d_Ri_init_13
set_option maxHeartbeats 4000000 in
set_option maxRecDepth 100000 in
theorem c_Ha_init (l : Launch) (dC : Nat → ClassId) (dI : Nat → Nat → Nat) (cB : ClassId) (cI : ClassId) (cJ : ClassId) (cZ : ClassId) (cQ : ClassId) (h0 : Nat) (sz : Nat) : Met l y_Ha_init ((Cond.code y_Ha_init prog_4_method_1_code 1 none) :: gw) ({ frames := 1, cells := 1, slots := 600, locals := 13 } : Room) (zPc (dC, dI) [(cB, .byte), (cI, .int), (cJ, .long), (cZ, .boolean), (cQ, .object "LogDesk$Block")] [.ref h0] [(h0, .inr (2, [.null, .int (iZ 0)]))] sz) (va_Qv (fun (q : Nat) => True) (zBx (dC, dI) [(cB, .byte), (cI, .int), (cJ, .long), (cZ, .boolean), (cQ, .object "LogDesk$Block")] (va_A [(h0, .inr (2, [.null, .int (iZ 0)]))] sz) (fun (q : Nat) => [(h0, .inr (2, [.ref q, .int (iZ 0)])), (q, .inl (cB, 600, .inl (fun j => iZ (Int.bmod ((fun _ => 0) j) 256))))])) (va_A [(h0, .inr (2, [.null, .int (iZ 0)]))] sz)) 1 600 (va_A [(h0, .inr (2, [.null, .int (iZ 0)]))] sz) := by
  refine Met.ofW (cc := prog_4_method_1_code) (maxL := 1) (ret := none) (by decide) rfl ?_
  intro p e s m args below meth c s₁ B hml hv
  obtain ⟨rfl, hsz, hP, hK, hD0, hZ⟩ := hv
  have hx := B.exec
  have hb := B.bytes
  have hr := B.returns
  have hts := atoms_spec (ws := (Cond.code y_Ha_init prog_4_method_1_code 1 none) :: gw) B.pre
  have htg : ∀ w ∈ gw, w.before _ s = true := fun w h => hts w (List.mem_cons_of_mem _ h)
  have hown : s.vm.findClass "LogDesk$Hand" = some m.cls := findClass_of_methodNamed B.named
  have hlocks := B.notSynchronized
  have hin : meth.name = "<init>" := (name_of_methodNamed B.named B.method).1
  subst hsz
  have hD := hD0.self (sz := s.heap.size)
  generalize hAe : va_A [(h0, .inr (2, [.null, .int (iZ 0)]))] s.heap.size = A at hD ⊢
  have hRc : (headSpec ((Cond.code y_Ha_init prog_4_method_1_code 1 none) :: gw) ({ frames := 1, cells := 1, slots := 600, locals := 13 } : Room)).room.cells = 1 := rfl
  have hRs : (headSpec ((Cond.code y_Ha_init prog_4_method_1_code 1 none) :: gw) ({ frames := 1, cells := 1, slots := 600, locals := 13 } : Room)).room.slots = 600 := rfl
  have hA : ∀ q : Nat, s.heap.size ≤ q → A q := fun q h => by rw [← hAe]; exact Or.inr h
  have hS : va_S A s.heap s.heap [] := va_S.rf
  have hP : va_P (dC, dI) vwCl [(h0, .inr (2, [.null, .int (iZ 0)]))] s.heap := hP
  have hl := lv_entry ([.ref h0]) (n := 1) (Nat.le_of_ble_eq_true rfl)
  rw [lg_entry_eq]
  generalize (lg_sl ([.ref h0]) ++ List.replicate (1 - (lg_sl ([.ref h0])).length) Slot.unset).toArray = ls at hl ⊢
  have hl : lv_has ls 1 [(0, .ref h0)] := hl
  refine lv_aload_n hx hb d_Ha_init_0 rfl (lv_at hl 0 rfl) ?_
  refine W.objInit hx hb hown (htg _ k_43) (htg _ k_24) (htg _ k_25) rfl (by rw [hml]; exact hl.1) rfl d_Ha_init_1 (Nat.le_of_ble_eq_true rfl) (Nat.le_of_ble_eq_true rfl) ?_
  refine W.eq (g2 := F0 m 4 ls []) rfl ?_
  refine lv_aload_n hx hb d_Ha_init_4 rfl (lv_at hl 0 rfl) ?_
  refine lv_sipush (v := iZ 600) hx hb d_Ha_init_5 (by decide) ?_
  refine va_newa (atype := .byte) (ty := .byte) (a0 := (600, (.inl (fun _ => 0)))) hx hb (htg _ k_51) rfl hK hP hD hS hA (fun _ => rfl) (by decide) (by decide) (by decide) (by omega) (by omega) d_Ha_init_8 (fun q_1 ca_2 H hK9 hP hD hS => ?_)
  obtain rfl : cB = ca_2 := tyU hK9 (i := 0) (j := 5) rfl rfl
  have hK := hK9.sub (tys' := [(cB, .byte), (cI, .int), (cJ, .long), (cZ, .boolean), (cQ, .object "LogDesk$Block")]) [0, 1, 2, 3, 4] rfl
  have hP : va_P (dC, dI) vwCl [(h0, .inr (2, [.null, .int (iZ 0)])), (q_1, .inl (cB, 600, .inl (fun j => iZ (Int.bmod ((fun _ => 0) j) 256))))] H := hP
  have hD : va_D A [(h0, .inr (2, [.null, .int (iZ 0)])), (q_1, .inl (cB, 600, .inl (fun j => iZ (Int.bmod ((fun _ => 0) j) 256))))] := hD
  refine va_putF (D := (dC, dI)) (ci := 2) (v := .ref q_1) (ty := t_Ha 0) (C := "LogDesk$Hand") (T := F_Ha) (N := 2) hx hb htg hin_Ha t_Ha t_Ha_ok n_Ha hown hK hP hD hS 0 rfl rfl 0 (by decide) (htg _ k_44) (fun _ h9 => h9) rfl hin rfl (by decide +kernel) rfl rfl (Nat.le_of_ble_eq_true rfl) d_Ha_init_10 (fun H locs hP hD hS => ?_)
  have hP : va_P (dC, dI) vwCl [(h0, .inr (2, [.ref q_1, .int (iZ 0)])), (q_1, .inl (cB, 600, .inl (fun j => iZ (Int.bmod ((fun _ => 0) j) 256))))] H := hP
  have hD : va_D A [(h0, .inr (2, [.ref q_1, .int (iZ 0)])), (q_1, .inl (cB, 600, .inl (fun j => iZ (Int.bmod ((fun _ => 0) j) 256))))] := hD
  refine W.widen (k := 1) (n := 600) (by omega) (by omega) ?_
  exact W.vret hx hb hr (fun t ht hW => ⟨⟨(q_1), rfl, trivial, by rw [ht]; exact hP, va_K.moved hW.alike hK, hAe ▸ hD⟩, hAe ▸ hS.F ht⟩) (hAe ▸ hS.2.2) d_Ha_init_13
set_option maxHeartbeats 4000000 in
set_option maxRecDepth 100000 in
theorem c_Wa_init (l : Launch) (dC : Nat → ClassId) (dI : Nat → Nat → Nat) (cB : ClassId) (cI : ClassId) (cJ : ClassId) (cZ : ClassId) (cQ : ClassId) (h0 : Nat) (sz : Nat) : Met l y_Wa_init ((Cond.code y_Wa_init prog_7_method_1_code 1 none) :: gw) ({ frames := 1, cells := 1, slots := 6, locals := 13 } : Room) (zPc (dC, dI) [(cB, .byte), (cI, .int), (cJ, .long), (cZ, .boolean), (cQ, .object "LogDesk$Block")] [.ref h0] [(h0, .inr (5, [.null]))] sz) (va_Qv (fun (q : Nat) => True) (zBx (dC, dI) [(cB, .byte), (cI, .int), (cJ, .long), (cZ, .boolean), (cQ, .object "LogDesk$Block")] (va_A [(h0, .inr (5, [.null]))] sz) (fun (q : Nat) => [(h0, .inr (5, [.ref q])), (q, .inl (cI, 6, .inl (fun j => iZ ((fun _ => 0) j))))])) (va_A [(h0, .inr (5, [.null]))] sz)) 1 6 (va_A [(h0, .inr (5, [.null]))] sz) := by
  refine Met.ofW (cc := prog_7_method_1_code) (maxL := 1) (ret := none) (by decide) rfl ?_
  intro p e s m args below meth c s₁ B hml hv
  obtain ⟨rfl, hsz, hP, hK, hD0, hZ⟩ := hv
  have hx := B.exec
  have hb := B.bytes
  have hr := B.returns
  have hts := atoms_spec (ws := (Cond.code y_Wa_init prog_7_method_1_code 1 none) :: gw) B.pre
  have htg : ∀ w ∈ gw, w.before _ s = true := fun w h => hts w (List.mem_cons_of_mem _ h)
  have hown : s.vm.findClass "LogDesk$Waiting" = some m.cls := findClass_of_methodNamed B.named
  have hlocks := B.notSynchronized
  have hin : meth.name = "<init>" := (name_of_methodNamed B.named B.method).1
  subst hsz
  have hD := hD0.self (sz := s.heap.size)
  generalize hAe : va_A [(h0, .inr (5, [.null]))] s.heap.size = A at hD ⊢
  have hRc : (headSpec ((Cond.code y_Wa_init prog_7_method_1_code 1 none) :: gw) ({ frames := 1, cells := 1, slots := 6, locals := 13 } : Room)).room.cells = 1 := rfl
  have hRs : (headSpec ((Cond.code y_Wa_init prog_7_method_1_code 1 none) :: gw) ({ frames := 1, cells := 1, slots := 6, locals := 13 } : Room)).room.slots = 6 := rfl
  have hA : ∀ q : Nat, s.heap.size ≤ q → A q := fun q h => by rw [← hAe]; exact Or.inr h
  have hS : va_S A s.heap s.heap [] := va_S.rf
  have hP : va_P (dC, dI) vwCl [(h0, .inr (5, [.null]))] s.heap := hP
  have hl := lv_entry ([.ref h0]) (n := 1) (Nat.le_of_ble_eq_true rfl)
  rw [lg_entry_eq]
  generalize (lg_sl ([.ref h0]) ++ List.replicate (1 - (lg_sl ([.ref h0])).length) Slot.unset).toArray = ls at hl ⊢
  have hl : lv_has ls 1 [(0, .ref h0)] := hl
  refine lv_aload_n hx hb d_Wa_init_0 rfl (lv_at hl 0 rfl) ?_
  refine W.objInit hx hb hown (htg _ k_57) (htg _ k_24) (htg _ k_25) rfl (by rw [hml]; exact hl.1) rfl d_Wa_init_1 (Nat.le_of_ble_eq_true rfl) (Nat.le_of_ble_eq_true rfl) ?_
  refine W.eq (g2 := F0 m 4 ls []) rfl ?_
  refine lv_aload_n hx hb d_Wa_init_4 rfl (lv_at hl 0 rfl) ?_
  refine lv_bipush (v := iZ 6) hx hb d_Wa_init_5 (by decide) ?_
  refine va_newa (atype := .int) (ty := .int) (a0 := (6, (.inl (fun _ => 0)))) hx hb (htg _ k_62) rfl hK hP hD hS hA (fun _ => rfl) (by decide) (by decide) (by decide) (by omega) (by omega) d_Wa_init_7 (fun q_1 ca_2 H hK9 hP hD hS => ?_)
  obtain rfl : cI = ca_2 := tyU hK9 (i := 1) (j := 5) rfl rfl
  have hK := hK9.sub (tys' := [(cB, .byte), (cI, .int), (cJ, .long), (cZ, .boolean), (cQ, .object "LogDesk$Block")]) [0, 1, 2, 3, 4] rfl
  have hP : va_P (dC, dI) vwCl [(h0, .inr (5, [.null])), (q_1, .inl (cI, 6, .inl (fun j => iZ ((fun _ => 0) j))))] H := hP
  have hD : va_D A [(h0, .inr (5, [.null])), (q_1, .inl (cI, 6, .inl (fun j => iZ ((fun _ => 0) j))))] := hD
  refine va_putF (D := (dC, dI)) (ci := 5) (v := .ref q_1) (ty := t_Wa 0) (C := "LogDesk$Waiting") (T := F_Wa) (N := 1) hx hb htg hin_Wa t_Wa t_Wa_ok n_Wa hown hK hP hD hS 0 rfl rfl 0 (by decide) (htg _ k_58) (fun _ h9 => h9) rfl hin rfl (by decide +kernel) rfl rfl (Nat.le_of_ble_eq_true rfl) d_Wa_init_9 (fun H locs hP hD hS => ?_)
  have hP : va_P (dC, dI) vwCl [(h0, .inr (5, [.ref q_1])), (q_1, .inl (cI, 6, .inl (fun j => iZ ((fun _ => 0) j))))] H := hP
  have hD : va_D A [(h0, .inr (5, [.ref q_1])), (q_1, .inl (cI, 6, .inl (fun j => iZ ((fun _ => 0) j))))] := hD
  refine W.widen (k := 1) (n := 6) (by omega) (by omega) ?_
  exact W.vret hx hb hr (fun t ht hW => ⟨⟨(q_1), rfl, trivial, by rw [ht]; exact hP, va_K.moved hW.alike hK, hAe ▸ hD⟩, hAe ▸ hS.F ht⟩) (hAe ▸ hS.2.2) d_Wa_init_12
set_option maxHeartbeats 4000000 in
set_option maxRecDepth 100000 in
theorem c_Pa_init (l : Launch) (dC : Nat → ClassId) (dI : Nat → Nat → Nat) (cB : ClassId) (cI : ClassId) (cJ : ClassId) (cZ : ClassId) (cQ : ClassId) (h0 : Nat) (sz : Nat) : Met l y_Pa_init ((Cond.code y_Pa_init prog_5_method_1_code 1 none) :: gw) ({ frames := 1, cells := 1, slots := 32, locals := 13 } : Room) (zPc (dC, dI) [(cB, .byte), (cI, .int), (cJ, .long), (cZ, .boolean), (cQ, .object "LogDesk$Block")] [.ref h0] [(h0, .inr (3, [.null, .int (iZ 0)]))] sz) (va_Qv (fun (q : Nat) => True) (zBx (dC, dI) [(cB, .byte), (cI, .int), (cJ, .long), (cZ, .boolean), (cQ, .object "LogDesk$Block")] (va_A [(h0, .inr (3, [.null, .int (iZ 0)]))] sz) (fun (q : Nat) => [(h0, .inr (3, [.ref q, .int (iZ 0)])), (q, .inl (cJ, 32, .inr (.inl (fun _ => 0))))])) (va_A [(h0, .inr (3, [.null, .int (iZ 0)]))] sz)) 1 32 (va_A [(h0, .inr (3, [.null, .int (iZ 0)]))] sz) := by
  refine Met.ofW (cc := prog_5_method_1_code) (maxL := 1) (ret := none) (by decide) rfl ?_
  intro p e s m args below meth c s₁ B hml hv
  obtain ⟨rfl, hsz, hP, hK, hD0, hZ⟩ := hv
  have hx := B.exec
  have hb := B.bytes
  have hr := B.returns
  have hts := atoms_spec (ws := (Cond.code y_Pa_init prog_5_method_1_code 1 none) :: gw) B.pre
  have htg : ∀ w ∈ gw, w.before _ s = true := fun w h => hts w (List.mem_cons_of_mem _ h)
  have hown : s.vm.findClass "LogDesk$Pages" = some m.cls := findClass_of_methodNamed B.named
  have hlocks := B.notSynchronized
  have hin : meth.name = "<init>" := (name_of_methodNamed B.named B.method).1
  subst hsz
  have hD := hD0.self (sz := s.heap.size)
  generalize hAe : va_A [(h0, .inr (3, [.null, .int (iZ 0)]))] s.heap.size = A at hD ⊢
  have hRc : (headSpec ((Cond.code y_Pa_init prog_5_method_1_code 1 none) :: gw) ({ frames := 1, cells := 1, slots := 32, locals := 13 } : Room)).room.cells = 1 := rfl
  have hRs : (headSpec ((Cond.code y_Pa_init prog_5_method_1_code 1 none) :: gw) ({ frames := 1, cells := 1, slots := 32, locals := 13 } : Room)).room.slots = 32 := rfl
  have hA : ∀ q : Nat, s.heap.size ≤ q → A q := fun q h => by rw [← hAe]; exact Or.inr h
  have hS : va_S A s.heap s.heap [] := va_S.rf
  have hP : va_P (dC, dI) vwCl [(h0, .inr (3, [.null, .int (iZ 0)]))] s.heap := hP
  have hl := lv_entry ([.ref h0]) (n := 1) (Nat.le_of_ble_eq_true rfl)
  rw [lg_entry_eq]
  generalize (lg_sl ([.ref h0]) ++ List.replicate (1 - (lg_sl ([.ref h0])).length) Slot.unset).toArray = ls at hl ⊢
  have hl : lv_has ls 1 [(0, .ref h0)] := hl
  refine lv_aload_n hx hb d_Pa_init_0 rfl (lv_at hl 0 rfl) ?_
  refine W.objInit hx hb hown (htg _ k_68) (htg _ k_24) (htg _ k_25) rfl (by rw [hml]; exact hl.1) rfl d_Pa_init_1 (Nat.le_of_ble_eq_true rfl) (Nat.le_of_ble_eq_true rfl) ?_
  refine W.eq (g2 := F0 m 4 ls []) rfl ?_
  refine lv_aload_n hx hb d_Pa_init_4 rfl (lv_at hl 0 rfl) ?_
  refine lv_bipush (v := iZ 32) hx hb d_Pa_init_5 (by decide) ?_
  refine va_newa (atype := .long) (ty := .long) (a0 := (32, (.inr (.inl (fun _ => 0))))) hx hb (htg _ k_76) rfl hK hP hD hS hA (fun _ => rfl) (by decide) (by decide) (by decide) (by omega) (by omega) d_Pa_init_7 (fun q_1 ca_2 H hK9 hP hD hS => ?_)
  obtain rfl : cJ = ca_2 := tyU hK9 (i := 2) (j := 5) rfl rfl
  have hK := hK9.sub (tys' := [(cB, .byte), (cI, .int), (cJ, .long), (cZ, .boolean), (cQ, .object "LogDesk$Block")]) [0, 1, 2, 3, 4] rfl
  have hP : va_P (dC, dI) vwCl [(h0, .inr (3, [.null, .int (iZ 0)])), (q_1, .inl (cJ, 32, .inr (.inl (fun _ => 0))))] H := hP
  have hD : va_D A [(h0, .inr (3, [.null, .int (iZ 0)])), (q_1, .inl (cJ, 32, .inr (.inl (fun _ => 0))))] := hD
  refine va_putF (D := (dC, dI)) (ci := 3) (v := .ref q_1) (ty := t_Pa 0) (C := "LogDesk$Pages") (T := F_Pa) (N := 2) hx hb htg hin_Pa t_Pa t_Pa_ok n_Pa hown hK hP hD hS 0 rfl rfl 0 (by decide) (htg _ k_69) (fun _ h9 => h9) rfl hin rfl (by decide +kernel) rfl rfl (Nat.le_of_ble_eq_true rfl) d_Pa_init_9 (fun H locs hP hD hS => ?_)
  have hP : va_P (dC, dI) vwCl [(h0, .inr (3, [.ref q_1, .int (iZ 0)])), (q_1, .inl (cJ, 32, .inr (.inl (fun _ => 0))))] H := hP
  have hD : va_D A [(h0, .inr (3, [.ref q_1, .int (iZ 0)])), (q_1, .inl (cJ, 32, .inr (.inl (fun _ => 0))))] := hD
  refine W.widen (k := 1) (n := 32) (by omega) (by omega) ?_
  exact W.vret hx hb hr (fun t ht hW => ⟨⟨(q_1), rfl, trivial, by rw [ht]; exact hP, va_K.moved hW.alike hK, hAe ▸ hD⟩, hAe ▸ hS.F ht⟩) (hAe ▸ hS.2.2) d_Pa_init_12
set_option maxHeartbeats 4000000 in
set_option maxRecDepth 100000 in
theorem c_Di_init (l : Launch) (dC : Nat → ClassId) (dI : Nat → Nat → Nat) (cB : ClassId) (cI : ClassId) (cJ : ClassId) (cZ : ClassId) (cQ : ClassId) (h0 : Nat) (sz : Nat) : Met l y_Di_init ((Cond.code y_Di_init prog_3_method_1_code 1 none) :: gw) ({ frames := 1, cells := 0, slots := 0, locals := 13 } : Room) (zPc (dC, dI) [(cB, .byte), (cI, .int), (cJ, .long), (cZ, .boolean), (cQ, .object "LogDesk$Block")] [.ref h0] [(h0, .inr (1, [.int (iZ 0), .int (iZ 0)]))] sz) (va_Qv (fun (_ : Unit) => True) (zB (dC, dI) [(cB, .byte), (cI, .int), (cJ, .long), (cZ, .boolean), (cQ, .object "LogDesk$Block")] (va_A [(h0, .inr (1, [.int (iZ 0), .int (iZ 0)]))] sz) [(h0, .inr (1, [.int (iZ 0), .int (iZ (-1))]))]) (va_A [(h0, .inr (1, [.int (iZ 0), .int (iZ 0)]))] sz)) 0 0 (va_A [(h0, .inr (1, [.int (iZ 0), .int (iZ 0)]))] sz) := by
  refine Met.ofW (cc := prog_3_method_1_code) (maxL := 1) (ret := none) (by decide) rfl ?_
  intro p e s m args below meth c s₁ B hml hv
  obtain ⟨rfl, hsz, hP, hK, hD0, hZ⟩ := hv
  have hx := B.exec
  have hb := B.bytes
  have hr := B.returns
  have hts := atoms_spec (ws := (Cond.code y_Di_init prog_3_method_1_code 1 none) :: gw) B.pre
  have htg : ∀ w ∈ gw, w.before _ s = true := fun w h => hts w (List.mem_cons_of_mem _ h)
  have hown : s.vm.findClass "LogDesk$Disk" = some m.cls := findClass_of_methodNamed B.named
  have hlocks := B.notSynchronized
  have hin : meth.name = "<init>" := (name_of_methodNamed B.named B.method).1
  subst hsz
  have hD := hD0.self (sz := s.heap.size)
  generalize hAe : va_A [(h0, .inr (1, [.int (iZ 0), .int (iZ 0)]))] s.heap.size = A at hD ⊢
  have hRc : (headSpec ((Cond.code y_Di_init prog_3_method_1_code 1 none) :: gw) ({ frames := 1, cells := 0, slots := 0, locals := 13 } : Room)).room.cells = 0 := rfl
  have hRs : (headSpec ((Cond.code y_Di_init prog_3_method_1_code 1 none) :: gw) ({ frames := 1, cells := 0, slots := 0, locals := 13 } : Room)).room.slots = 0 := rfl
  have hA : ∀ q : Nat, s.heap.size ≤ q → A q := fun q h => by rw [← hAe]; exact Or.inr h
  have hS : va_S A s.heap s.heap [] := va_S.rf
  have hP : va_P (dC, dI) vwCl [(h0, .inr (1, [.int (iZ 0), .int (iZ 0)]))] s.heap := hP
  have hl := lv_entry ([.ref h0]) (n := 1) (Nat.le_of_ble_eq_true rfl)
  rw [lg_entry_eq]
  generalize (lg_sl ([.ref h0]) ++ List.replicate (1 - (lg_sl ([.ref h0])).length) Slot.unset).toArray = ls at hl ⊢
  have hl : lv_has ls 1 [(0, .ref h0)] := hl
  refine lv_aload_n hx hb d_Di_init_0 rfl (lv_at hl 0 rfl) ?_
  refine W.objInit hx hb hown (htg _ k_82) (htg _ k_24) (htg _ k_25) rfl (by rw [hml]; exact hl.1) rfl d_Di_init_1 (Nat.le_of_ble_eq_true rfl) (Nat.le_of_ble_eq_true rfl) ?_
  refine W.eq (g2 := F0 m 4 ls []) rfl ?_
  refine lv_aload_n hx hb d_Di_init_4 rfl (lv_at hl 0 rfl) ?_
  refine lv_iconst (v := iZ (-1)) hx hb d_Di_init_5 rfl ?_
  refine va_put (D := (dC, dI)) (ci := 1) (v := .int (iZ (-1))) (ty := t_Di 1) (C := "LogDesk$Disk") (T := F_Di) (N := 2) hx hb htg hin_Di t_Di t_Di_ok n_Di hown hK hP hD hS 0 rfl rfl 1 (by decide) (htg _ k_84) (fun _ h9 => h9) rfl (by decide +kernel) rfl rfl (Nat.le_of_ble_eq_true rfl) d_Di_init_6 (fun H locs hP hD hS => ?_)
  have hP : va_P (dC, dI) vwCl [(h0, .inr (1, [.int (iZ 0), .int (iZ (-1))]))] H := hP
  have hD : va_D A [(h0, .inr (1, [.int (iZ 0), .int (iZ (-1))]))] := hD
  exact W.vret hx hb hr (fun t ht hW => ⟨⟨(), rfl, trivial, by rw [ht]; exact hP, va_K.moved hW.alike hK, hAe ▸ hD⟩, hAe ▸ hS.F ht⟩) (hAe ▸ hS.2.2) d_Di_init_9
set_option maxHeartbeats 4000000 in
set_option maxRecDepth 100000 in
theorem c_De_init (l : Launch) (dC : Nat → ClassId) (dI : Nat → Nat → Nat) (cB : ClassId) (cI : ClassId) (cJ : ClassId) (cZ : ClassId) (cQ : ClassId) (h0 : Nat) (sz : Nat) (x : Int) (hx0 : iB x) : Met l y_De_init ((Cond.code y_De_init prog_1_method_1_code 2 none) :: gw) ({ frames := 2, cells := 9, slots := 678, locals := 33 } : Room) (zPc (dC, dI) [(cB, .byte), (cI, .int), (cJ, .long), (cZ, .boolean), (cQ, .object "LogDesk$Block")] [.ref h0, .int (iZ x)] [(h0, .inr (6, [.int (iZ 0), .null, .null, .null, .null, .null, .int (iZ 0), .int (iZ 0), .int (iZ 0), .int (iZ 0)]))] sz) (va_Qv (fun (q : Nat × Nat × Nat × Nat × Nat × Nat × Nat × Nat × Nat) => True) (zBx (dC, dI) [(cB, .byte), (cI, .int), (cJ, .long), (cZ, .boolean), (cQ, .object "LogDesk$Block")] (va_A [(h0, .inr (6, [.int (iZ 0), .null, .null, .null, .null, .null, .int (iZ 0), .int (iZ 0), .int (iZ 0), .int (iZ 0)]))] sz) (fun (q : Nat × Nat × Nat × Nat × Nat × Nat × Nat × Nat × Nat) => [(h0, .inr (6, [.int (iZ (if 3 ≤ x ∧ x ≤ 32 then x else 32)), .ref q.1, .ref q.2.2.1, .ref q.2.2.2.2.1, .ref q.2.2.2.2.2.2.1, .ref q.2.2.2.2.2.2.2.2, .int (iZ 0), .int (iZ 0), .int (iZ 0), .int (iZ (-1))])), (q.1, .inr (4, [.ref q.2.1])), (q.2.1, .inl (cQ, 32, .inr (.inr (.inr (.inr (fun _ => none)))))), (q.2.2.1, .inr (2, [.ref q.2.2.2.1, .int (iZ 0)])), (q.2.2.2.1, .inl (cB, 600, .inl (fun j => iZ (Int.bmod ((fun _ => 0) j) 256)))), (q.2.2.2.2.1, .inr (5, [.ref q.2.2.2.2.2.1])), (q.2.2.2.2.2.1, .inl (cI, 6, .inl (fun j => iZ ((fun _ => 0) j)))), (q.2.2.2.2.2.2.1, .inr (3, [.ref q.2.2.2.2.2.2.2.1, .int (iZ 0)])), (q.2.2.2.2.2.2.2.1, .inl (cJ, 32, .inr (.inl (fun _ => 0)))), (q.2.2.2.2.2.2.2.2, .inr (1, [.int (iZ 0), .int (iZ (-1))]))])) (va_A [(h0, .inr (6, [.int (iZ 0), .null, .null, .null, .null, .null, .int (iZ 0), .int (iZ 0), .int (iZ 0), .int (iZ 0)]))] sz)) 9 678 (va_A [(h0, .inr (6, [.int (iZ 0), .null, .null, .null, .null, .null, .int (iZ 0), .int (iZ 0), .int (iZ 0), .int (iZ 0)]))] sz) := by
  refine Met.ofW (cc := prog_1_method_1_code) (maxL := 2) (ret := none) (by decide) rfl ?_
  intro p e s m args below meth c s₁ B hml hv
  obtain ⟨rfl, hsz, hP, hK, hD0, hZ⟩ := hv
  have hx := B.exec
  have hb := B.bytes
  have hr := B.returns
  have hts := atoms_spec (ws := (Cond.code y_De_init prog_1_method_1_code 2 none) :: gw) B.pre
  have htg : ∀ w ∈ gw, w.before _ s = true := fun w h => hts w (List.mem_cons_of_mem _ h)
  have hown : s.vm.findClass "LogDesk" = some m.cls := findClass_of_methodNamed B.named
  have hlocks := B.notSynchronized
  have hin : meth.name = "<init>" := (name_of_methodNamed B.named B.method).1
  subst hsz
  have hD := hD0.self (sz := s.heap.size)
  generalize hAe : va_A [(h0, .inr (6, [.int (iZ 0), .null, .null, .null, .null, .null, .int (iZ 0), .int (iZ 0), .int (iZ 0), .int (iZ 0)]))] s.heap.size = A at hD ⊢
  have hRc : (headSpec ((Cond.code y_De_init prog_1_method_1_code 2 none) :: gw) ({ frames := 2, cells := 9, slots := 678, locals := 33 } : Room)).room.cells = 9 := rfl
  have hRs : (headSpec ((Cond.code y_De_init prog_1_method_1_code 2 none) :: gw) ({ frames := 2, cells := 9, slots := 678, locals := 33 } : Room)).room.slots = 678 := rfl
  have hA : ∀ q : Nat, s.heap.size ≤ q → A q := fun q h => by rw [← hAe]; exact Or.inr h
  have hS : va_S A s.heap s.heap [] := va_S.rf
  have hP : va_P (dC, dI) vwCl [(h0, .inr (6, [.int (iZ 0), .null, .null, .null, .null, .null, .int (iZ 0), .int (iZ 0), .int (iZ 0), .int (iZ 0)]))] s.heap := hP
  have hl := lv_entry ([.ref h0, .int (iZ x)]) (n := 2) (Nat.le_of_ble_eq_true rfl)
  rw [lg_entry_eq]
  generalize (lg_sl ([.ref h0, .int (iZ x)]) ++ List.replicate (2 - (lg_sl ([.ref h0, .int (iZ x)])).length) Slot.unset).toArray = ls at hl ⊢
  have hl : lv_has ls 2 [(0, .ref h0), (1, .int (iZ x))] := hl
  obtain ⟨hx1, hx2⟩ := hx0
  refine lv_aload_n hx hb d_De_init_0 rfl (lv_at hl 0 rfl) ?_
  refine W.objInit hx hb hown (htg _ k_23) (htg _ k_24) (htg _ k_25) rfl (by rw [hml]; exact hl.1) rfl d_De_init_1 (Nat.le_of_ble_eq_true rfl) (Nat.le_of_ble_eq_true rfl) ?_
  refine W.eq (g2 := F0 m 4 ls []) rfl ?_
  refine lv_aload_n hx hb d_De_init_4 rfl (lv_at hl 0 rfl) ?_
  refine va_new (ci := 4) (fs := [.null]) (C := "LogDesk$Ring") (T := F_Ri) (N := 1) hx hb htg hin_Ri t_Ri t_Ri_ok hown (htg _ k_26) (htg _ k_27) (htg _ k_2) hK hP hD hS hA rfl (fun j hj => by rcases (show j = 0 by omega) with rfl <;> rfl) (by omega) (by omega) d_De_init_5 (fun q_1 H hP hD hS => ?_)
  have hP : va_P (dC, dI) vwCl [(h0, .inr (6, [.int (iZ 0), .null, .null, .null, .null, .null, .int (iZ 0), .int (iZ 0), .int (iZ 0), .int (iZ 0)])), (q_1, .inr (4, [.null]))] H := hP
  have hD : va_D A [(h0, .inr (6, [.int (iZ 0), .null, .null, .null, .null, .null, .int (iZ 0), .int (iZ 0), .int (iZ 0), .int (iZ 0)])), (q_1, .inr (4, [.null]))] := hD
  refine lv_dup hx hb d_De_init_8 rfl ?_
  refine zx_v (wr := [(h0, .inr (6, [.int (iZ 0), .null, .null, .null, .null, .null, .int (iZ 0), .int (iZ 0), .int (iZ 0), .int (iZ 0)]))]) (va_runIN (As := []) (rest := [.ref q_1, .ref h0]) ⟨hx, hb, hml, hown, htg⟩ (c_Ri_init l dC dI cB cI cJ cZ cQ q_1 H.size) ⟨va_cnB 0 htg (gw_I k_30) rfl rfl rfl (hZ.1 (.methodLinkNest "LogDesk" 11 y_Ri_init "LogDesk") (by simp [nzW])) (htg _ k_2) (by decide +kernel) ⟨Nat.le_of_ble_eq_true rfl, Nat.le_of_ble_eq_true rfl⟩, rfl, htg _ k_29⟩ (zPreS hK hP hD hZ [1] rfl (by decide)) rfl rfl hl.1 rfl (lv_room (Nat.le_of_ble_eq_true rfl)) d_De_init_9 ⟨by omega, by omega⟩) hP hD hS hA [1] [0] rfl rfl (by decide) (by decide) (fun uu_4 hq_3 H locs hP hD hS => ?_)
  obtain ⟨q1_2, rfl⟩ : ∃ z, z = uu_4 := ⟨_, rfl⟩
  try dsimp only at hq_3
  have hP : va_P (dC, dI) vwCl [(h0, .inr (6, [.int (iZ 0), .null, .null, .null, .null, .null, .int (iZ 0), .int (iZ 0), .int (iZ 0), .int (iZ 0)])), (q_1, .inr (4, [.ref q1_2])), (q1_2, .inl (cQ, 32, .inr (.inr (.inr (.inr (fun _ => none))))))] H := hP
  have hD : va_D A [(h0, .inr (6, [.int (iZ 0), .null, .null, .null, .null, .null, .int (iZ 0), .int (iZ 0), .int (iZ 0), .int (iZ 0)])), (q_1, .inr (4, [.ref q1_2])), (q1_2, .inl (cQ, 32, .inr (.inr (.inr (.inr (fun _ => none))))))] := hD
  refine va_putF (D := (dC, dI)) (ci := 6) (v := .ref q_1) (ty := t_De 1) (C := "LogDesk") (T := F_De) (N := 10) hx hb htg hin_De t_De t_De_ok n_De hown hK hP hD hS 0 rfl rfl 1 (by decide) (htg _ k_91) (fun _ h9 => h9) rfl hin rfl (by decide +kernel) rfl rfl (Nat.le_of_ble_eq_true rfl) d_De_init_12 (fun H locs hP hD hS => ?_)
  have hP : va_P (dC, dI) vwCl [(h0, .inr (6, [.int (iZ 0), .ref q_1, .null, .null, .null, .null, .int (iZ 0), .int (iZ 0), .int (iZ 0), .int (iZ 0)])), (q_1, .inr (4, [.ref q1_2])), (q1_2, .inl (cQ, 32, .inr (.inr (.inr (.inr (fun _ => none))))))] H := hP
  have hD : va_D A [(h0, .inr (6, [.int (iZ 0), .ref q_1, .null, .null, .null, .null, .int (iZ 0), .int (iZ 0), .int (iZ 0), .int (iZ 0)])), (q_1, .inr (4, [.ref q1_2])), (q1_2, .inl (cQ, 32, .inr (.inr (.inr (.inr (fun _ => none))))))] := hD
  refine lv_aload_n hx hb d_De_init_15 rfl (lv_at hl 0 rfl) ?_
  refine va_new (ci := 2) (fs := [.null, .int (iZ 0)]) (C := "LogDesk$Hand") (T := F_Ha) (N := 2) hx hb htg hin_Ha t_Ha t_Ha_ok hown (htg _ k_38) (htg _ k_39) (htg _ k_3) hK hP hD hS hA rfl (fun j hj => by rcases (show j = 0 ∨ j = 1 by omega) with rfl | rfl <;> rfl) (by omega) (by omega) d_De_init_16 (fun q_5 H hP hD hS => ?_)
  have hP : va_P (dC, dI) vwCl [(h0, .inr (6, [.int (iZ 0), .ref q_1, .null, .null, .null, .null, .int (iZ 0), .int (iZ 0), .int (iZ 0), .int (iZ 0)])), (q_1, .inr (4, [.ref q1_2])), (q1_2, .inl (cQ, 32, .inr (.inr (.inr (.inr (fun _ => none)))))), (q_5, .inr (2, [.null, .int (iZ 0)]))] H := hP
  have hD : va_D A [(h0, .inr (6, [.int (iZ 0), .ref q_1, .null, .null, .null, .null, .int (iZ 0), .int (iZ 0), .int (iZ 0), .int (iZ 0)])), (q_1, .inr (4, [.ref q1_2])), (q1_2, .inl (cQ, 32, .inr (.inr (.inr (.inr (fun _ => none)))))), (q_5, .inr (2, [.null, .int (iZ 0)]))] := hD
  refine lv_dup hx hb d_De_init_19 rfl ?_
  refine zx_v (wr := [(h0, .inr (6, [.int (iZ 0), .ref q_1, .null, .null, .null, .null, .int (iZ 0), .int (iZ 0), .int (iZ 0), .int (iZ 0)])), (q_1, .inr (4, [.ref q1_2])), (q1_2, .inl (cQ, 32, .inr (.inr (.inr (.inr (fun _ => none))))))]) (va_runIN (As := []) (rest := [.ref q_5, .ref h0]) ⟨hx, hb, hml, hown, htg⟩ (c_Ha_init l dC dI cB cI cJ cZ cQ q_5 H.size) ⟨va_cnB 0 htg (gw_I k_42) rfl rfl rfl (hZ.1 (.methodLinkNest "LogDesk" 18 y_Ha_init "LogDesk") (by simp [nzW])) (htg _ k_3) (by decide +kernel) ⟨Nat.le_of_ble_eq_true rfl, Nat.le_of_ble_eq_true rfl⟩, rfl, htg _ k_41⟩ (zPreS hK hP hD hZ [3] rfl (by decide)) rfl rfl hl.1 rfl (lv_room (Nat.le_of_ble_eq_true rfl)) d_De_init_20 ⟨by omega, by omega⟩) hP hD hS hA [3] [0, 1, 2] rfl rfl (by decide) (by decide) (fun uu_8 hq_7 H locs hP hD hS => ?_)
  obtain ⟨q1_6, rfl⟩ : ∃ z, z = uu_8 := ⟨_, rfl⟩
  try dsimp only at hq_7
  have hP : va_P (dC, dI) vwCl [(h0, .inr (6, [.int (iZ 0), .ref q_1, .null, .null, .null, .null, .int (iZ 0), .int (iZ 0), .int (iZ 0), .int (iZ 0)])), (q_1, .inr (4, [.ref q1_2])), (q1_2, .inl (cQ, 32, .inr (.inr (.inr (.inr (fun _ => none)))))), (q_5, .inr (2, [.ref q1_6, .int (iZ 0)])), (q1_6, .inl (cB, 600, .inl (fun j => iZ (Int.bmod ((fun _ => 0) j) 256))))] H := hP
  have hD : va_D A [(h0, .inr (6, [.int (iZ 0), .ref q_1, .null, .null, .null, .null, .int (iZ 0), .int (iZ 0), .int (iZ 0), .int (iZ 0)])), (q_1, .inr (4, [.ref q1_2])), (q1_2, .inl (cQ, 32, .inr (.inr (.inr (.inr (fun _ => none)))))), (q_5, .inr (2, [.ref q1_6, .int (iZ 0)])), (q1_6, .inl (cB, 600, .inl (fun j => iZ (Int.bmod ((fun _ => 0) j) 256))))] := hD
  refine va_putF (D := (dC, dI)) (ci := 6) (v := .ref q_5) (ty := t_De 2) (C := "LogDesk") (T := F_De) (N := 10) hx hb htg hin_De t_De t_De_ok n_De hown hK hP hD hS 0 rfl rfl 2 (by decide) (htg _ k_92) (fun _ h9 => h9) rfl hin rfl (by decide +kernel) rfl rfl (Nat.le_of_ble_eq_true rfl) d_De_init_23 (fun H locs hP hD hS => ?_)
  have hP : va_P (dC, dI) vwCl [(h0, .inr (6, [.int (iZ 0), .ref q_1, .ref q_5, .null, .null, .null, .int (iZ 0), .int (iZ 0), .int (iZ 0), .int (iZ 0)])), (q_1, .inr (4, [.ref q1_2])), (q1_2, .inl (cQ, 32, .inr (.inr (.inr (.inr (fun _ => none)))))), (q_5, .inr (2, [.ref q1_6, .int (iZ 0)])), (q1_6, .inl (cB, 600, .inl (fun j => iZ (Int.bmod ((fun _ => 0) j) 256))))] H := hP
  have hD : va_D A [(h0, .inr (6, [.int (iZ 0), .ref q_1, .ref q_5, .null, .null, .null, .int (iZ 0), .int (iZ 0), .int (iZ 0), .int (iZ 0)])), (q_1, .inr (4, [.ref q1_2])), (q1_2, .inl (cQ, 32, .inr (.inr (.inr (.inr (fun _ => none)))))), (q_5, .inr (2, [.ref q1_6, .int (iZ 0)])), (q1_6, .inl (cB, 600, .inl (fun j => iZ (Int.bmod ((fun _ => 0) j) 256))))] := hD
  refine lv_aload_n hx hb d_De_init_26 rfl (lv_at hl 0 rfl) ?_
  refine va_new (ci := 5) (fs := [.null]) (C := "LogDesk$Waiting") (T := F_Wa) (N := 1) hx hb htg hin_Wa t_Wa t_Wa_ok hown (htg _ k_52) (htg _ k_53) (htg _ k_4) hK hP hD hS hA rfl (fun j hj => by rcases (show j = 0 by omega) with rfl <;> rfl) (by omega) (by omega) d_De_init_27 (fun q_9 H hP hD hS => ?_)
  have hP : va_P (dC, dI) vwCl [(h0, .inr (6, [.int (iZ 0), .ref q_1, .ref q_5, .null, .null, .null, .int (iZ 0), .int (iZ 0), .int (iZ 0), .int (iZ 0)])), (q_1, .inr (4, [.ref q1_2])), (q1_2, .inl (cQ, 32, .inr (.inr (.inr (.inr (fun _ => none)))))), (q_5, .inr (2, [.ref q1_6, .int (iZ 0)])), (q1_6, .inl (cB, 600, .inl (fun j => iZ (Int.bmod ((fun _ => 0) j) 256)))), (q_9, .inr (5, [.null]))] H := hP
  have hD : va_D A [(h0, .inr (6, [.int (iZ 0), .ref q_1, .ref q_5, .null, .null, .null, .int (iZ 0), .int (iZ 0), .int (iZ 0), .int (iZ 0)])), (q_1, .inr (4, [.ref q1_2])), (q1_2, .inl (cQ, 32, .inr (.inr (.inr (.inr (fun _ => none)))))), (q_5, .inr (2, [.ref q1_6, .int (iZ 0)])), (q1_6, .inl (cB, 600, .inl (fun j => iZ (Int.bmod ((fun _ => 0) j) 256)))), (q_9, .inr (5, [.null]))] := hD
  refine lv_dup hx hb d_De_init_30 rfl ?_
  refine zx_v (wr := [(h0, .inr (6, [.int (iZ 0), .ref q_1, .ref q_5, .null, .null, .null, .int (iZ 0), .int (iZ 0), .int (iZ 0), .int (iZ 0)])), (q_1, .inr (4, [.ref q1_2])), (q1_2, .inl (cQ, 32, .inr (.inr (.inr (.inr (fun _ => none)))))), (q_5, .inr (2, [.ref q1_6, .int (iZ 0)])), (q1_6, .inl (cB, 600, .inl (fun j => iZ (Int.bmod ((fun _ => 0) j) 256))))]) (va_runIN (As := []) (rest := [.ref q_9, .ref h0]) ⟨hx, hb, hml, hown, htg⟩ (c_Wa_init l dC dI cB cI cJ cZ cQ q_9 H.size) ⟨va_cnB 0 htg (gw_I k_56) rfl rfl rfl (hZ.1 (.methodLinkNest "LogDesk" 25 y_Wa_init "LogDesk") (by simp [nzW])) (htg _ k_4) (by decide +kernel) ⟨Nat.le_of_ble_eq_true rfl, Nat.le_of_ble_eq_true rfl⟩, rfl, htg _ k_55⟩ (zPreS hK hP hD hZ [5] rfl (by decide)) rfl rfl hl.1 rfl (lv_room (Nat.le_of_ble_eq_true rfl)) d_De_init_31 ⟨by omega, by omega⟩) hP hD hS hA [5] [0, 1, 2, 3, 4] rfl rfl (by decide) (by decide) (fun uu_12 hq_11 H locs hP hD hS => ?_)
  obtain ⟨q1_10, rfl⟩ : ∃ z, z = uu_12 := ⟨_, rfl⟩
  try dsimp only at hq_11
  have hP : va_P (dC, dI) vwCl [(h0, .inr (6, [.int (iZ 0), .ref q_1, .ref q_5, .null, .null, .null, .int (iZ 0), .int (iZ 0), .int (iZ 0), .int (iZ 0)])), (q_1, .inr (4, [.ref q1_2])), (q1_2, .inl (cQ, 32, .inr (.inr (.inr (.inr (fun _ => none)))))), (q_5, .inr (2, [.ref q1_6, .int (iZ 0)])), (q1_6, .inl (cB, 600, .inl (fun j => iZ (Int.bmod ((fun _ => 0) j) 256)))), (q_9, .inr (5, [.ref q1_10])), (q1_10, .inl (cI, 6, .inl (fun j => iZ ((fun _ => 0) j))))] H := hP
  have hD : va_D A [(h0, .inr (6, [.int (iZ 0), .ref q_1, .ref q_5, .null, .null, .null, .int (iZ 0), .int (iZ 0), .int (iZ 0), .int (iZ 0)])), (q_1, .inr (4, [.ref q1_2])), (q1_2, .inl (cQ, 32, .inr (.inr (.inr (.inr (fun _ => none)))))), (q_5, .inr (2, [.ref q1_6, .int (iZ 0)])), (q1_6, .inl (cB, 600, .inl (fun j => iZ (Int.bmod ((fun _ => 0) j) 256)))), (q_9, .inr (5, [.ref q1_10])), (q1_10, .inl (cI, 6, .inl (fun j => iZ ((fun _ => 0) j))))] := hD
  refine va_putF (D := (dC, dI)) (ci := 6) (v := .ref q_9) (ty := t_De 3) (C := "LogDesk") (T := F_De) (N := 10) hx hb htg hin_De t_De t_De_ok n_De hown hK hP hD hS 0 rfl rfl 3 (by decide) (htg _ k_93) (fun _ h9 => h9) rfl hin rfl (by decide +kernel) rfl rfl (Nat.le_of_ble_eq_true rfl) d_De_init_34 (fun H locs hP hD hS => ?_)
  have hP : va_P (dC, dI) vwCl [(h0, .inr (6, [.int (iZ 0), .ref q_1, .ref q_5, .ref q_9, .null, .null, .int (iZ 0), .int (iZ 0), .int (iZ 0), .int (iZ 0)])), (q_1, .inr (4, [.ref q1_2])), (q1_2, .inl (cQ, 32, .inr (.inr (.inr (.inr (fun _ => none)))))), (q_5, .inr (2, [.ref q1_6, .int (iZ 0)])), (q1_6, .inl (cB, 600, .inl (fun j => iZ (Int.bmod ((fun _ => 0) j) 256)))), (q_9, .inr (5, [.ref q1_10])), (q1_10, .inl (cI, 6, .inl (fun j => iZ ((fun _ => 0) j))))] H := hP
  have hD : va_D A [(h0, .inr (6, [.int (iZ 0), .ref q_1, .ref q_5, .ref q_9, .null, .null, .int (iZ 0), .int (iZ 0), .int (iZ 0), .int (iZ 0)])), (q_1, .inr (4, [.ref q1_2])), (q1_2, .inl (cQ, 32, .inr (.inr (.inr (.inr (fun _ => none)))))), (q_5, .inr (2, [.ref q1_6, .int (iZ 0)])), (q1_6, .inl (cB, 600, .inl (fun j => iZ (Int.bmod ((fun _ => 0) j) 256)))), (q_9, .inr (5, [.ref q1_10])), (q1_10, .inl (cI, 6, .inl (fun j => iZ ((fun _ => 0) j))))] := hD
  refine lv_aload_n hx hb d_De_init_37 rfl (lv_at hl 0 rfl) ?_
  refine va_new (ci := 3) (fs := [.null, .int (iZ 0)]) (C := "LogDesk$Pages") (T := F_Pa) (N := 2) hx hb htg hin_Pa t_Pa t_Pa_ok hown (htg _ k_63) (htg _ k_64) (htg _ k_5) hK hP hD hS hA rfl (fun j hj => by rcases (show j = 0 ∨ j = 1 by omega) with rfl | rfl <;> rfl) (by omega) (by omega) d_De_init_38 (fun q_13 H hP hD hS => ?_)
  have hP : va_P (dC, dI) vwCl [(h0, .inr (6, [.int (iZ 0), .ref q_1, .ref q_5, .ref q_9, .null, .null, .int (iZ 0), .int (iZ 0), .int (iZ 0), .int (iZ 0)])), (q_1, .inr (4, [.ref q1_2])), (q1_2, .inl (cQ, 32, .inr (.inr (.inr (.inr (fun _ => none)))))), (q_5, .inr (2, [.ref q1_6, .int (iZ 0)])), (q1_6, .inl (cB, 600, .inl (fun j => iZ (Int.bmod ((fun _ => 0) j) 256)))), (q_9, .inr (5, [.ref q1_10])), (q1_10, .inl (cI, 6, .inl (fun j => iZ ((fun _ => 0) j)))), (q_13, .inr (3, [.null, .int (iZ 0)]))] H := hP
  have hD : va_D A [(h0, .inr (6, [.int (iZ 0), .ref q_1, .ref q_5, .ref q_9, .null, .null, .int (iZ 0), .int (iZ 0), .int (iZ 0), .int (iZ 0)])), (q_1, .inr (4, [.ref q1_2])), (q1_2, .inl (cQ, 32, .inr (.inr (.inr (.inr (fun _ => none)))))), (q_5, .inr (2, [.ref q1_6, .int (iZ 0)])), (q1_6, .inl (cB, 600, .inl (fun j => iZ (Int.bmod ((fun _ => 0) j) 256)))), (q_9, .inr (5, [.ref q1_10])), (q1_10, .inl (cI, 6, .inl (fun j => iZ ((fun _ => 0) j)))), (q_13, .inr (3, [.null, .int (iZ 0)]))] := hD
  refine lv_dup hx hb d_De_init_41 rfl ?_
  refine zx_v (wr := [(h0, .inr (6, [.int (iZ 0), .ref q_1, .ref q_5, .ref q_9, .null, .null, .int (iZ 0), .int (iZ 0), .int (iZ 0), .int (iZ 0)])), (q_1, .inr (4, [.ref q1_2])), (q1_2, .inl (cQ, 32, .inr (.inr (.inr (.inr (fun _ => none)))))), (q_5, .inr (2, [.ref q1_6, .int (iZ 0)])), (q1_6, .inl (cB, 600, .inl (fun j => iZ (Int.bmod ((fun _ => 0) j) 256)))), (q_9, .inr (5, [.ref q1_10])), (q1_10, .inl (cI, 6, .inl (fun j => iZ ((fun _ => 0) j))))]) (va_runIN (As := []) (rest := [.ref q_13, .ref h0]) ⟨hx, hb, hml, hown, htg⟩ (c_Pa_init l dC dI cB cI cJ cZ cQ q_13 H.size) ⟨va_cnB 0 htg (gw_I k_67) rfl rfl rfl (hZ.1 (.methodLinkNest "LogDesk" 32 y_Pa_init "LogDesk") (by simp [nzW])) (htg _ k_5) (by decide +kernel) ⟨Nat.le_of_ble_eq_true rfl, Nat.le_of_ble_eq_true rfl⟩, rfl, htg _ k_66⟩ (zPreS hK hP hD hZ [7] rfl (by decide)) rfl rfl hl.1 rfl (lv_room (Nat.le_of_ble_eq_true rfl)) d_De_init_42 ⟨by omega, by omega⟩) hP hD hS hA [7] [0, 1, 2, 3, 4, 5, 6] rfl rfl (by decide) (by decide) (fun uu_16 hq_15 H locs hP hD hS => ?_)
  obtain ⟨q1_14, rfl⟩ : ∃ z, z = uu_16 := ⟨_, rfl⟩
  try dsimp only at hq_15
  have hP : va_P (dC, dI) vwCl [(h0, .inr (6, [.int (iZ 0), .ref q_1, .ref q_5, .ref q_9, .null, .null, .int (iZ 0), .int (iZ 0), .int (iZ 0), .int (iZ 0)])), (q_1, .inr (4, [.ref q1_2])), (q1_2, .inl (cQ, 32, .inr (.inr (.inr (.inr (fun _ => none)))))), (q_5, .inr (2, [.ref q1_6, .int (iZ 0)])), (q1_6, .inl (cB, 600, .inl (fun j => iZ (Int.bmod ((fun _ => 0) j) 256)))), (q_9, .inr (5, [.ref q1_10])), (q1_10, .inl (cI, 6, .inl (fun j => iZ ((fun _ => 0) j)))), (q_13, .inr (3, [.ref q1_14, .int (iZ 0)])), (q1_14, .inl (cJ, 32, .inr (.inl (fun _ => 0))))] H := hP
  have hD : va_D A [(h0, .inr (6, [.int (iZ 0), .ref q_1, .ref q_5, .ref q_9, .null, .null, .int (iZ 0), .int (iZ 0), .int (iZ 0), .int (iZ 0)])), (q_1, .inr (4, [.ref q1_2])), (q1_2, .inl (cQ, 32, .inr (.inr (.inr (.inr (fun _ => none)))))), (q_5, .inr (2, [.ref q1_6, .int (iZ 0)])), (q1_6, .inl (cB, 600, .inl (fun j => iZ (Int.bmod ((fun _ => 0) j) 256)))), (q_9, .inr (5, [.ref q1_10])), (q1_10, .inl (cI, 6, .inl (fun j => iZ ((fun _ => 0) j)))), (q_13, .inr (3, [.ref q1_14, .int (iZ 0)])), (q1_14, .inl (cJ, 32, .inr (.inl (fun _ => 0))))] := hD
  refine va_putF (D := (dC, dI)) (ci := 6) (v := .ref q_13) (ty := t_De 4) (C := "LogDesk") (T := F_De) (N := 10) hx hb htg hin_De t_De t_De_ok n_De hown hK hP hD hS 0 rfl rfl 4 (by decide) (htg _ k_94) (fun _ h9 => h9) rfl hin rfl (by decide +kernel) rfl rfl (Nat.le_of_ble_eq_true rfl) d_De_init_45 (fun H locs hP hD hS => ?_)
  have hP : va_P (dC, dI) vwCl [(h0, .inr (6, [.int (iZ 0), .ref q_1, .ref q_5, .ref q_9, .ref q_13, .null, .int (iZ 0), .int (iZ 0), .int (iZ 0), .int (iZ 0)])), (q_1, .inr (4, [.ref q1_2])), (q1_2, .inl (cQ, 32, .inr (.inr (.inr (.inr (fun _ => none)))))), (q_5, .inr (2, [.ref q1_6, .int (iZ 0)])), (q1_6, .inl (cB, 600, .inl (fun j => iZ (Int.bmod ((fun _ => 0) j) 256)))), (q_9, .inr (5, [.ref q1_10])), (q1_10, .inl (cI, 6, .inl (fun j => iZ ((fun _ => 0) j)))), (q_13, .inr (3, [.ref q1_14, .int (iZ 0)])), (q1_14, .inl (cJ, 32, .inr (.inl (fun _ => 0))))] H := hP
  have hD : va_D A [(h0, .inr (6, [.int (iZ 0), .ref q_1, .ref q_5, .ref q_9, .ref q_13, .null, .int (iZ 0), .int (iZ 0), .int (iZ 0), .int (iZ 0)])), (q_1, .inr (4, [.ref q1_2])), (q1_2, .inl (cQ, 32, .inr (.inr (.inr (.inr (fun _ => none)))))), (q_5, .inr (2, [.ref q1_6, .int (iZ 0)])), (q1_6, .inl (cB, 600, .inl (fun j => iZ (Int.bmod ((fun _ => 0) j) 256)))), (q_9, .inr (5, [.ref q1_10])), (q1_10, .inl (cI, 6, .inl (fun j => iZ ((fun _ => 0) j)))), (q_13, .inr (3, [.ref q1_14, .int (iZ 0)])), (q1_14, .inl (cJ, 32, .inr (.inl (fun _ => 0))))] := hD
  refine lv_aload_n hx hb d_De_init_48 rfl (lv_at hl 0 rfl) ?_
  refine va_new (ci := 1) (fs := [.int (iZ 0), .int (iZ 0)]) (C := "LogDesk$Disk") (T := F_Di) (N := 2) hx hb htg hin_Di t_Di t_Di_ok hown (htg _ k_77) (htg _ k_78) (htg _ k_6) hK hP hD hS hA rfl (fun j hj => by rcases (show j = 0 ∨ j = 1 by omega) with rfl | rfl <;> rfl) (by omega) (by omega) d_De_init_49 (fun q_17 H hP hD hS => ?_)
  have hP : va_P (dC, dI) vwCl [(h0, .inr (6, [.int (iZ 0), .ref q_1, .ref q_5, .ref q_9, .ref q_13, .null, .int (iZ 0), .int (iZ 0), .int (iZ 0), .int (iZ 0)])), (q_1, .inr (4, [.ref q1_2])), (q1_2, .inl (cQ, 32, .inr (.inr (.inr (.inr (fun _ => none)))))), (q_5, .inr (2, [.ref q1_6, .int (iZ 0)])), (q1_6, .inl (cB, 600, .inl (fun j => iZ (Int.bmod ((fun _ => 0) j) 256)))), (q_9, .inr (5, [.ref q1_10])), (q1_10, .inl (cI, 6, .inl (fun j => iZ ((fun _ => 0) j)))), (q_13, .inr (3, [.ref q1_14, .int (iZ 0)])), (q1_14, .inl (cJ, 32, .inr (.inl (fun _ => 0)))), (q_17, .inr (1, [.int (iZ 0), .int (iZ 0)]))] H := hP
  have hD : va_D A [(h0, .inr (6, [.int (iZ 0), .ref q_1, .ref q_5, .ref q_9, .ref q_13, .null, .int (iZ 0), .int (iZ 0), .int (iZ 0), .int (iZ 0)])), (q_1, .inr (4, [.ref q1_2])), (q1_2, .inl (cQ, 32, .inr (.inr (.inr (.inr (fun _ => none)))))), (q_5, .inr (2, [.ref q1_6, .int (iZ 0)])), (q1_6, .inl (cB, 600, .inl (fun j => iZ (Int.bmod ((fun _ => 0) j) 256)))), (q_9, .inr (5, [.ref q1_10])), (q1_10, .inl (cI, 6, .inl (fun j => iZ ((fun _ => 0) j)))), (q_13, .inr (3, [.ref q1_14, .int (iZ 0)])), (q1_14, .inl (cJ, 32, .inr (.inl (fun _ => 0)))), (q_17, .inr (1, [.int (iZ 0), .int (iZ 0)]))] := hD
  refine lv_dup hx hb d_De_init_52 rfl ?_
  refine z_v (wr := [(h0, .inr (6, [.int (iZ 0), .ref q_1, .ref q_5, .ref q_9, .ref q_13, .null, .int (iZ 0), .int (iZ 0), .int (iZ 0), .int (iZ 0)])), (q_1, .inr (4, [.ref q1_2])), (q1_2, .inl (cQ, 32, .inr (.inr (.inr (.inr (fun _ => none)))))), (q_5, .inr (2, [.ref q1_6, .int (iZ 0)])), (q1_6, .inl (cB, 600, .inl (fun j => iZ (Int.bmod ((fun _ => 0) j) 256)))), (q_9, .inr (5, [.ref q1_10])), (q1_10, .inl (cI, 6, .inl (fun j => iZ ((fun _ => 0) j)))), (q_13, .inr (3, [.ref q1_14, .int (iZ 0)])), (q1_14, .inl (cJ, 32, .inr (.inl (fun _ => 0))))]) (va_runIN (As := []) (rest := [.ref q_17, .ref h0]) ⟨hx, hb, hml, hown, htg⟩ (c_Di_init l dC dI cB cI cJ cZ cQ q_17 H.size) ⟨va_cnB 0 htg (gw_I k_81) rfl rfl rfl (hZ.1 (.methodLinkNest "LogDesk" 39 y_Di_init "LogDesk") (by simp [nzW])) (htg _ k_6) (by decide +kernel) ⟨Nat.le_of_ble_eq_true rfl, Nat.le_of_ble_eq_true rfl⟩, rfl, htg _ k_80⟩ (zPreS hK hP hD hZ [9] rfl (by decide)) rfl rfl hl.1 rfl (lv_room (Nat.le_of_ble_eq_true rfl)) d_De_init_53 ⟨by omega, by omega⟩) hP hD hS hA [9] [0, 1, 2, 3, 4, 5, 6, 7, 8] rfl rfl (by decide) (by decide) (fun H locs hP hD hS => ?_)
  have hP : va_P (dC, dI) vwCl [(h0, .inr (6, [.int (iZ 0), .ref q_1, .ref q_5, .ref q_9, .ref q_13, .null, .int (iZ 0), .int (iZ 0), .int (iZ 0), .int (iZ 0)])), (q_1, .inr (4, [.ref q1_2])), (q1_2, .inl (cQ, 32, .inr (.inr (.inr (.inr (fun _ => none)))))), (q_5, .inr (2, [.ref q1_6, .int (iZ 0)])), (q1_6, .inl (cB, 600, .inl (fun j => iZ (Int.bmod ((fun _ => 0) j) 256)))), (q_9, .inr (5, [.ref q1_10])), (q1_10, .inl (cI, 6, .inl (fun j => iZ ((fun _ => 0) j)))), (q_13, .inr (3, [.ref q1_14, .int (iZ 0)])), (q1_14, .inl (cJ, 32, .inr (.inl (fun _ => 0)))), (q_17, .inr (1, [.int (iZ 0), .int (iZ (-1))]))] H := hP
  have hD : va_D A [(h0, .inr (6, [.int (iZ 0), .ref q_1, .ref q_5, .ref q_9, .ref q_13, .null, .int (iZ 0), .int (iZ 0), .int (iZ 0), .int (iZ 0)])), (q_1, .inr (4, [.ref q1_2])), (q1_2, .inl (cQ, 32, .inr (.inr (.inr (.inr (fun _ => none)))))), (q_5, .inr (2, [.ref q1_6, .int (iZ 0)])), (q1_6, .inl (cB, 600, .inl (fun j => iZ (Int.bmod ((fun _ => 0) j) 256)))), (q_9, .inr (5, [.ref q1_10])), (q1_10, .inl (cI, 6, .inl (fun j => iZ ((fun _ => 0) j)))), (q_13, .inr (3, [.ref q1_14, .int (iZ 0)])), (q1_14, .inl (cJ, 32, .inr (.inl (fun _ => 0)))), (q_17, .inr (1, [.int (iZ 0), .int (iZ (-1))]))] := hD
  refine va_putF (D := (dC, dI)) (ci := 6) (v := .ref q_17) (ty := t_De 5) (C := "LogDesk") (T := F_De) (N := 10) hx hb htg hin_De t_De t_De_ok n_De hown hK hP hD hS 0 rfl rfl 5 (by decide) (htg _ k_95) (fun _ h9 => h9) rfl hin rfl (by decide +kernel) rfl rfl (Nat.le_of_ble_eq_true rfl) d_De_init_56 (fun H locs hP hD hS => ?_)
  have hP : va_P (dC, dI) vwCl [(h0, .inr (6, [.int (iZ 0), .ref q_1, .ref q_5, .ref q_9, .ref q_13, .ref q_17, .int (iZ 0), .int (iZ 0), .int (iZ 0), .int (iZ 0)])), (q_1, .inr (4, [.ref q1_2])), (q1_2, .inl (cQ, 32, .inr (.inr (.inr (.inr (fun _ => none)))))), (q_5, .inr (2, [.ref q1_6, .int (iZ 0)])), (q1_6, .inl (cB, 600, .inl (fun j => iZ (Int.bmod ((fun _ => 0) j) 256)))), (q_9, .inr (5, [.ref q1_10])), (q1_10, .inl (cI, 6, .inl (fun j => iZ ((fun _ => 0) j)))), (q_13, .inr (3, [.ref q1_14, .int (iZ 0)])), (q1_14, .inl (cJ, 32, .inr (.inl (fun _ => 0)))), (q_17, .inr (1, [.int (iZ 0), .int (iZ (-1))]))] H := hP
  have hD : va_D A [(h0, .inr (6, [.int (iZ 0), .ref q_1, .ref q_5, .ref q_9, .ref q_13, .ref q_17, .int (iZ 0), .int (iZ 0), .int (iZ 0), .int (iZ 0)])), (q_1, .inr (4, [.ref q1_2])), (q1_2, .inl (cQ, 32, .inr (.inr (.inr (.inr (fun _ => none)))))), (q_5, .inr (2, [.ref q1_6, .int (iZ 0)])), (q1_6, .inl (cB, 600, .inl (fun j => iZ (Int.bmod ((fun _ => 0) j) 256)))), (q_9, .inr (5, [.ref q1_10])), (q1_10, .inl (cI, 6, .inl (fun j => iZ ((fun _ => 0) j)))), (q_13, .inr (3, [.ref q1_14, .int (iZ 0)])), (q1_14, .inl (cJ, 32, .inr (.inl (fun _ => 0)))), (q_17, .inr (1, [.int (iZ 0), .int (iZ (-1))]))] := hD
  refine lv_aload_n hx hb d_De_init_59 rfl (lv_at hl 0 rfl) ?_
  refine lv_iload_n hx hb d_De_init_60 rfl (lv_at hl 1 rfl) ?_
  refine lv_iconst (v := iZ 3) hx hb d_De_init_61 rfl ?_
  refine zz_icmp_lt (tgt := 75) hx hb d_De_init_62 (by decide) ⟨by omega, by omega⟩ ⟨by omega, by omega⟩ (fun c_18 => ?_) (fun c_18 => ?_)
  · refine lv_bipush (v := iZ 32) hx hb d_De_init_75 (by decide) ?_
    refine va_putF (D := (dC, dI)) (ci := 6) (v := .int (iZ 32)) (ty := t_De 0) (C := "LogDesk") (T := F_De) (N := 10) hx hb htg hin_De t_De t_De_ok n_De hown hK hP hD hS 0 rfl rfl 0 (by decide) (htg _ k_90) (fun _ h9 => h9) rfl hin rfl (by decide +kernel) rfl rfl (Nat.le_of_ble_eq_true rfl) d_De_init_77 (fun H locs hP hD hS => ?_)
    have hP : va_P (dC, dI) vwCl [(h0, .inr (6, [.int (iZ 32), .ref q_1, .ref q_5, .ref q_9, .ref q_13, .ref q_17, .int (iZ 0), .int (iZ 0), .int (iZ 0), .int (iZ 0)])), (q_1, .inr (4, [.ref q1_2])), (q1_2, .inl (cQ, 32, .inr (.inr (.inr (.inr (fun _ => none)))))), (q_5, .inr (2, [.ref q1_6, .int (iZ 0)])), (q1_6, .inl (cB, 600, .inl (fun j => iZ (Int.bmod ((fun _ => 0) j) 256)))), (q_9, .inr (5, [.ref q1_10])), (q1_10, .inl (cI, 6, .inl (fun j => iZ ((fun _ => 0) j)))), (q_13, .inr (3, [.ref q1_14, .int (iZ 0)])), (q1_14, .inl (cJ, 32, .inr (.inl (fun _ => 0)))), (q_17, .inr (1, [.int (iZ 0), .int (iZ (-1))]))] H := hP
    have hD : va_D A [(h0, .inr (6, [.int (iZ 32), .ref q_1, .ref q_5, .ref q_9, .ref q_13, .ref q_17, .int (iZ 0), .int (iZ 0), .int (iZ 0), .int (iZ 0)])), (q_1, .inr (4, [.ref q1_2])), (q1_2, .inl (cQ, 32, .inr (.inr (.inr (.inr (fun _ => none)))))), (q_5, .inr (2, [.ref q1_6, .int (iZ 0)])), (q1_6, .inl (cB, 600, .inl (fun j => iZ (Int.bmod ((fun _ => 0) j) 256)))), (q_9, .inr (5, [.ref q1_10])), (q1_10, .inl (cI, 6, .inl (fun j => iZ ((fun _ => 0) j)))), (q_13, .inr (3, [.ref q1_14, .int (iZ 0)])), (q1_14, .inl (cJ, 32, .inr (.inl (fun _ => 0)))), (q_17, .inr (1, [.int (iZ 0), .int (iZ (-1))]))] := hD
    refine lv_aload_n hx hb d_De_init_80 rfl (lv_at hl 0 rfl) ?_
    refine lv_iconst (v := iZ (-1)) hx hb d_De_init_81 rfl ?_
    refine va_put (D := (dC, dI)) (ci := 6) (v := .int (iZ (-1))) (ty := t_De 9) (C := "LogDesk") (T := F_De) (N := 10) hx hb htg hin_De t_De t_De_ok n_De hown hK hP hD hS 0 rfl rfl 9 (by decide) (htg _ k_99) (fun _ h9 => h9) rfl (by decide +kernel) rfl rfl (Nat.le_of_ble_eq_true rfl) d_De_init_82 (fun H locs hP hD hS => ?_)
    have hP : va_P (dC, dI) vwCl [(h0, .inr (6, [.int (iZ 32), .ref q_1, .ref q_5, .ref q_9, .ref q_13, .ref q_17, .int (iZ 0), .int (iZ 0), .int (iZ 0), .int (iZ (-1))])), (q_1, .inr (4, [.ref q1_2])), (q1_2, .inl (cQ, 32, .inr (.inr (.inr (.inr (fun _ => none)))))), (q_5, .inr (2, [.ref q1_6, .int (iZ 0)])), (q1_6, .inl (cB, 600, .inl (fun j => iZ (Int.bmod ((fun _ => 0) j) 256)))), (q_9, .inr (5, [.ref q1_10])), (q1_10, .inl (cI, 6, .inl (fun j => iZ ((fun _ => 0) j)))), (q_13, .inr (3, [.ref q1_14, .int (iZ 0)])), (q1_14, .inl (cJ, 32, .inr (.inl (fun _ => 0)))), (q_17, .inr (1, [.int (iZ 0), .int (iZ (-1))]))] H := hP
    have hD : va_D A [(h0, .inr (6, [.int (iZ 32), .ref q_1, .ref q_5, .ref q_9, .ref q_13, .ref q_17, .int (iZ 0), .int (iZ 0), .int (iZ 0), .int (iZ (-1))])), (q_1, .inr (4, [.ref q1_2])), (q1_2, .inl (cQ, 32, .inr (.inr (.inr (.inr (fun _ => none)))))), (q_5, .inr (2, [.ref q1_6, .int (iZ 0)])), (q1_6, .inl (cB, 600, .inl (fun j => iZ (Int.bmod ((fun _ => 0) j) 256)))), (q_9, .inr (5, [.ref q1_10])), (q1_10, .inl (cI, 6, .inl (fun j => iZ ((fun _ => 0) j)))), (q_13, .inr (3, [.ref q1_14, .int (iZ 0)])), (q1_14, .inl (cJ, 32, .inr (.inl (fun _ => 0)))), (q_17, .inr (1, [.int (iZ 0), .int (iZ (-1))]))] := hD
    have eW : ∀ (x0 y0 : Int), x0 = y0 → ([(h0, .inr (6, [.int (iZ x0), .ref q_1, .ref q_5, .ref q_9, .ref q_13, .ref q_17, .int (iZ 0), .int (iZ 0), .int (iZ 0), .int (iZ (-1))])), (q_1, .inr (4, [.ref q1_2])), (q1_2, .inl (cQ, 32, .inr (.inr (.inr (.inr (fun _ => none)))))), (q_5, .inr (2, [.ref q1_6, .int (iZ 0)])), (q1_6, .inl (cB, 600, .inl (fun j => iZ (Int.bmod ((fun _ => 0) j) 256)))), (q_9, .inr (5, [.ref q1_10])), (q1_10, .inl (cI, 6, .inl (fun j => iZ ((fun _ => 0) j)))), (q_13, .inr (3, [.ref q1_14, .int (iZ 0)])), (q1_14, .inl (cJ, 32, .inr (.inl (fun _ => 0)))), (q_17, .inr (1, [.int (iZ 0), .int (iZ (-1))]))] : va_W) = [(h0, .inr (6, [.int (iZ y0), .ref q_1, .ref q_5, .ref q_9, .ref q_13, .ref q_17, .int (iZ 0), .int (iZ 0), .int (iZ 0), .int (iZ (-1))])), (q_1, .inr (4, [.ref q1_2])), (q1_2, .inl (cQ, 32, .inr (.inr (.inr (.inr (fun _ => none)))))), (q_5, .inr (2, [.ref q1_6, .int (iZ 0)])), (q1_6, .inl (cB, 600, .inl (fun j => iZ (Int.bmod ((fun _ => 0) j) 256)))), (q_9, .inr (5, [.ref q1_10])), (q1_10, .inl (cI, 6, .inl (fun j => iZ ((fun _ => 0) j)))), (q_13, .inr (3, [.ref q1_14, .int (iZ 0)])), (q1_14, .inl (cJ, 32, .inr (.inl (fun _ => 0)))), (q_17, .inr (1, [.int (iZ 0), .int (iZ (-1))]))] := by intros; subst_vars; rfl
    have eW := eW 32 (if 3 ≤ x ∧ x ≤ 32 then x else 32) (by omega)
    have hP : va_P (dC, dI) vwCl [(h0, .inr (6, [.int (iZ (if 3 ≤ x ∧ x ≤ 32 then x else 32)), .ref q_1, .ref q_5, .ref q_9, .ref q_13, .ref q_17, .int (iZ 0), .int (iZ 0), .int (iZ 0), .int (iZ (-1))])), (q_1, .inr (4, [.ref q1_2])), (q1_2, .inl (cQ, 32, .inr (.inr (.inr (.inr (fun _ => none)))))), (q_5, .inr (2, [.ref q1_6, .int (iZ 0)])), (q1_6, .inl (cB, 600, .inl (fun j => iZ (Int.bmod ((fun _ => 0) j) 256)))), (q_9, .inr (5, [.ref q1_10])), (q1_10, .inl (cI, 6, .inl (fun j => iZ ((fun _ => 0) j)))), (q_13, .inr (3, [.ref q1_14, .int (iZ 0)])), (q1_14, .inl (cJ, 32, .inr (.inl (fun _ => 0)))), (q_17, .inr (1, [.int (iZ 0), .int (iZ (-1))]))] H := eW ▸ hP
    have hD : va_D A [(h0, .inr (6, [.int (iZ (if 3 ≤ x ∧ x ≤ 32 then x else 32)), .ref q_1, .ref q_5, .ref q_9, .ref q_13, .ref q_17, .int (iZ 0), .int (iZ 0), .int (iZ 0), .int (iZ (-1))])), (q_1, .inr (4, [.ref q1_2])), (q1_2, .inl (cQ, 32, .inr (.inr (.inr (.inr (fun _ => none)))))), (q_5, .inr (2, [.ref q1_6, .int (iZ 0)])), (q1_6, .inl (cB, 600, .inl (fun j => iZ (Int.bmod ((fun _ => 0) j) 256)))), (q_9, .inr (5, [.ref q1_10])), (q1_10, .inl (cI, 6, .inl (fun j => iZ ((fun _ => 0) j)))), (q_13, .inr (3, [.ref q1_14, .int (iZ 0)])), (q1_14, .inl (cJ, 32, .inr (.inl (fun _ => 0)))), (q_17, .inr (1, [.int (iZ 0), .int (iZ (-1))]))] := eW ▸ hD
    refine W.widen (k := 9) (n := 678) (by omega) (by omega) ?_
    exact W.vret hx hb hr (fun t ht hW => ⟨⟨(q_1, q1_2, q_5, q1_6, q_9, q1_10, q_13, q1_14, q_17), rfl, trivial, by rw [ht]; exact hP, va_K.moved hW.alike hK, hAe ▸ hD⟩, hAe ▸ hS.F ht⟩) (hAe ▸ hS.2.2) d_De_init_85
  · refine lv_iload_n hx hb d_De_init_65 rfl (lv_at hl 1 rfl) ?_
    refine lv_bipush (v := iZ 32) hx hb d_De_init_66 (by decide) ?_
    refine zz_icmp_gt (tgt := 75) hx hb d_De_init_68 (by decide) ⟨by omega, by omega⟩ ⟨by omega, by omega⟩ (fun c_19 => ?_) (fun c_19 => ?_)
    · refine lv_bipush (v := iZ 32) hx hb d_De_init_75 (by decide) ?_
      refine va_putF (D := (dC, dI)) (ci := 6) (v := .int (iZ 32)) (ty := t_De 0) (C := "LogDesk") (T := F_De) (N := 10) hx hb htg hin_De t_De t_De_ok n_De hown hK hP hD hS 0 rfl rfl 0 (by decide) (htg _ k_90) (fun _ h9 => h9) rfl hin rfl (by decide +kernel) rfl rfl (Nat.le_of_ble_eq_true rfl) d_De_init_77 (fun H locs hP hD hS => ?_)
      have hP : va_P (dC, dI) vwCl [(h0, .inr (6, [.int (iZ 32), .ref q_1, .ref q_5, .ref q_9, .ref q_13, .ref q_17, .int (iZ 0), .int (iZ 0), .int (iZ 0), .int (iZ 0)])), (q_1, .inr (4, [.ref q1_2])), (q1_2, .inl (cQ, 32, .inr (.inr (.inr (.inr (fun _ => none)))))), (q_5, .inr (2, [.ref q1_6, .int (iZ 0)])), (q1_6, .inl (cB, 600, .inl (fun j => iZ (Int.bmod ((fun _ => 0) j) 256)))), (q_9, .inr (5, [.ref q1_10])), (q1_10, .inl (cI, 6, .inl (fun j => iZ ((fun _ => 0) j)))), (q_13, .inr (3, [.ref q1_14, .int (iZ 0)])), (q1_14, .inl (cJ, 32, .inr (.inl (fun _ => 0)))), (q_17, .inr (1, [.int (iZ 0), .int (iZ (-1))]))] H := hP
      have hD : va_D A [(h0, .inr (6, [.int (iZ 32), .ref q_1, .ref q_5, .ref q_9, .ref q_13, .ref q_17, .int (iZ 0), .int (iZ 0), .int (iZ 0), .int (iZ 0)])), (q_1, .inr (4, [.ref q1_2])), (q1_2, .inl (cQ, 32, .inr (.inr (.inr (.inr (fun _ => none)))))), (q_5, .inr (2, [.ref q1_6, .int (iZ 0)])), (q1_6, .inl (cB, 600, .inl (fun j => iZ (Int.bmod ((fun _ => 0) j) 256)))), (q_9, .inr (5, [.ref q1_10])), (q1_10, .inl (cI, 6, .inl (fun j => iZ ((fun _ => 0) j)))), (q_13, .inr (3, [.ref q1_14, .int (iZ 0)])), (q1_14, .inl (cJ, 32, .inr (.inl (fun _ => 0)))), (q_17, .inr (1, [.int (iZ 0), .int (iZ (-1))]))] := hD
      refine lv_aload_n hx hb d_De_init_80 rfl (lv_at hl 0 rfl) ?_
      refine lv_iconst (v := iZ (-1)) hx hb d_De_init_81 rfl ?_
      refine va_put (D := (dC, dI)) (ci := 6) (v := .int (iZ (-1))) (ty := t_De 9) (C := "LogDesk") (T := F_De) (N := 10) hx hb htg hin_De t_De t_De_ok n_De hown hK hP hD hS 0 rfl rfl 9 (by decide) (htg _ k_99) (fun _ h9 => h9) rfl (by decide +kernel) rfl rfl (Nat.le_of_ble_eq_true rfl) d_De_init_82 (fun H locs hP hD hS => ?_)
      have hP : va_P (dC, dI) vwCl [(h0, .inr (6, [.int (iZ 32), .ref q_1, .ref q_5, .ref q_9, .ref q_13, .ref q_17, .int (iZ 0), .int (iZ 0), .int (iZ 0), .int (iZ (-1))])), (q_1, .inr (4, [.ref q1_2])), (q1_2, .inl (cQ, 32, .inr (.inr (.inr (.inr (fun _ => none)))))), (q_5, .inr (2, [.ref q1_6, .int (iZ 0)])), (q1_6, .inl (cB, 600, .inl (fun j => iZ (Int.bmod ((fun _ => 0) j) 256)))), (q_9, .inr (5, [.ref q1_10])), (q1_10, .inl (cI, 6, .inl (fun j => iZ ((fun _ => 0) j)))), (q_13, .inr (3, [.ref q1_14, .int (iZ 0)])), (q1_14, .inl (cJ, 32, .inr (.inl (fun _ => 0)))), (q_17, .inr (1, [.int (iZ 0), .int (iZ (-1))]))] H := hP
      have hD : va_D A [(h0, .inr (6, [.int (iZ 32), .ref q_1, .ref q_5, .ref q_9, .ref q_13, .ref q_17, .int (iZ 0), .int (iZ 0), .int (iZ 0), .int (iZ (-1))])), (q_1, .inr (4, [.ref q1_2])), (q1_2, .inl (cQ, 32, .inr (.inr (.inr (.inr (fun _ => none)))))), (q_5, .inr (2, [.ref q1_6, .int (iZ 0)])), (q1_6, .inl (cB, 600, .inl (fun j => iZ (Int.bmod ((fun _ => 0) j) 256)))), (q_9, .inr (5, [.ref q1_10])), (q1_10, .inl (cI, 6, .inl (fun j => iZ ((fun _ => 0) j)))), (q_13, .inr (3, [.ref q1_14, .int (iZ 0)])), (q1_14, .inl (cJ, 32, .inr (.inl (fun _ => 0)))), (q_17, .inr (1, [.int (iZ 0), .int (iZ (-1))]))] := hD
      have eW : ∀ (x0 y0 : Int), x0 = y0 → ([(h0, .inr (6, [.int (iZ x0), .ref q_1, .ref q_5, .ref q_9, .ref q_13, .ref q_17, .int (iZ 0), .int (iZ 0), .int (iZ 0), .int (iZ (-1))])), (q_1, .inr (4, [.ref q1_2])), (q1_2, .inl (cQ, 32, .inr (.inr (.inr (.inr (fun _ => none)))))), (q_5, .inr (2, [.ref q1_6, .int (iZ 0)])), (q1_6, .inl (cB, 600, .inl (fun j => iZ (Int.bmod ((fun _ => 0) j) 256)))), (q_9, .inr (5, [.ref q1_10])), (q1_10, .inl (cI, 6, .inl (fun j => iZ ((fun _ => 0) j)))), (q_13, .inr (3, [.ref q1_14, .int (iZ 0)])), (q1_14, .inl (cJ, 32, .inr (.inl (fun _ => 0)))), (q_17, .inr (1, [.int (iZ 0), .int (iZ (-1))]))] : va_W) = [(h0, .inr (6, [.int (iZ y0), .ref q_1, .ref q_5, .ref q_9, .ref q_13, .ref q_17, .int (iZ 0), .int (iZ 0), .int (iZ 0), .int (iZ (-1))])), (q_1, .inr (4, [.ref q1_2])), (q1_2, .inl (cQ, 32, .inr (.inr (.inr (.inr (fun _ => none)))))), (q_5, .inr (2, [.ref q1_6, .int (iZ 0)])), (q1_6, .inl (cB, 600, .inl (fun j => iZ (Int.bmod ((fun _ => 0) j) 256)))), (q_9, .inr (5, [.ref q1_10])), (q1_10, .inl (cI, 6, .inl (fun j => iZ ((fun _ => 0) j)))), (q_13, .inr (3, [.ref q1_14, .int (iZ 0)])), (q1_14, .inl (cJ, 32, .inr (.inl (fun _ => 0)))), (q_17, .inr (1, [.int (iZ 0), .int (iZ (-1))]))] := by intros; subst_vars; rfl
      have eW := eW 32 (if 3 ≤ x ∧ x ≤ 32 then x else 32) (by omega)
      have hP : va_P (dC, dI) vwCl [(h0, .inr (6, [.int (iZ (if 3 ≤ x ∧ x ≤ 32 then x else 32)), .ref q_1, .ref q_5, .ref q_9, .ref q_13, .ref q_17, .int (iZ 0), .int (iZ 0), .int (iZ 0), .int (iZ (-1))])), (q_1, .inr (4, [.ref q1_2])), (q1_2, .inl (cQ, 32, .inr (.inr (.inr (.inr (fun _ => none)))))), (q_5, .inr (2, [.ref q1_6, .int (iZ 0)])), (q1_6, .inl (cB, 600, .inl (fun j => iZ (Int.bmod ((fun _ => 0) j) 256)))), (q_9, .inr (5, [.ref q1_10])), (q1_10, .inl (cI, 6, .inl (fun j => iZ ((fun _ => 0) j)))), (q_13, .inr (3, [.ref q1_14, .int (iZ 0)])), (q1_14, .inl (cJ, 32, .inr (.inl (fun _ => 0)))), (q_17, .inr (1, [.int (iZ 0), .int (iZ (-1))]))] H := eW ▸ hP
      have hD : va_D A [(h0, .inr (6, [.int (iZ (if 3 ≤ x ∧ x ≤ 32 then x else 32)), .ref q_1, .ref q_5, .ref q_9, .ref q_13, .ref q_17, .int (iZ 0), .int (iZ 0), .int (iZ 0), .int (iZ (-1))])), (q_1, .inr (4, [.ref q1_2])), (q1_2, .inl (cQ, 32, .inr (.inr (.inr (.inr (fun _ => none)))))), (q_5, .inr (2, [.ref q1_6, .int (iZ 0)])), (q1_6, .inl (cB, 600, .inl (fun j => iZ (Int.bmod ((fun _ => 0) j) 256)))), (q_9, .inr (5, [.ref q1_10])), (q1_10, .inl (cI, 6, .inl (fun j => iZ ((fun _ => 0) j)))), (q_13, .inr (3, [.ref q1_14, .int (iZ 0)])), (q1_14, .inl (cJ, 32, .inr (.inl (fun _ => 0)))), (q_17, .inr (1, [.int (iZ 0), .int (iZ (-1))]))] := eW ▸ hD
      refine W.widen (k := 9) (n := 678) (by omega) (by omega) ?_
      exact W.vret hx hb hr (fun t ht hW => ⟨⟨(q_1, q1_2, q_5, q1_6, q_9, q1_10, q_13, q1_14, q_17), rfl, trivial, by rw [ht]; exact hP, va_K.moved hW.alike hK, hAe ▸ hD⟩, hAe ▸ hS.F ht⟩) (hAe ▸ hS.2.2) d_De_init_85
    · refine lv_iload_n hx hb d_De_init_71 rfl (lv_at hl 1 rfl) ?_
      refine lv_goto (tgt := 77) hx hb d_De_init_72 (by decide) ?_
      refine va_putF (D := (dC, dI)) (ci := 6) (v := .int (iZ x)) (ty := t_De 0) (C := "LogDesk") (T := F_De) (N := 10) hx hb htg hin_De t_De t_De_ok n_De hown hK hP hD hS 0 rfl rfl 0 (by decide) (htg _ k_90) (fun _ h9 => h9) rfl hin rfl (by decide +kernel) rfl rfl (Nat.le_of_ble_eq_true rfl) d_De_init_77 (fun H locs hP hD hS => ?_)
      have hP : va_P (dC, dI) vwCl [(h0, .inr (6, [.int (iZ x), .ref q_1, .ref q_5, .ref q_9, .ref q_13, .ref q_17, .int (iZ 0), .int (iZ 0), .int (iZ 0), .int (iZ 0)])), (q_1, .inr (4, [.ref q1_2])), (q1_2, .inl (cQ, 32, .inr (.inr (.inr (.inr (fun _ => none)))))), (q_5, .inr (2, [.ref q1_6, .int (iZ 0)])), (q1_6, .inl (cB, 600, .inl (fun j => iZ (Int.bmod ((fun _ => 0) j) 256)))), (q_9, .inr (5, [.ref q1_10])), (q1_10, .inl (cI, 6, .inl (fun j => iZ ((fun _ => 0) j)))), (q_13, .inr (3, [.ref q1_14, .int (iZ 0)])), (q1_14, .inl (cJ, 32, .inr (.inl (fun _ => 0)))), (q_17, .inr (1, [.int (iZ 0), .int (iZ (-1))]))] H := hP
      have hD : va_D A [(h0, .inr (6, [.int (iZ x), .ref q_1, .ref q_5, .ref q_9, .ref q_13, .ref q_17, .int (iZ 0), .int (iZ 0), .int (iZ 0), .int (iZ 0)])), (q_1, .inr (4, [.ref q1_2])), (q1_2, .inl (cQ, 32, .inr (.inr (.inr (.inr (fun _ => none)))))), (q_5, .inr (2, [.ref q1_6, .int (iZ 0)])), (q1_6, .inl (cB, 600, .inl (fun j => iZ (Int.bmod ((fun _ => 0) j) 256)))), (q_9, .inr (5, [.ref q1_10])), (q1_10, .inl (cI, 6, .inl (fun j => iZ ((fun _ => 0) j)))), (q_13, .inr (3, [.ref q1_14, .int (iZ 0)])), (q1_14, .inl (cJ, 32, .inr (.inl (fun _ => 0)))), (q_17, .inr (1, [.int (iZ 0), .int (iZ (-1))]))] := hD
      refine lv_aload_n hx hb d_De_init_80 rfl (lv_at hl 0 rfl) ?_
      refine lv_iconst (v := iZ (-1)) hx hb d_De_init_81 rfl ?_
      refine va_put (D := (dC, dI)) (ci := 6) (v := .int (iZ (-1))) (ty := t_De 9) (C := "LogDesk") (T := F_De) (N := 10) hx hb htg hin_De t_De t_De_ok n_De hown hK hP hD hS 0 rfl rfl 9 (by decide) (htg _ k_99) (fun _ h9 => h9) rfl (by decide +kernel) rfl rfl (Nat.le_of_ble_eq_true rfl) d_De_init_82 (fun H locs hP hD hS => ?_)
      have hP : va_P (dC, dI) vwCl [(h0, .inr (6, [.int (iZ x), .ref q_1, .ref q_5, .ref q_9, .ref q_13, .ref q_17, .int (iZ 0), .int (iZ 0), .int (iZ 0), .int (iZ (-1))])), (q_1, .inr (4, [.ref q1_2])), (q1_2, .inl (cQ, 32, .inr (.inr (.inr (.inr (fun _ => none)))))), (q_5, .inr (2, [.ref q1_6, .int (iZ 0)])), (q1_6, .inl (cB, 600, .inl (fun j => iZ (Int.bmod ((fun _ => 0) j) 256)))), (q_9, .inr (5, [.ref q1_10])), (q1_10, .inl (cI, 6, .inl (fun j => iZ ((fun _ => 0) j)))), (q_13, .inr (3, [.ref q1_14, .int (iZ 0)])), (q1_14, .inl (cJ, 32, .inr (.inl (fun _ => 0)))), (q_17, .inr (1, [.int (iZ 0), .int (iZ (-1))]))] H := hP
      have hD : va_D A [(h0, .inr (6, [.int (iZ x), .ref q_1, .ref q_5, .ref q_9, .ref q_13, .ref q_17, .int (iZ 0), .int (iZ 0), .int (iZ 0), .int (iZ (-1))])), (q_1, .inr (4, [.ref q1_2])), (q1_2, .inl (cQ, 32, .inr (.inr (.inr (.inr (fun _ => none)))))), (q_5, .inr (2, [.ref q1_6, .int (iZ 0)])), (q1_6, .inl (cB, 600, .inl (fun j => iZ (Int.bmod ((fun _ => 0) j) 256)))), (q_9, .inr (5, [.ref q1_10])), (q1_10, .inl (cI, 6, .inl (fun j => iZ ((fun _ => 0) j)))), (q_13, .inr (3, [.ref q1_14, .int (iZ 0)])), (q1_14, .inl (cJ, 32, .inr (.inl (fun _ => 0)))), (q_17, .inr (1, [.int (iZ 0), .int (iZ (-1))]))] := hD
      have eW : ∀ (x0 y0 : Int), x0 = y0 → ([(h0, .inr (6, [.int (iZ x0), .ref q_1, .ref q_5, .ref q_9, .ref q_13, .ref q_17, .int (iZ 0), .int (iZ 0), .int (iZ 0), .int (iZ (-1))])), (q_1, .inr (4, [.ref q1_2])), (q1_2, .inl (cQ, 32, .inr (.inr (.inr (.inr (fun _ => none)))))), (q_5, .inr (2, [.ref q1_6, .int (iZ 0)])), (q1_6, .inl (cB, 600, .inl (fun j => iZ (Int.bmod ((fun _ => 0) j) 256)))), (q_9, .inr (5, [.ref q1_10])), (q1_10, .inl (cI, 6, .inl (fun j => iZ ((fun _ => 0) j)))), (q_13, .inr (3, [.ref q1_14, .int (iZ 0)])), (q1_14, .inl (cJ, 32, .inr (.inl (fun _ => 0)))), (q_17, .inr (1, [.int (iZ 0), .int (iZ (-1))]))] : va_W) = [(h0, .inr (6, [.int (iZ y0), .ref q_1, .ref q_5, .ref q_9, .ref q_13, .ref q_17, .int (iZ 0), .int (iZ 0), .int (iZ 0), .int (iZ (-1))])), (q_1, .inr (4, [.ref q1_2])), (q1_2, .inl (cQ, 32, .inr (.inr (.inr (.inr (fun _ => none)))))), (q_5, .inr (2, [.ref q1_6, .int (iZ 0)])), (q1_6, .inl (cB, 600, .inl (fun j => iZ (Int.bmod ((fun _ => 0) j) 256)))), (q_9, .inr (5, [.ref q1_10])), (q1_10, .inl (cI, 6, .inl (fun j => iZ ((fun _ => 0) j)))), (q_13, .inr (3, [.ref q1_14, .int (iZ 0)])), (q1_14, .inl (cJ, 32, .inr (.inl (fun _ => 0)))), (q_17, .inr (1, [.int (iZ 0), .int (iZ (-1))]))] := by intros; subst_vars; rfl
      have eW := eW x (if 3 ≤ x ∧ x ≤ 32 then x else 32) (by omega)
      have hP : va_P (dC, dI) vwCl [(h0, .inr (6, [.int (iZ (if 3 ≤ x ∧ x ≤ 32 then x else 32)), .ref q_1, .ref q_5, .ref q_9, .ref q_13, .ref q_17, .int (iZ 0), .int (iZ 0), .int (iZ 0), .int (iZ (-1))])), (q_1, .inr (4, [.ref q1_2])), (q1_2, .inl (cQ, 32, .inr (.inr (.inr (.inr (fun _ => none)))))), (q_5, .inr (2, [.ref q1_6, .int (iZ 0)])), (q1_6, .inl (cB, 600, .inl (fun j => iZ (Int.bmod ((fun _ => 0) j) 256)))), (q_9, .inr (5, [.ref q1_10])), (q1_10, .inl (cI, 6, .inl (fun j => iZ ((fun _ => 0) j)))), (q_13, .inr (3, [.ref q1_14, .int (iZ 0)])), (q1_14, .inl (cJ, 32, .inr (.inl (fun _ => 0)))), (q_17, .inr (1, [.int (iZ 0), .int (iZ (-1))]))] H := eW ▸ hP
      have hD : va_D A [(h0, .inr (6, [.int (iZ (if 3 ≤ x ∧ x ≤ 32 then x else 32)), .ref q_1, .ref q_5, .ref q_9, .ref q_13, .ref q_17, .int (iZ 0), .int (iZ 0), .int (iZ 0), .int (iZ (-1))])), (q_1, .inr (4, [.ref q1_2])), (q1_2, .inl (cQ, 32, .inr (.inr (.inr (.inr (fun _ => none)))))), (q_5, .inr (2, [.ref q1_6, .int (iZ 0)])), (q1_6, .inl (cB, 600, .inl (fun j => iZ (Int.bmod ((fun _ => 0) j) 256)))), (q_9, .inr (5, [.ref q1_10])), (q1_10, .inl (cI, 6, .inl (fun j => iZ ((fun _ => 0) j)))), (q_13, .inr (3, [.ref q1_14, .int (iZ 0)])), (q1_14, .inl (cJ, 32, .inr (.inl (fun _ => 0)))), (q_17, .inr (1, [.int (iZ 0), .int (iZ (-1))]))] := eW ▸ hD
      refine W.widen (k := 9) (n := 678) (by omega) (by omega) ?_
      exact W.vret hx hb hr (fun t ht hW => ⟨⟨(q_1, q1_2, q_5, q1_6, q_9, q1_10, q_13, q1_14, q_17), rfl, trivial, by rw [ht]; exact hP, va_K.moved hW.alike hK, hAe ▸ hD⟩, hAe ▸ hS.F ht⟩) (hAe ▸ hS.2.2) d_De_init_85
