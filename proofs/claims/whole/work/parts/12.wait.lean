set_option maxHeartbeats 4000000 in
set_option maxRecDepth 100000 in
theorem c_De_blockOf (l : Launch) (dC : Nat → ClassId) (dI : Nat → Nat → Nat) (cB : ClassId) (cI : ClassId) (cJ : ClassId) (cZ : ClassId) (cQ : ClassId) (sz : Nat) (x : Int) (hx0 : 0 ≤ x ∧ x < 2147483648) : Met l y_De_blockOf ((Cond.code y_De_blockOf prog_1_method_17_code 1 (some .int)) :: gw) ({ frames := 0, cells := 0, slots := 0, locals := 0 } : Room) (zPc (dC, dI) [(cB, .byte), (cI, .int), (cJ, .long), (cZ, .boolean), (cQ, .object "LogDesk$Block")] [.int (iZ x)] [] sz) (va_Qi (fun (r : Int32) (_ : Unit) => r = iZ (x / 500)) (zB (dC, dI) [(cB, .byte), (cI, .int), (cJ, .long), (cZ, .boolean), (cQ, .object "LogDesk$Block")] (va_A [] sz) []) (va_A [] sz)) 0 0 (va_A [] sz) := by
  refine Met.ofW (cc := prog_1_method_17_code) (maxL := 1) (ret := (some .int)) (by decide) rfl ?_
  intro p e s m args below meth c s₁ B hml hv
  obtain ⟨rfl, hsz, hP, hK, hD0, hZ⟩ := hv
  have hx := B.exec
  have hb := B.bytes
  have hr := B.returns
  have hts := atoms_spec (ws := (Cond.code y_De_blockOf prog_1_method_17_code 1 (some .int)) :: gw) B.pre
  have htg : ∀ w ∈ gw, w.before _ s = true := fun w h => hts w (List.mem_cons_of_mem _ h)
  have hown : s.vm.findClass "LogDesk" = some m.cls := findClass_of_methodNamed B.named
  have hlocks := B.notSynchronized
  subst hsz
  have hD := hD0.self (sz := s.heap.size)
  generalize hAe : va_A [] s.heap.size = A at hD ⊢
  have hRc : (headSpec ((Cond.code y_De_blockOf prog_1_method_17_code 1 (some .int)) :: gw) ({ frames := 0, cells := 0, slots := 0, locals := 0 } : Room)).room.cells = 0 := rfl
  have hRs : (headSpec ((Cond.code y_De_blockOf prog_1_method_17_code 1 (some .int)) :: gw) ({ frames := 0, cells := 0, slots := 0, locals := 0 } : Room)).room.slots = 0 := rfl
  have hA : ∀ q : Nat, s.heap.size ≤ q → A q := fun q h => by rw [← hAe]; exact Or.inr h
  have hS : va_S A s.heap s.heap [] := va_S.rf
  have hP : va_P (dC, dI) vwCl [] s.heap := hP
  have hl := lv_entry ([.int (iZ x)]) (n := 1) (Nat.le_of_ble_eq_true rfl)
  rw [lg_entry_eq]
  generalize (lg_sl ([.int (iZ x)]) ++ List.replicate (1 - (lg_sl ([.int (iZ x)])).length) Slot.unset).toArray = ls at hl ⊢
  have hl : lv_has ls 1 [(0, .int (iZ x))] := hl
  refine lv_iload_n hx hb d_De_blockOf_0 rfl (lv_at hl 0 rfl) ?_
  refine lv_sipush (v := iZ 500) hx hb d_De_blockOf_1 (by decide) ?_
  refine zz_idiv hx hb (by omega) (by omega) (by omega) (by omega) d_De_blockOf_4 ?_
  exact W.iret (v := (iZ (x / 500))) hx hb hr (fun t ht hW => ⟨⟨_, (), rfl, rfl, by rw [ht]; exact hP, va_K.moved hW.alike hK, hAe ▸ hD⟩, hAe ▸ hS.F ht⟩) (hAe ▸ hS.2.2) d_De_blockOf_5
set_option maxHeartbeats 4000000 in
set_option maxRecDepth 100000 in
theorem c_Wa_isSession (l : Launch) (dC : Nat → ClassId) (dI : Nat → Nat → Nat) (cB : ClassId) (cI : ClassId) (cJ : ClassId) (cZ : ClassId) (cQ : ClassId) (sz : Nat) (x : Int) (hx0 : iB x) : Met l y_Wa_isSession ((Cond.code y_Wa_isSession prog_7_method_2_code 1 (some .boolean)) :: gw) ({ frames := 0, cells := 0, slots := 0, locals := 0 } : Room) (zPc (dC, dI) [(cB, .byte), (cI, .int), (cJ, .long), (cZ, .boolean), (cQ, .object "LogDesk$Block")] [.int (iZ x)] [] sz) (va_Qi (fun (r : Int32) (_ : Unit) => r = iZ (if 0 ≤ x ∧ x < 6 then 1 else 0)) (zB (dC, dI) [(cB, .byte), (cI, .int), (cJ, .long), (cZ, .boolean), (cQ, .object "LogDesk$Block")] (va_A [] sz) []) (va_A [] sz)) 0 0 (va_A [] sz) := by
  refine Met.ofW (cc := prog_7_method_2_code) (maxL := 1) (ret := (some .boolean)) (by decide) rfl ?_
  intro p e s m args below meth c s₁ B hml hv
  obtain ⟨rfl, hsz, hP, hK, hD0, hZ⟩ := hv
  have hx := B.exec
  have hb := B.bytes
  have hr := B.returns
  have hts := atoms_spec (ws := (Cond.code y_Wa_isSession prog_7_method_2_code 1 (some .boolean)) :: gw) B.pre
  have htg : ∀ w ∈ gw, w.before _ s = true := fun w h => hts w (List.mem_cons_of_mem _ h)
  have hown : s.vm.findClass "LogDesk$Waiting" = some m.cls := findClass_of_methodNamed B.named
  have hlocks := B.notSynchronized
  subst hsz
  have hD := hD0.self (sz := s.heap.size)
  generalize hAe : va_A [] s.heap.size = A at hD ⊢
  have hRc : (headSpec ((Cond.code y_Wa_isSession prog_7_method_2_code 1 (some .boolean)) :: gw) ({ frames := 0, cells := 0, slots := 0, locals := 0 } : Room)).room.cells = 0 := rfl
  have hRs : (headSpec ((Cond.code y_Wa_isSession prog_7_method_2_code 1 (some .boolean)) :: gw) ({ frames := 0, cells := 0, slots := 0, locals := 0 } : Room)).room.slots = 0 := rfl
  have hA : ∀ q : Nat, s.heap.size ≤ q → A q := fun q h => by rw [← hAe]; exact Or.inr h
  have hS : va_S A s.heap s.heap [] := va_S.rf
  have hP : va_P (dC, dI) vwCl [] s.heap := hP
  have hl := lv_entry ([.int (iZ x)]) (n := 1) (Nat.le_of_ble_eq_true rfl)
  rw [lg_entry_eq]
  generalize (lg_sl ([.int (iZ x)]) ++ List.replicate (1 - (lg_sl ([.int (iZ x)])).length) Slot.unset).toArray = ls at hl ⊢
  have hl : lv_has ls 1 [(0, .int (iZ x))] := hl
  obtain ⟨hx1, hx2⟩ := hx0
  refine lv_iload_n hx hb d_Wa_isSession_0 rfl (lv_at hl 0 rfl) ?_
  refine zz_if_lt (tgt := 14) hx hb d_Wa_isSession_1 (by decide) ⟨by omega, by omega⟩ (fun c_1 => ?_) (fun c_1 => ?_)
  · refine lv_iconst (v := iZ 0) hx hb d_Wa_isSession_14 rfl ?_
    exact W.zret (v := (iZ 0)) hx hb hr rfl (fun t ht hW => ⟨⟨_, (), rfl, (congrArg iZ (by omega)), by rw [ht]; exact hP, va_K.moved hW.alike hK, hAe ▸ hD⟩, hAe ▸ hS.F ht⟩) (hAe ▸ hS.2.2) d_Wa_isSession_15
  · refine lv_iload_n hx hb d_Wa_isSession_4 rfl (lv_at hl 0 rfl) ?_
    refine lv_bipush (v := iZ 6) hx hb d_Wa_isSession_5 (by decide) ?_
    refine zz_icmp_ge (tgt := 14) hx hb d_Wa_isSession_7 (by decide) ⟨by omega, by omega⟩ ⟨by omega, by omega⟩ (fun c_2 => ?_) (fun c_2 => ?_)
    · refine lv_iconst (v := iZ 0) hx hb d_Wa_isSession_14 rfl ?_
      exact W.zret (v := (iZ 0)) hx hb hr rfl (fun t ht hW => ⟨⟨_, (), rfl, (congrArg iZ (by omega)), by rw [ht]; exact hP, va_K.moved hW.alike hK, hAe ▸ hD⟩, hAe ▸ hS.F ht⟩) (hAe ▸ hS.2.2) d_Wa_isSession_15
    · refine lv_iconst (v := iZ 1) hx hb d_Wa_isSession_10 rfl ?_
      refine lv_goto (tgt := 15) hx hb d_Wa_isSession_11 (by decide) ?_
      exact W.zret (v := (iZ 1)) hx hb hr rfl (fun t ht hW => ⟨⟨_, (), rfl, (congrArg iZ (by omega)), by rw [ht]; exact hP, va_K.moved hW.alike hK, hAe ▸ hD⟩, hAe ▸ hS.F ht⟩) (hAe ▸ hS.2.2) d_Wa_isSession_15
set_option maxHeartbeats 4000000 in
set_option maxRecDepth 100000 in
theorem c_Wa_has (l : Launch) (dC : Nat → ClassId) (dI : Nat → Nat → Nat) (cB : ClassId) (cI : ClassId) (cJ : ClassId) (cZ : ClassId) (cQ : ClassId) (h0 h1 : Nat) (sz : Nat) (g : Nat → Int) (x : Int) (hg : ∀ j : Nat, 0 ≤ g j ∧ g j < 1000000000) (hx0 : iB x) : Met l y_Wa_has ((Cond.code y_Wa_has prog_7_method_3_code 2 (some .boolean)) :: gw) ({ frames := 1, cells := 0, slots := 0, locals := 20 } : Room) (zPc (dC, dI) [(cB, .byte), (cI, .int), (cJ, .long), (cZ, .boolean), (cQ, .object "LogDesk$Block")] [.ref h0, .int (iZ x)] [(h0, .inr (5, [.ref h1])), (h1, .inl (cI, 6, .inl (fun j => iZ (g j))))] sz) (va_Qi (fun (r : Int32) (_ : Unit) => r = iZ (if (0 ≤ x ∧ x < 6) ∧ g x.toNat ≠ 0 then 1 else 0)) (zB (dC, dI) [(cB, .byte), (cI, .int), (cJ, .long), (cZ, .boolean), (cQ, .object "LogDesk$Block")] (va_A [(h0, .inr (5, [.ref h1])), (h1, .inl (cI, 6, .inl (fun j => iZ (g j))))] sz) [(h0, .inr (5, [.ref h1])), (h1, .inl (cI, 6, .inl (fun j => iZ (g j))))]) (va_A [(h0, .inr (5, [.ref h1])), (h1, .inl (cI, 6, .inl (fun j => iZ (g j))))] sz)) 0 0 (va_A [(h0, .inr (5, [.ref h1])), (h1, .inl (cI, 6, .inl (fun j => iZ (g j))))] sz) := by
  refine Met.ofW (cc := prog_7_method_3_code) (maxL := 2) (ret := (some .boolean)) (by decide) rfl ?_
  intro p e s m args below meth c s₁ B hml hv
  obtain ⟨rfl, hsz, hP, hK, hD0, hZ⟩ := hv
  have hx := B.exec
  have hb := B.bytes
  have hr := B.returns
  have hts := atoms_spec (ws := (Cond.code y_Wa_has prog_7_method_3_code 2 (some .boolean)) :: gw) B.pre
  have htg : ∀ w ∈ gw, w.before _ s = true := fun w h => hts w (List.mem_cons_of_mem _ h)
  have hown : s.vm.findClass "LogDesk$Waiting" = some m.cls := findClass_of_methodNamed B.named
  have hlocks := B.notSynchronized
  subst hsz
  have hD := hD0.self (sz := s.heap.size)
  generalize hAe : va_A [(h0, .inr (5, [.ref h1])), (h1, .inl (cI, 6, .inl (fun j => iZ (g j))))] s.heap.size = A at hD ⊢
  have hRc : (headSpec ((Cond.code y_Wa_has prog_7_method_3_code 2 (some .boolean)) :: gw) ({ frames := 1, cells := 0, slots := 0, locals := 20 } : Room)).room.cells = 0 := rfl
  have hRs : (headSpec ((Cond.code y_Wa_has prog_7_method_3_code 2 (some .boolean)) :: gw) ({ frames := 1, cells := 0, slots := 0, locals := 20 } : Room)).room.slots = 0 := rfl
  have hA : ∀ q : Nat, s.heap.size ≤ q → A q := fun q h => by rw [← hAe]; exact Or.inr h
  have hS : va_S A s.heap s.heap [] := va_S.rf
  have hP : va_P (dC, dI) vwCl [(h0, .inr (5, [.ref h1])), (h1, .inl (cI, 6, .inl (fun j => iZ (g j))))] s.heap := hP
  have hl := lv_entry ([.ref h0, .int (iZ x)]) (n := 2) (Nat.le_of_ble_eq_true rfl)
  rw [lg_entry_eq]
  generalize (lg_sl ([.ref h0, .int (iZ x)]) ++ List.replicate (2 - (lg_sl ([.ref h0, .int (iZ x)])).length) Slot.unset).toArray = ls at hl ⊢
  have hl : lv_has ls 2 [(0, .ref h0), (1, .int (iZ x))] := hl
  obtain ⟨hx1, hx2⟩ := id hx0
  have hg1 := hg x.toNat
  refine lv_iload_n hx hb d_Wa_has_0 rfl (lv_at hl 1 rfl) ?_
  refine z_i (wr := [(h0, .inr (5, [.ref h1])), (h1, .inl (cI, 6, .inl (fun j => iZ (g j))))]) (va_runS (As := [.int (iZ x)]) (rest := []) ⟨hx, hb, hml, hown, htg⟩ (c_Wa_isSession l dC dI cB cI cJ cZ cQ s.heap.size x hx0) (va_cwS 1 htg (gw_S k_149 k_150 k_4 k_151) rfl rfl rfl (by decide +kernel) ⟨Nat.le_of_ble_eq_true rfl, Nat.le_of_ble_eq_true rfl⟩) (zPreS hK hP hD hZ [] rfl (by decide)) rfl rfl hl.1 rfl (lv_room (Nat.le_of_ble_eq_true rfl)) d_Wa_has_1 ⟨by omega, by omega⟩) hP hD hS hA [] [0, 1] rfl rfl (by decide) (by decide) (fun H locs hP hD hS => ?_)
  have hP : va_P (dC, dI) vwCl [(h0, .inr (5, [.ref h1])), (h1, .inl (cI, 6, .inl (fun j => iZ (g j))))] H := hP
  have hD : va_D A [(h0, .inr (5, [.ref h1])), (h1, .inl (cI, 6, .inl (fun j => iZ (g j))))] := hD
  rcases Classical.em (0 ≤ x ∧ x < 6) with b_1 | b_1
  · rw [if_pos b_1]
    refine zz_if_eq (tgt := 20) hx hb d_Wa_has_4 (by decide) ⟨by omega, by omega⟩ (fun c_2 => ?_) (fun c_2 => ?_)
    · exfalso; omega
    · refine lv_aload_n hx hb d_Wa_has_7 rfl (lv_at hl 0 rfl) ?_
      refine va_get (D := (dC, dI)) (ci := 5) (v := .ref h1) (C := "LogDesk$Waiting") (T := F_Wa) (N := 1) hx hb htg hin_Wa hown hK hP 0 rfl rfl 0 (by decide) (htg _ k_58) (fun _ h9 => h9) rfl d_Wa_has_8 ?_
      refine lv_iload_n hx hb d_Wa_has_11 rfl (lv_at hl 1 rfl) ?_
      refine zz_iald hx hb hK hP 1 1 rfl rfl (by omega) (by omega) (by omega) d_Wa_has_12 ?_
      refine zz_if_eq (tgt := 20) hx hb d_Wa_has_13 (by decide) ⟨by omega, by omega⟩ (fun c_3 => ?_) (fun c_3 => ?_)
      · refine lv_iconst (v := iZ 0) hx hb d_Wa_has_20 rfl ?_
        exact W.zret (v := (iZ 0)) hx hb hr rfl (fun t ht hW => ⟨⟨_, (), rfl, (congrArg iZ (by omega)), by rw [ht]; exact hP, va_K.moved hW.alike hK, hAe ▸ hD⟩, hAe ▸ hS.F ht⟩) (hAe ▸ hS.2.2) d_Wa_has_21
      · refine lv_iconst (v := iZ 1) hx hb d_Wa_has_16 rfl ?_
        refine lv_goto (tgt := 21) hx hb d_Wa_has_17 (by decide) ?_
        exact W.zret (v := (iZ 1)) hx hb hr rfl (fun t ht hW => ⟨⟨_, (), rfl, (congrArg iZ (by omega)), by rw [ht]; exact hP, va_K.moved hW.alike hK, hAe ▸ hD⟩, hAe ▸ hS.F ht⟩) (hAe ▸ hS.2.2) d_Wa_has_21
  · rw [if_neg b_1]
    refine zz_if_eq (tgt := 20) hx hb d_Wa_has_4 (by decide) ⟨by omega, by omega⟩ (fun c_4 => ?_) (fun c_4 => ?_)
    · refine lv_iconst (v := iZ 0) hx hb d_Wa_has_20 rfl ?_
      exact W.zret (v := (iZ 0)) hx hb hr rfl (fun t ht hW => ⟨⟨_, (), rfl, (congrArg iZ (by omega)), by rw [ht]; exact hP, va_K.moved hW.alike hK, hAe ▸ hD⟩, hAe ▸ hS.F ht⟩) (hAe ▸ hS.2.2) d_Wa_has_21
    · exfalso; omega
set_option maxHeartbeats 4000000 in
set_option maxRecDepth 100000 in
theorem c_Wa_endOf (l : Launch) (dC : Nat → ClassId) (dI : Nat → Nat → Nat) (cB : ClassId) (cI : ClassId) (cJ : ClassId) (cZ : ClassId) (cQ : ClassId) (h0 h1 : Nat) (sz : Nat) (g : Nat → Int) (x : Int) (hg : ∀ j : Nat, 0 ≤ g j ∧ g j < 1000000000) (hx0 : iB x) : Met l y_Wa_endOf ((Cond.code y_Wa_endOf prog_7_method_4_code 2 (some .int)) :: gw) ({ frames := 1, cells := 0, slots := 0, locals := 20 } : Room) (zPc (dC, dI) [(cB, .byte), (cI, .int), (cJ, .long), (cZ, .boolean), (cQ, .object "LogDesk$Block")] [.ref h0, .int (iZ x)] [(h0, .inr (5, [.ref h1])), (h1, .inl (cI, 6, .inl (fun j => iZ (g j))))] sz) (va_Qi (fun (r : Int32) (_ : Unit) => r = iZ (if 0 ≤ x ∧ x < 6 then g x.toNat else 0)) (zB (dC, dI) [(cB, .byte), (cI, .int), (cJ, .long), (cZ, .boolean), (cQ, .object "LogDesk$Block")] (va_A [(h0, .inr (5, [.ref h1])), (h1, .inl (cI, 6, .inl (fun j => iZ (g j))))] sz) [(h0, .inr (5, [.ref h1])), (h1, .inl (cI, 6, .inl (fun j => iZ (g j))))]) (va_A [(h0, .inr (5, [.ref h1])), (h1, .inl (cI, 6, .inl (fun j => iZ (g j))))] sz)) 0 0 (va_A [(h0, .inr (5, [.ref h1])), (h1, .inl (cI, 6, .inl (fun j => iZ (g j))))] sz) := by
  refine Met.ofW (cc := prog_7_method_4_code) (maxL := 2) (ret := (some .int)) (by decide) rfl ?_
  intro p e s m args below meth c s₁ B hml hv
  obtain ⟨rfl, hsz, hP, hK, hD0, hZ⟩ := hv
  have hx := B.exec
  have hb := B.bytes
  have hr := B.returns
  have hts := atoms_spec (ws := (Cond.code y_Wa_endOf prog_7_method_4_code 2 (some .int)) :: gw) B.pre
  have htg : ∀ w ∈ gw, w.before _ s = true := fun w h => hts w (List.mem_cons_of_mem _ h)
  have hown : s.vm.findClass "LogDesk$Waiting" = some m.cls := findClass_of_methodNamed B.named
  have hlocks := B.notSynchronized
  subst hsz
  have hD := hD0.self (sz := s.heap.size)
  generalize hAe : va_A [(h0, .inr (5, [.ref h1])), (h1, .inl (cI, 6, .inl (fun j => iZ (g j))))] s.heap.size = A at hD ⊢
  have hRc : (headSpec ((Cond.code y_Wa_endOf prog_7_method_4_code 2 (some .int)) :: gw) ({ frames := 1, cells := 0, slots := 0, locals := 20 } : Room)).room.cells = 0 := rfl
  have hRs : (headSpec ((Cond.code y_Wa_endOf prog_7_method_4_code 2 (some .int)) :: gw) ({ frames := 1, cells := 0, slots := 0, locals := 20 } : Room)).room.slots = 0 := rfl
  have hA : ∀ q : Nat, s.heap.size ≤ q → A q := fun q h => by rw [← hAe]; exact Or.inr h
  have hS : va_S A s.heap s.heap [] := va_S.rf
  have hP : va_P (dC, dI) vwCl [(h0, .inr (5, [.ref h1])), (h1, .inl (cI, 6, .inl (fun j => iZ (g j))))] s.heap := hP
  have hl := lv_entry ([.ref h0, .int (iZ x)]) (n := 2) (Nat.le_of_ble_eq_true rfl)
  rw [lg_entry_eq]
  generalize (lg_sl ([.ref h0, .int (iZ x)]) ++ List.replicate (2 - (lg_sl ([.ref h0, .int (iZ x)])).length) Slot.unset).toArray = ls at hl ⊢
  have hl : lv_has ls 2 [(0, .ref h0), (1, .int (iZ x))] := hl
  obtain ⟨hx1, hx2⟩ := id hx0
  have hg1 := hg x.toNat
  refine lv_iload_n hx hb d_Wa_endOf_0 rfl (lv_at hl 1 rfl) ?_
  refine z_i (wr := [(h0, .inr (5, [.ref h1])), (h1, .inl (cI, 6, .inl (fun j => iZ (g j))))]) (va_runS (As := [.int (iZ x)]) (rest := []) ⟨hx, hb, hml, hown, htg⟩ (c_Wa_isSession l dC dI cB cI cJ cZ cQ s.heap.size x hx0) (va_cwS 1 htg (gw_S k_149 k_150 k_4 k_151) rfl rfl rfl (by decide +kernel) ⟨Nat.le_of_ble_eq_true rfl, Nat.le_of_ble_eq_true rfl⟩) (zPreS hK hP hD hZ [] rfl (by decide)) rfl rfl hl.1 rfl (lv_room (Nat.le_of_ble_eq_true rfl)) d_Wa_endOf_1 ⟨by omega, by omega⟩) hP hD hS hA [] [0, 1] rfl rfl (by decide) (by decide) (fun H locs hP hD hS => ?_)
  have hP : va_P (dC, dI) vwCl [(h0, .inr (5, [.ref h1])), (h1, .inl (cI, 6, .inl (fun j => iZ (g j))))] H := hP
  have hD : va_D A [(h0, .inr (5, [.ref h1])), (h1, .inl (cI, 6, .inl (fun j => iZ (g j))))] := hD
  rcases Classical.em (0 ≤ x ∧ x < 6) with b_1 | b_1
  · rw [if_pos b_1]
    refine zz_if_eq (tgt := 16) hx hb d_Wa_endOf_4 (by decide) ⟨by omega, by omega⟩ (fun c_2 => ?_) (fun c_2 => ?_)
    · exfalso; omega
    · refine lv_aload_n hx hb d_Wa_endOf_7 rfl (lv_at hl 0 rfl) ?_
      refine va_get (D := (dC, dI)) (ci := 5) (v := .ref h1) (C := "LogDesk$Waiting") (T := F_Wa) (N := 1) hx hb htg hin_Wa hown hK hP 0 rfl rfl 0 (by decide) (htg _ k_58) (fun _ h9 => h9) rfl d_Wa_endOf_8 ?_
      refine lv_iload_n hx hb d_Wa_endOf_11 rfl (lv_at hl 1 rfl) ?_
      refine zz_iald hx hb hK hP 1 1 rfl rfl (by omega) (by omega) (by omega) d_Wa_endOf_12 ?_
      refine lv_goto (tgt := 17) hx hb d_Wa_endOf_13 (by decide) ?_
      exact W.iret (v := (iZ (g (x).toNat))) hx hb hr (fun t ht hW => ⟨⟨_, (), rfl, (congrArg iZ (by omega)), by rw [ht]; exact hP, va_K.moved hW.alike hK, hAe ▸ hD⟩, hAe ▸ hS.F ht⟩) (hAe ▸ hS.2.2) d_Wa_endOf_17
  · rw [if_neg b_1]
    refine zz_if_eq (tgt := 16) hx hb d_Wa_endOf_4 (by decide) ⟨by omega, by omega⟩ (fun c_3 => ?_) (fun c_3 => ?_)
    · refine lv_iconst (v := iZ 0) hx hb d_Wa_endOf_16 rfl ?_
      exact W.iret (v := (iZ 0)) hx hb hr (fun t ht hW => ⟨⟨_, (), rfl, (congrArg iZ (by omega)), by rw [ht]; exact hP, va_K.moved hW.alike hK, hAe ▸ hD⟩, hAe ▸ hS.F ht⟩) (hAe ▸ hS.2.2) d_Wa_endOf_17
    · exfalso; omega
set_option maxHeartbeats 4000000 in
set_option maxRecDepth 100000 in
theorem c_Wa_add (l : Launch) (dC : Nat → ClassId) (dI : Nat → Nat → Nat) (cB : ClassId) (cI : ClassId) (cJ : ClassId) (cZ : ClassId) (cQ : ClassId) (h0 h1 : Nat) (sz : Nat) (g : Nat → Int) (x : Int) (v : Int) (hx0 : 0 ≤ x ∧ x < 6) : Met l y_Wa_add ((Cond.code y_Wa_add prog_7_method_5_code 3 none) :: gw) ({ frames := 1, cells := 0, slots := 0, locals := 20 } : Room) (zPc (dC, dI) [(cB, .byte), (cI, .int), (cJ, .long), (cZ, .boolean), (cQ, .object "LogDesk$Block")] [.ref h0, .int (iZ x), .int (iZ v)] [(h0, .inr (5, [.ref h1])), (h1, .inl (cI, 6, .inl (fun j => iZ (g j))))] sz) (va_Qv (fun (_ : Unit) => True) (zB (dC, dI) [(cB, .byte), (cI, .int), (cJ, .long), (cZ, .boolean), (cQ, .object "LogDesk$Block")] (va_A [(h0, .inr (5, [.ref h1])), (h1, .inl (cI, 6, .inl (fun j => iZ (g j))))] sz) [(h0, .inr (5, [.ref h1])), (h1, .inl (cI, 6, .inl (fun j => iZ ((va_up g x.toNat v) j))))]) (va_A [(h0, .inr (5, [.ref h1])), (h1, .inl (cI, 6, .inl (fun j => iZ (g j))))] sz)) 0 0 (va_A [(h0, .inr (5, [.ref h1])), (h1, .inl (cI, 6, .inl (fun j => iZ (g j))))] sz) := by
  refine Met.ofW (cc := prog_7_method_5_code) (maxL := 3) (ret := none) (by decide) rfl ?_
  intro p e s m args below meth c s₁ B hml hv
  obtain ⟨rfl, hsz, hP, hK, hD0, hZ⟩ := hv
  have hx := B.exec
  have hb := B.bytes
  have hr := B.returns
  have hts := atoms_spec (ws := (Cond.code y_Wa_add prog_7_method_5_code 3 none) :: gw) B.pre
  have htg : ∀ w ∈ gw, w.before _ s = true := fun w h => hts w (List.mem_cons_of_mem _ h)
  have hown : s.vm.findClass "LogDesk$Waiting" = some m.cls := findClass_of_methodNamed B.named
  have hlocks := B.notSynchronized
  subst hsz
  have hD := hD0.self (sz := s.heap.size)
  generalize hAe : va_A [(h0, .inr (5, [.ref h1])), (h1, .inl (cI, 6, .inl (fun j => iZ (g j))))] s.heap.size = A at hD ⊢
  have hRc : (headSpec ((Cond.code y_Wa_add prog_7_method_5_code 3 none) :: gw) ({ frames := 1, cells := 0, slots := 0, locals := 20 } : Room)).room.cells = 0 := rfl
  have hRs : (headSpec ((Cond.code y_Wa_add prog_7_method_5_code 3 none) :: gw) ({ frames := 1, cells := 0, slots := 0, locals := 20 } : Room)).room.slots = 0 := rfl
  have hA : ∀ q : Nat, s.heap.size ≤ q → A q := fun q h => by rw [← hAe]; exact Or.inr h
  have hS : va_S A s.heap s.heap [] := va_S.rf
  have hP : va_P (dC, dI) vwCl [(h0, .inr (5, [.ref h1])), (h1, .inl (cI, 6, .inl (fun j => iZ (g j))))] s.heap := hP
  have hl := lv_entry ([.ref h0, .int (iZ x), .int (iZ v)]) (n := 3) (Nat.le_of_ble_eq_true rfl)
  rw [lg_entry_eq]
  generalize (lg_sl ([.ref h0, .int (iZ x), .int (iZ v)]) ++ List.replicate (3 - (lg_sl ([.ref h0, .int (iZ x), .int (iZ v)])).length) Slot.unset).toArray = ls at hl ⊢
  have hl : lv_has ls 3 [(0, .ref h0), (1, .int (iZ x)), (2, .int (iZ v))] := hl
  refine lv_iload_n hx hb d_Wa_add_0 rfl (lv_at hl 1 rfl) ?_
  refine z_i (wr := [(h0, .inr (5, [.ref h1])), (h1, .inl (cI, 6, .inl (fun j => iZ (g j))))]) (va_runS (As := [.int (iZ x)]) (rest := []) ⟨hx, hb, hml, hown, htg⟩ (c_Wa_isSession l dC dI cB cI cJ cZ cQ s.heap.size x (⟨by omega, by omega⟩)) (va_cwS 1 htg (gw_S k_149 k_150 k_4 k_151) rfl rfl rfl (by decide +kernel) ⟨Nat.le_of_ble_eq_true rfl, Nat.le_of_ble_eq_true rfl⟩) (zPreS hK hP hD hZ [] rfl (by decide)) rfl rfl hl.1 rfl (lv_room (Nat.le_of_ble_eq_true rfl)) d_Wa_add_1 ⟨by omega, by omega⟩) hP hD hS hA [] [0, 1] rfl rfl (by decide) (by decide) (fun H locs hP hD hS => ?_)
  have hP : va_P (dC, dI) vwCl [(h0, .inr (5, [.ref h1])), (h1, .inl (cI, 6, .inl (fun j => iZ (g j))))] H := hP
  have hD : va_D A [(h0, .inr (5, [.ref h1])), (h1, .inl (cI, 6, .inl (fun j => iZ (g j))))] := hD
  rcases Classical.em (0 ≤ x ∧ x < 6) with b_1 | b_1
  · rw [if_pos b_1]
    refine zz_if_eq (tgt := 14) hx hb d_Wa_add_4 (by decide) ⟨by omega, by omega⟩ (fun c_2 => ?_) (fun c_2 => ?_)
    · exfalso; omega
    · refine lv_aload_n hx hb d_Wa_add_7 rfl (lv_at hl 0 rfl) ?_
      refine va_get (D := (dC, dI)) (ci := 5) (v := .ref h1) (C := "LogDesk$Waiting") (T := F_Wa) (N := 1) hx hb htg hin_Wa hown hK hP 0 rfl rfl 0 (by decide) (htg _ k_58) (fun _ h9 => h9) rfl d_Wa_add_8 ?_
      refine lv_iload_n hx hb d_Wa_add_11 rfl (lv_at hl 1 rfl) ?_
      refine lv_iload_n hx hb d_Wa_add_12 rfl (lv_at hl 2 rfl) ?_
      refine zz_iast hx hb hK hP hD hS 1 1 rfl rfl (by omega) (by omega) (by omega) d_Wa_add_13 (fun H locs hP hD hS => ?_)
      have hP : va_P (dC, dI) vwCl [(h0, .inr (5, [.ref h1])), (h1, .inl (cI, 6, .inl (fun j => iZ ((va_up g (x).toNat v) j))))] H := hP
      have hD : va_D A [(h0, .inr (5, [.ref h1])), (h1, .inl (cI, 6, .inl (fun j => iZ ((va_up g (x).toNat v) j))))] := hD
      have eW : ∀ (x0 y0 : Nat → Int), x0 = y0 → ([(h0, .inr (5, [.ref h1])), (h1, .inl (cI, 6, .inl (fun j => iZ (x0 j))))] : va_W) = [(h0, .inr (5, [.ref h1])), (h1, .inl (cI, 6, .inl (fun j => iZ (y0 j))))] := by intros; subst_vars; rfl
      have eW := eW (va_up g (x).toNat v) (va_up g x.toNat v) (by first | rfl | exact (if_pos (by omega)).symm | exact (if_neg (by omega)).symm)
      have hP : va_P (dC, dI) vwCl [(h0, .inr (5, [.ref h1])), (h1, .inl (cI, 6, .inl (fun j => iZ ((va_up g x.toNat v) j))))] H := eW ▸ hP
      have hD : va_D A [(h0, .inr (5, [.ref h1])), (h1, .inl (cI, 6, .inl (fun j => iZ ((va_up g x.toNat v) j))))] := eW ▸ hD
      exact W.vret hx hb hr (fun t ht hW => ⟨⟨(), rfl, trivial, by rw [ht]; exact hP, va_K.moved hW.alike hK, hAe ▸ hD⟩, hAe ▸ hS.F ht⟩) (hAe ▸ hS.2.2) d_Wa_add_14
  · rw [if_neg b_1]
    refine zz_if_eq (tgt := 14) hx hb d_Wa_add_4 (by decide) ⟨by omega, by omega⟩ (fun c_3 => ?_) (fun c_3 => ?_)
    · exfalso; omega
    · exfalso; omega
set_option maxHeartbeats 4000000 in
set_option maxRecDepth 100000 in
theorem c_Wa_remove (l : Launch) (dC : Nat → ClassId) (dI : Nat → Nat → Nat) (cB : ClassId) (cI : ClassId) (cJ : ClassId) (cZ : ClassId) (cQ : ClassId) (h0 h1 : Nat) (sz : Nat) (g : Nat → Int) (x : Int) (hx0 : 0 ≤ x ∧ x < 6) : Met l y_Wa_remove ((Cond.code y_Wa_remove prog_7_method_6_code 2 none) :: gw) ({ frames := 1, cells := 0, slots := 0, locals := 20 } : Room) (zPc (dC, dI) [(cB, .byte), (cI, .int), (cJ, .long), (cZ, .boolean), (cQ, .object "LogDesk$Block")] [.ref h0, .int (iZ x)] [(h0, .inr (5, [.ref h1])), (h1, .inl (cI, 6, .inl (fun j => iZ (g j))))] sz) (va_Qv (fun (_ : Unit) => True) (zB (dC, dI) [(cB, .byte), (cI, .int), (cJ, .long), (cZ, .boolean), (cQ, .object "LogDesk$Block")] (va_A [(h0, .inr (5, [.ref h1])), (h1, .inl (cI, 6, .inl (fun j => iZ (g j))))] sz) [(h0, .inr (5, [.ref h1])), (h1, .inl (cI, 6, .inl (fun j => iZ ((va_up g x.toNat 0) j))))]) (va_A [(h0, .inr (5, [.ref h1])), (h1, .inl (cI, 6, .inl (fun j => iZ (g j))))] sz)) 0 0 (va_A [(h0, .inr (5, [.ref h1])), (h1, .inl (cI, 6, .inl (fun j => iZ (g j))))] sz) := by
  refine Met.ofW (cc := prog_7_method_6_code) (maxL := 2) (ret := none) (by decide) rfl ?_
  intro p e s m args below meth c s₁ B hml hv
  obtain ⟨rfl, hsz, hP, hK, hD0, hZ⟩ := hv
  have hx := B.exec
  have hb := B.bytes
  have hr := B.returns
  have hts := atoms_spec (ws := (Cond.code y_Wa_remove prog_7_method_6_code 2 none) :: gw) B.pre
  have htg : ∀ w ∈ gw, w.before _ s = true := fun w h => hts w (List.mem_cons_of_mem _ h)
  have hown : s.vm.findClass "LogDesk$Waiting" = some m.cls := findClass_of_methodNamed B.named
  have hlocks := B.notSynchronized
  subst hsz
  have hD := hD0.self (sz := s.heap.size)
  generalize hAe : va_A [(h0, .inr (5, [.ref h1])), (h1, .inl (cI, 6, .inl (fun j => iZ (g j))))] s.heap.size = A at hD ⊢
  have hRc : (headSpec ((Cond.code y_Wa_remove prog_7_method_6_code 2 none) :: gw) ({ frames := 1, cells := 0, slots := 0, locals := 20 } : Room)).room.cells = 0 := rfl
  have hRs : (headSpec ((Cond.code y_Wa_remove prog_7_method_6_code 2 none) :: gw) ({ frames := 1, cells := 0, slots := 0, locals := 20 } : Room)).room.slots = 0 := rfl
  have hA : ∀ q : Nat, s.heap.size ≤ q → A q := fun q h => by rw [← hAe]; exact Or.inr h
  have hS : va_S A s.heap s.heap [] := va_S.rf
  have hP : va_P (dC, dI) vwCl [(h0, .inr (5, [.ref h1])), (h1, .inl (cI, 6, .inl (fun j => iZ (g j))))] s.heap := hP
  have hl := lv_entry ([.ref h0, .int (iZ x)]) (n := 2) (Nat.le_of_ble_eq_true rfl)
  rw [lg_entry_eq]
  generalize (lg_sl ([.ref h0, .int (iZ x)]) ++ List.replicate (2 - (lg_sl ([.ref h0, .int (iZ x)])).length) Slot.unset).toArray = ls at hl ⊢
  have hl : lv_has ls 2 [(0, .ref h0), (1, .int (iZ x))] := hl
  refine lv_iload_n hx hb d_Wa_remove_0 rfl (lv_at hl 1 rfl) ?_
  refine z_i (wr := [(h0, .inr (5, [.ref h1])), (h1, .inl (cI, 6, .inl (fun j => iZ (g j))))]) (va_runS (As := [.int (iZ x)]) (rest := []) ⟨hx, hb, hml, hown, htg⟩ (c_Wa_isSession l dC dI cB cI cJ cZ cQ s.heap.size x (⟨by omega, by omega⟩)) (va_cwS 1 htg (gw_S k_149 k_150 k_4 k_151) rfl rfl rfl (by decide +kernel) ⟨Nat.le_of_ble_eq_true rfl, Nat.le_of_ble_eq_true rfl⟩) (zPreS hK hP hD hZ [] rfl (by decide)) rfl rfl hl.1 rfl (lv_room (Nat.le_of_ble_eq_true rfl)) d_Wa_remove_1 ⟨by omega, by omega⟩) hP hD hS hA [] [0, 1] rfl rfl (by decide) (by decide) (fun H locs hP hD hS => ?_)
  have hP : va_P (dC, dI) vwCl [(h0, .inr (5, [.ref h1])), (h1, .inl (cI, 6, .inl (fun j => iZ (g j))))] H := hP
  have hD : va_D A [(h0, .inr (5, [.ref h1])), (h1, .inl (cI, 6, .inl (fun j => iZ (g j))))] := hD
  rcases Classical.em (0 ≤ x ∧ x < 6) with b_1 | b_1
  · rw [if_pos b_1]
    refine zz_if_eq (tgt := 14) hx hb d_Wa_remove_4 (by decide) ⟨by omega, by omega⟩ (fun c_2 => ?_) (fun c_2 => ?_)
    · exfalso; omega
    · refine lv_aload_n hx hb d_Wa_remove_7 rfl (lv_at hl 0 rfl) ?_
      refine va_get (D := (dC, dI)) (ci := 5) (v := .ref h1) (C := "LogDesk$Waiting") (T := F_Wa) (N := 1) hx hb htg hin_Wa hown hK hP 0 rfl rfl 0 (by decide) (htg _ k_58) (fun _ h9 => h9) rfl d_Wa_remove_8 ?_
      refine lv_iload_n hx hb d_Wa_remove_11 rfl (lv_at hl 1 rfl) ?_
      refine lv_iconst (v := iZ 0) hx hb d_Wa_remove_12 rfl ?_
      refine zz_iast hx hb hK hP hD hS 1 1 rfl rfl (by omega) (by omega) (by omega) d_Wa_remove_13 (fun H locs hP hD hS => ?_)
      have hP : va_P (dC, dI) vwCl [(h0, .inr (5, [.ref h1])), (h1, .inl (cI, 6, .inl (fun j => iZ ((va_up g (x).toNat 0) j))))] H := hP
      have hD : va_D A [(h0, .inr (5, [.ref h1])), (h1, .inl (cI, 6, .inl (fun j => iZ ((va_up g (x).toNat 0) j))))] := hD
      have eW : ∀ (x0 y0 : Nat → Int), x0 = y0 → ([(h0, .inr (5, [.ref h1])), (h1, .inl (cI, 6, .inl (fun j => iZ (x0 j))))] : va_W) = [(h0, .inr (5, [.ref h1])), (h1, .inl (cI, 6, .inl (fun j => iZ (y0 j))))] := by intros; subst_vars; rfl
      have eW := eW (va_up g (x).toNat 0) (va_up g x.toNat 0) (by first | rfl | exact (if_pos (by omega)).symm | exact (if_neg (by omega)).symm)
      have hP : va_P (dC, dI) vwCl [(h0, .inr (5, [.ref h1])), (h1, .inl (cI, 6, .inl (fun j => iZ ((va_up g x.toNat 0) j))))] H := eW ▸ hP
      have hD : va_D A [(h0, .inr (5, [.ref h1])), (h1, .inl (cI, 6, .inl (fun j => iZ ((va_up g x.toNat 0) j))))] := eW ▸ hD
      exact W.vret hx hb hr (fun t ht hW => ⟨⟨(), rfl, trivial, by rw [ht]; exact hP, va_K.moved hW.alike hK, hAe ▸ hD⟩, hAe ▸ hS.F ht⟩) (hAe ▸ hS.2.2) d_Wa_remove_14
  · rw [if_neg b_1]
    refine zz_if_eq (tgt := 14) hx hb d_Wa_remove_4 (by decide) ⟨by omega, by omega⟩ (fun c_3 => ?_) (fun c_3 => ?_)
    · exfalso; omega
    · exfalso; omega
set_option maxHeartbeats 4000000 in
set_option maxRecDepth 100000 in
theorem c_Wa_first (l : Launch) (dC : Nat → ClassId) (dI : Nat → Nat → Nat) (cB : ClassId) (cI : ClassId) (cJ : ClassId) (cZ : ClassId) (cQ : ClassId) (h0 h1 : Nat) (sz : Nat) (g : Nat → Int) (hg : ∀ j : Nat, 0 ≤ g j ∧ g j < 1000000000) : Met l y_Wa_first ((Cond.code y_Wa_first prog_7_method_7_code 3 (some .int)) :: gw) ({ frames := 2, cells := 0, slots := 0, locals := 45 } : Room) (zPc (dC, dI) [(cB, .byte), (cI, .int), (cJ, .long), (cZ, .boolean), (cQ, .object "LogDesk$Block")] [.ref h0] [(h0, .inr (5, [.ref h1])), (h1, .inl (cI, 6, .inl (fun j => iZ (g j))))] sz) (va_Qi (fun (r : Int32) (_ : Unit) => r = iZ (wfst g 6)) (zB (dC, dI) [(cB, .byte), (cI, .int), (cJ, .long), (cZ, .boolean), (cQ, .object "LogDesk$Block")] (va_A [(h0, .inr (5, [.ref h1])), (h1, .inl (cI, 6, .inl (fun j => iZ (g j))))] sz) [(h0, .inr (5, [.ref h1])), (h1, .inl (cI, 6, .inl (fun j => iZ (g j))))]) (va_A [(h0, .inr (5, [.ref h1])), (h1, .inl (cI, 6, .inl (fun j => iZ (g j))))] sz)) 0 0 (va_A [(h0, .inr (5, [.ref h1])), (h1, .inl (cI, 6, .inl (fun j => iZ (g j))))] sz) := by
  refine Met.ofW (cc := prog_7_method_7_code) (maxL := 3) (ret := (some .int)) (by decide) rfl ?_
  intro p e s m args below meth c s₁ B hml hv
  obtain ⟨rfl, hsz, hP, hK, hD0, hZ⟩ := hv
  have hx := B.exec
  have hb := B.bytes
  have hr := B.returns
  have hts := atoms_spec (ws := (Cond.code y_Wa_first prog_7_method_7_code 3 (some .int)) :: gw) B.pre
  have htg : ∀ w ∈ gw, w.before _ s = true := fun w h => hts w (List.mem_cons_of_mem _ h)
  have hown : s.vm.findClass "LogDesk$Waiting" = some m.cls := findClass_of_methodNamed B.named
  have hlocks := B.notSynchronized
  subst hsz
  have hD := hD0.self (sz := s.heap.size)
  generalize hAe : va_A [(h0, .inr (5, [.ref h1])), (h1, .inl (cI, 6, .inl (fun j => iZ (g j))))] s.heap.size = A at hD ⊢
  have hRc : (headSpec ((Cond.code y_Wa_first prog_7_method_7_code 3 (some .int)) :: gw) ({ frames := 2, cells := 0, slots := 0, locals := 45 } : Room)).room.cells = 0 := rfl
  have hRs : (headSpec ((Cond.code y_Wa_first prog_7_method_7_code 3 (some .int)) :: gw) ({ frames := 2, cells := 0, slots := 0, locals := 45 } : Room)).room.slots = 0 := rfl
  generalize hQ : MQ below (va_Qi (fun (r : Int32) (_ : Unit) => r = iZ (wfst g 6)) (zB (dC, dI) [(cB, .byte), (cI, .int), (cJ, .long), (cZ, .boolean), (cQ, .object "LogDesk$Block")] A [(h0, .inr (5, [.ref h1])), (h1, .inl (cI, 6, .inl (fun j => iZ (g j))))]) A) [.ref h0].toArray s 0 0 A = QQ
  have hA : ∀ q : Nat, s.heap.size ≤ q → A q := fun q h => by rw [← hAe]; exact Or.inr h
  have hS : va_S A s.heap s.heap [] := va_S.rf
  have hP : va_P (dC, dI) vwCl [(h0, .inr (5, [.ref h1])), (h1, .inl (cI, 6, .inl (fun j => iZ (g j))))] s.heap := hP
  have hl := lv_entry ([.ref h0]) (n := 3) (Nat.le_of_ble_eq_true rfl)
  rw [lg_entry_eq]
  generalize (lg_sl ([.ref h0]) ++ List.replicate (3 - (lg_sl ([.ref h0])).length) Slot.unset).toArray = ls at hl ⊢
  have hl : lv_has ls 3 [(0, .ref h0)] := hl
  refine lv_iconst (v := iZ (-1)) hx hb d_Wa_first_0 rfl ?_
  refine lv_istore_n (lv' := [(1, .int (iZ (-1))), (0, .ref h0)]) hx hb d_Wa_first_1 rfl hl (by decide) rfl (fun ls hl => ?_)
  refine lv_iconst (v := iZ 0) hx hb d_Wa_first_2 rfl ?_
  refine lv_istore_n (lv' := [(2, .int (iZ 0)), (1, .int (iZ (-1))), (0, .ref h0)]) hx hb d_Wa_first_3 rfl hl (by decide) rfl (fun ls hl => ?_)
  have loop4 : ∀ (nn : Nat) (i : Int) (f : Int) (H : Heap) (locs : List Loc) (ls : Array Slot), (0 ≤ i ∧ i ≤ 6) → (f = wfst g i.toNat) → (-1 ≤ f ∧ f < i) → (6 - i < (nn : Int)) → va_P (dC, dI) vwCl [(h0, .inr (5, [.ref h1])), (h1, .inl (cI, 6, .inl (fun j => iZ (g j))))] H → va_D A [(h0, .inr (5, [.ref h1])), (h1, .inl (cI, 6, .inl (fun j => iZ (g j))))] → va_S A s.heap H locs → lv_has ls 3 [(0, .ref h0), (1, .int (iZ f)), (2, .int (iZ i))] → W p l e (headSpec ((Cond.code y_Wa_first prog_7_method_7_code 3 (some .int)) :: gw) ({ frames := 2, cells := 0, slots := 0, locals := 45 } : Room)).room s m [.ref h0].toArray below meth c H locs 0 0 QQ (F0 m 4 ls []) := by
    intro nn
    induction nn with
    | zero => intro i f H locs ls hi hf hf2 hm hP hD hS hl; exfalso; omega
    | succ nn ih =>
      intro i f H locs ls hi hf hf2 hm hP hD hS hl
      have hg1 := hg i.toNat
      have hg2 := hg f.toNat
      refine lv_iload_n hx hb d_Wa_first_4 rfl (lv_at hl 2 rfl) ?_
      refine lv_bipush (v := iZ 6) hx hb d_Wa_first_5 (by decide) ?_
      refine zz_icmp_ge (tgt := 45) hx hb d_Wa_first_7 (by decide) ⟨by omega, by omega⟩ ⟨by omega, by omega⟩ (fun c_1 => ?_) (fun c_1 => ?_)
      · refine lv_iload_n hx hb d_Wa_first_45 rfl (lv_at hl 1 rfl) ?_
        subst hQ
        exact W.iret (v := (iZ f)) hx hb hr (fun t ht hW => ⟨⟨_, (), rfl, (congrArg iZ (by rw [hf]; congr 1; omega)), by rw [ht]; exact hP, va_K.moved hW.alike hK, hAe ▸ hD⟩, hAe ▸ hS.F ht⟩) (hAe ▸ hS.2.2) d_Wa_first_46
      · refine lv_aload_n hx hb d_Wa_first_10 rfl (lv_at hl 0 rfl) ?_
        refine lv_iload_n hx hb d_Wa_first_11 rfl (lv_at hl 2 rfl) ?_
        refine z_i (wr := []) (va_runV (As := [.int (iZ i)]) (rest := []) ⟨hx, hb, hml, hown, htg⟩ (c_Wa_has l dC dI cB cI cJ cZ cQ h0 h1 H.size g i hg (⟨by omega, by omega⟩)) (cwV 1 htg (gw_V k_145 k_146 k_147 k_4 k_148) rfl rfl rfl (by decide +kernel) ⟨Nat.le_of_ble_eq_true rfl, Nat.le_of_ble_eq_true rfl⟩) (zPreV hK hP hD hZ [0, 1] rfl (by decide) 0 (ci := 5) rfl rfl) rfl rfl hl.1 rfl (lv_room (Nat.le_of_ble_eq_true rfl)) d_Wa_first_12 ⟨by omega, by omega⟩) hP hD hS hA [0, 1] [] rfl rfl (by decide) (by decide) (fun H locs hP hD hS => ?_)
        have hP : va_P (dC, dI) vwCl [(h0, .inr (5, [.ref h1])), (h1, .inl (cI, 6, .inl (fun j => iZ (g j))))] H := hP
        have hD : va_D A [(h0, .inr (5, [.ref h1])), (h1, .inl (cI, 6, .inl (fun j => iZ (g j))))] := hD
        rcases Classical.em ((0 ≤ i ∧ i < 6) ∧ g i.toNat ≠ 0) with b_2 | b_2
        · rw [if_pos b_2]
          refine zz_if_eq (tgt := 39) hx hb d_Wa_first_15 (by decide) ⟨by omega, by omega⟩ (fun c_3 => ?_) (fun c_3 => ?_)
          · exfalso; omega
          · refine lv_iload_n hx hb d_Wa_first_18 rfl (lv_at hl 1 rfl) ?_
            refine lv_iconst (v := iZ (-1)) hx hb d_Wa_first_19 rfl ?_
            refine zz_icmp_eq (tgt := 37) hx hb d_Wa_first_20 (by decide) ⟨by omega, by omega⟩ ⟨by omega, by omega⟩ (fun c_4 => ?_) (fun c_4 => ?_)
            · refine lv_iload_n hx hb d_Wa_first_37 rfl (lv_at hl 2 rfl) ?_
              refine lv_istore_n (lv' := [(1, .int (iZ i)), (0, .ref h0), (2, .int (iZ i))]) hx hb d_Wa_first_38 rfl hl (by decide) rfl (fun ls hl => ?_)
              refine lv_iinc (v := iZ (i + 1)) (lv' := [(2, .int (iZ (i + 1))), (1, .int (iZ i)), (0, .ref h0)]) hx hb d_Wa_first_39 hl (k := 2) rfl (iZ_add _ _) (by decide) rfl (fun ls hl => ?_)
              refine lv_goto (tgt := 4) hx hb d_Wa_first_42 (by decide) ?_
              exact ih (i + 1) i H _ ls (by omega) (by rw [wfst_step hi.1 hf]; omega) (by omega) (by omega) hP hD hS (lv_sub hl [2, 1, 0] rfl)
            · refine lv_aload_n hx hb d_Wa_first_23 rfl (lv_at hl 0 rfl) ?_
              refine va_get (D := (dC, dI)) (ci := 5) (v := .ref h1) (C := "LogDesk$Waiting") (T := F_Wa) (N := 1) hx hb htg hin_Wa hown hK hP 0 rfl rfl 0 (by decide) (htg _ k_58) (fun _ h9 => h9) rfl d_Wa_first_24 ?_
              refine lv_iload_n hx hb d_Wa_first_27 rfl (lv_at hl 2 rfl) ?_
              refine zz_iald hx hb hK hP 1 1 rfl rfl (by omega) (by omega) (by omega) d_Wa_first_28 ?_
              refine lv_aload_n hx hb d_Wa_first_29 rfl (lv_at hl 0 rfl) ?_
              refine lv_iload_n hx hb d_Wa_first_30 rfl (lv_at hl 1 rfl) ?_
              refine z_i (wr := []) (va_runV (As := [.int (iZ f)]) (rest := [.int (iZ (g (i).toNat))]) ⟨hx, hb, hml, hown, htg⟩ (c_Wa_endOf l dC dI cB cI cJ cZ cQ h0 h1 H.size g f hg (⟨by omega, by omega⟩)) (cwV 1 htg (gw_V k_152 k_153 k_154 k_4 k_155) rfl rfl rfl (by decide +kernel) ⟨Nat.le_of_ble_eq_true rfl, Nat.le_of_ble_eq_true rfl⟩) (zPreV hK hP hD hZ [0, 1] rfl (by decide) 0 (ci := 5) rfl rfl) rfl rfl hl.1 rfl (lv_room (Nat.le_of_ble_eq_true rfl)) d_Wa_first_31 ⟨by omega, by omega⟩) hP hD hS hA [0, 1] [] rfl rfl (by decide) (by decide) (fun H locs hP hD hS => ?_)
              have hP : va_P (dC, dI) vwCl [(h0, .inr (5, [.ref h1])), (h1, .inl (cI, 6, .inl (fun j => iZ (g j))))] H := hP
              have hD : va_D A [(h0, .inr (5, [.ref h1])), (h1, .inl (cI, 6, .inl (fun j => iZ (g j))))] := hD
              refine zz_icmp_ge (tgt := 39) hx hb d_Wa_first_34 (by decide) ⟨by omega, by omega⟩ ⟨by omega, by omega⟩ (fun c_5 => ?_) (fun c_5 => ?_)
              · refine lv_iinc (v := iZ (i + 1)) (lv' := [(2, .int (iZ (i + 1))), (0, .ref h0), (1, .int (iZ f))]) hx hb d_Wa_first_39 hl (k := 2) rfl (iZ_add _ _) (by decide) rfl (fun ls hl => ?_)
                refine lv_goto (tgt := 4) hx hb d_Wa_first_42 (by decide) ?_
                exact ih (i + 1) f H _ ls (by omega) (by rw [wfst_step hi.1 hf]; omega) (by omega) (by omega) hP hD hS (lv_sub hl [1, 2, 0] rfl)
              · refine lv_iload_n hx hb d_Wa_first_37 rfl (lv_at hl 2 rfl) ?_
                refine lv_istore_n (lv' := [(1, .int (iZ i)), (0, .ref h0), (2, .int (iZ i))]) hx hb d_Wa_first_38 rfl hl (by decide) rfl (fun ls hl => ?_)
                refine lv_iinc (v := iZ (i + 1)) (lv' := [(2, .int (iZ (i + 1))), (1, .int (iZ i)), (0, .ref h0)]) hx hb d_Wa_first_39 hl (k := 2) rfl (iZ_add _ _) (by decide) rfl (fun ls hl => ?_)
                refine lv_goto (tgt := 4) hx hb d_Wa_first_42 (by decide) ?_
                exact ih (i + 1) i H _ ls (by omega) (by rw [wfst_step hi.1 hf]; omega) (by omega) (by omega) hP hD hS (lv_sub hl [2, 1, 0] rfl)
        · rw [if_neg b_2]
          refine zz_if_eq (tgt := 39) hx hb d_Wa_first_15 (by decide) ⟨by omega, by omega⟩ (fun c_6 => ?_) (fun c_6 => ?_)
          · refine lv_iinc (v := iZ (i + 1)) (lv' := [(2, .int (iZ (i + 1))), (0, .ref h0), (1, .int (iZ f))]) hx hb d_Wa_first_39 hl (k := 2) rfl (iZ_add _ _) (by decide) rfl (fun ls hl => ?_)
            refine lv_goto (tgt := 4) hx hb d_Wa_first_42 (by decide) ?_
            exact ih (i + 1) f H _ ls (by omega) (by rw [wfst_step hi.1 hf]; omega) (by omega) (by omega) hP hD hS (lv_sub hl [1, 2, 0] rfl)
          · exfalso; omega
  exact loop4 (Int.toNat (6 - 0) + 1) 0 (-1) s.heap _ ls (by omega) rfl (by omega) (by omega) hP hD hS (lv_sub hl [2, 1, 0] rfl)
set_option maxHeartbeats 4000000 in
set_option maxRecDepth 100000 in
theorem c_Wa_count (l : Launch) (dC : Nat → ClassId) (dI : Nat → Nat → Nat) (cB : ClassId) (cI : ClassId) (cJ : ClassId) (cZ : ClassId) (cQ : ClassId) (h0 h1 : Nat) (sz : Nat) (g : Nat → Int) (hg : ∀ j : Nat, 0 ≤ g j ∧ g j < 1000000000) : Met l y_Wa_count ((Cond.code y_Wa_count prog_7_method_8_code 3 (some .int)) :: gw) ({ frames := 2, cells := 0, slots := 0, locals := 45 } : Room) (zPc (dC, dI) [(cB, .byte), (cI, .int), (cJ, .long), (cZ, .boolean), (cQ, .object "LogDesk$Block")] [.ref h0] [(h0, .inr (5, [.ref h1])), (h1, .inl (cI, 6, .inl (fun j => iZ (g j))))] sz) (va_Qi (fun (r : Int32) (_ : Unit) => r = iZ (wcnt g 6)) (zB (dC, dI) [(cB, .byte), (cI, .int), (cJ, .long), (cZ, .boolean), (cQ, .object "LogDesk$Block")] (va_A [(h0, .inr (5, [.ref h1])), (h1, .inl (cI, 6, .inl (fun j => iZ (g j))))] sz) [(h0, .inr (5, [.ref h1])), (h1, .inl (cI, 6, .inl (fun j => iZ (g j))))]) (va_A [(h0, .inr (5, [.ref h1])), (h1, .inl (cI, 6, .inl (fun j => iZ (g j))))] sz)) 0 0 (va_A [(h0, .inr (5, [.ref h1])), (h1, .inl (cI, 6, .inl (fun j => iZ (g j))))] sz) := by
  refine Met.ofW (cc := prog_7_method_8_code) (maxL := 3) (ret := (some .int)) (by decide) rfl ?_
  intro p e s m args below meth c s₁ B hml hv
  obtain ⟨rfl, hsz, hP, hK, hD0, hZ⟩ := hv
  have hx := B.exec
  have hb := B.bytes
  have hr := B.returns
  have hts := atoms_spec (ws := (Cond.code y_Wa_count prog_7_method_8_code 3 (some .int)) :: gw) B.pre
  have htg : ∀ w ∈ gw, w.before _ s = true := fun w h => hts w (List.mem_cons_of_mem _ h)
  have hown : s.vm.findClass "LogDesk$Waiting" = some m.cls := findClass_of_methodNamed B.named
  have hlocks := B.notSynchronized
  subst hsz
  have hD := hD0.self (sz := s.heap.size)
  generalize hAe : va_A [(h0, .inr (5, [.ref h1])), (h1, .inl (cI, 6, .inl (fun j => iZ (g j))))] s.heap.size = A at hD ⊢
  have hRc : (headSpec ((Cond.code y_Wa_count prog_7_method_8_code 3 (some .int)) :: gw) ({ frames := 2, cells := 0, slots := 0, locals := 45 } : Room)).room.cells = 0 := rfl
  have hRs : (headSpec ((Cond.code y_Wa_count prog_7_method_8_code 3 (some .int)) :: gw) ({ frames := 2, cells := 0, slots := 0, locals := 45 } : Room)).room.slots = 0 := rfl
  generalize hQ : MQ below (va_Qi (fun (r : Int32) (_ : Unit) => r = iZ (wcnt g 6)) (zB (dC, dI) [(cB, .byte), (cI, .int), (cJ, .long), (cZ, .boolean), (cQ, .object "LogDesk$Block")] A [(h0, .inr (5, [.ref h1])), (h1, .inl (cI, 6, .inl (fun j => iZ (g j))))]) A) [.ref h0].toArray s 0 0 A = QQ
  have hA : ∀ q : Nat, s.heap.size ≤ q → A q := fun q h => by rw [← hAe]; exact Or.inr h
  have hS : va_S A s.heap s.heap [] := va_S.rf
  have hP : va_P (dC, dI) vwCl [(h0, .inr (5, [.ref h1])), (h1, .inl (cI, 6, .inl (fun j => iZ (g j))))] s.heap := hP
  have hl := lv_entry ([.ref h0]) (n := 3) (Nat.le_of_ble_eq_true rfl)
  rw [lg_entry_eq]
  generalize (lg_sl ([.ref h0]) ++ List.replicate (3 - (lg_sl ([.ref h0])).length) Slot.unset).toArray = ls at hl ⊢
  have hl : lv_has ls 3 [(0, .ref h0)] := hl
  refine lv_iconst (v := iZ 0) hx hb d_Wa_count_0 rfl ?_
  refine lv_istore_n (lv' := [(1, .int (iZ 0)), (0, .ref h0)]) hx hb d_Wa_count_1 rfl hl (by decide) rfl (fun ls hl => ?_)
  refine lv_iconst (v := iZ 0) hx hb d_Wa_count_2 rfl ?_
  refine lv_istore_n (lv' := [(2, .int (iZ 0)), (1, .int (iZ 0)), (0, .ref h0)]) hx hb d_Wa_count_3 rfl hl (by decide) rfl (fun ls hl => ?_)
  have loop4 : ∀ (nn : Nat) (i : Int) (f : Int) (H : Heap) (locs : List Loc) (ls : Array Slot), (0 ≤ i ∧ i ≤ 6) → (f = wcnt g i.toNat) → (0 ≤ f ∧ f ≤ i) → (6 - i < (nn : Int)) → va_P (dC, dI) vwCl [(h0, .inr (5, [.ref h1])), (h1, .inl (cI, 6, .inl (fun j => iZ (g j))))] H → va_D A [(h0, .inr (5, [.ref h1])), (h1, .inl (cI, 6, .inl (fun j => iZ (g j))))] → va_S A s.heap H locs → lv_has ls 3 [(0, .ref h0), (1, .int (iZ f)), (2, .int (iZ i))] → W p l e (headSpec ((Cond.code y_Wa_count prog_7_method_8_code 3 (some .int)) :: gw) ({ frames := 2, cells := 0, slots := 0, locals := 45 } : Room)).room s m [.ref h0].toArray below meth c H locs 0 0 QQ (F0 m 4 ls []) := by
    intro nn
    induction nn with
    | zero => intro i f H locs ls hi hf hf2 hm hP hD hS hl; exfalso; omega
    | succ nn ih =>
      intro i f H locs ls hi hf hf2 hm hP hD hS hl
      have hg1 := hg i.toNat
      refine lv_iload_n hx hb d_Wa_count_4 rfl (lv_at hl 2 rfl) ?_
      refine lv_bipush (v := iZ 6) hx hb d_Wa_count_5 (by decide) ?_
      refine zz_icmp_ge (tgt := 27) hx hb d_Wa_count_7 (by decide) ⟨by omega, by omega⟩ ⟨by omega, by omega⟩ (fun c_1 => ?_) (fun c_1 => ?_)
      · refine lv_iload_n hx hb d_Wa_count_27 rfl (lv_at hl 1 rfl) ?_
        subst hQ
        exact W.iret (v := (iZ f)) hx hb hr (fun t ht hW => ⟨⟨_, (), rfl, (congrArg iZ (by rw [hf]; congr 1; omega)), by rw [ht]; exact hP, va_K.moved hW.alike hK, hAe ▸ hD⟩, hAe ▸ hS.F ht⟩) (hAe ▸ hS.2.2) d_Wa_count_28
      · refine lv_aload_n hx hb d_Wa_count_10 rfl (lv_at hl 0 rfl) ?_
        refine lv_iload_n hx hb d_Wa_count_11 rfl (lv_at hl 2 rfl) ?_
        refine z_i (wr := []) (va_runV (As := [.int (iZ i)]) (rest := []) ⟨hx, hb, hml, hown, htg⟩ (c_Wa_has l dC dI cB cI cJ cZ cQ h0 h1 H.size g i hg (⟨by omega, by omega⟩)) (cwV 1 htg (gw_V k_145 k_146 k_147 k_4 k_148) rfl rfl rfl (by decide +kernel) ⟨Nat.le_of_ble_eq_true rfl, Nat.le_of_ble_eq_true rfl⟩) (zPreV hK hP hD hZ [0, 1] rfl (by decide) 0 (ci := 5) rfl rfl) rfl rfl hl.1 rfl (lv_room (Nat.le_of_ble_eq_true rfl)) d_Wa_count_12 ⟨by omega, by omega⟩) hP hD hS hA [0, 1] [] rfl rfl (by decide) (by decide) (fun H locs hP hD hS => ?_)
        have hP : va_P (dC, dI) vwCl [(h0, .inr (5, [.ref h1])), (h1, .inl (cI, 6, .inl (fun j => iZ (g j))))] H := hP
        have hD : va_D A [(h0, .inr (5, [.ref h1])), (h1, .inl (cI, 6, .inl (fun j => iZ (g j))))] := hD
        rcases Classical.em ((0 ≤ i ∧ i < 6) ∧ g i.toNat ≠ 0) with b_2 | b_2
        · rw [if_pos b_2]
          refine zz_if_eq (tgt := 21) hx hb d_Wa_count_15 (by decide) ⟨by omega, by omega⟩ (fun c_3 => ?_) (fun c_3 => ?_)
          · exfalso; omega
          · refine lv_iinc (v := iZ (f + 1)) (lv' := [(1, .int (iZ (f + 1))), (0, .ref h0), (2, .int (iZ i))]) hx hb d_Wa_count_18 hl (k := 1) rfl (iZ_add _ _) (by decide) rfl (fun ls hl => ?_)
            refine lv_iinc (v := iZ (i + 1)) (lv' := [(2, .int (iZ (i + 1))), (1, .int (iZ (f + 1))), (0, .ref h0)]) hx hb d_Wa_count_21 hl (k := 2) rfl (iZ_add _ _) (by decide) rfl (fun ls hl => ?_)
            refine lv_goto (tgt := 4) hx hb d_Wa_count_24 (by decide) ?_
            exact ih (i + 1) (f + 1) H _ ls (by omega) (by rw [wcnt_step hi.1, ← hf]; omega) (by omega) (by omega) hP hD hS (lv_sub hl [2, 1, 0] rfl)
        · rw [if_neg b_2]
          refine zz_if_eq (tgt := 21) hx hb d_Wa_count_15 (by decide) ⟨by omega, by omega⟩ (fun c_4 => ?_) (fun c_4 => ?_)
          · refine lv_iinc (v := iZ (i + 1)) (lv' := [(2, .int (iZ (i + 1))), (0, .ref h0), (1, .int (iZ f))]) hx hb d_Wa_count_21 hl (k := 2) rfl (iZ_add _ _) (by decide) rfl (fun ls hl => ?_)
            refine lv_goto (tgt := 4) hx hb d_Wa_count_24 (by decide) ?_
            exact ih (i + 1) f H _ ls (by omega) (by rw [wcnt_step hi.1, ← hf]; omega) (by omega) (by omega) hP hD hS (lv_sub hl [1, 2, 0] rfl)
          · exfalso; omega
  exact loop4 (Int.toNat (6 - 0) + 1) 0 0 s.heap _ ls (by omega) rfl (by omega) (by omega) hP hD hS (lv_sub hl [2, 1, 0] rfl)
set_option maxHeartbeats 4000000 in
set_option maxRecDepth 100000 in
theorem c_Wa_clear (l : Launch) (dC : Nat → ClassId) (dI : Nat → Nat → Nat) (cB : ClassId) (cI : ClassId) (cJ : ClassId) (cZ : ClassId) (cQ : ClassId) (h0 h1 : Nat) (sz : Nat) (g : Nat → Int) : Met l y_Wa_clear ((Cond.code y_Wa_clear prog_7_method_9_code 1 none) :: gw) ({ frames := 1, cells := 0, slots := 0, locals := 23 } : Room) (zPc (dC, dI) [(cB, .byte), (cI, .int), (cJ, .long), (cZ, .boolean), (cQ, .object "LogDesk$Block")] [.ref h0] [(h0, .inr (5, [.ref h1])), (h1, .inl (cI, 6, .inl (fun j => iZ (g j))))] sz) (va_Qv (fun (_ : Unit) => True) (zB (dC, dI) [(cB, .byte), (cI, .int), (cJ, .long), (cZ, .boolean), (cQ, .object "LogDesk$Block")] (va_A [(h0, .inr (5, [.ref h1])), (h1, .inl (cI, 6, .inl (fun j => iZ (g j))))] sz) [(h0, .inr (5, [.ref h1])), (h1, .inl (cI, 6, .inl (fun j => iZ ((fun j => if j < 6 then 0 else g j) j))))]) (va_A [(h0, .inr (5, [.ref h1])), (h1, .inl (cI, 6, .inl (fun j => iZ (g j))))] sz)) 0 0 (va_A [(h0, .inr (5, [.ref h1])), (h1, .inl (cI, 6, .inl (fun j => iZ (g j))))] sz) := by
  refine Met.ofW (cc := prog_7_method_9_code) (maxL := 1) (ret := none) (by decide) rfl ?_
  intro p e s m args below meth c s₁ B hml hv
  obtain ⟨rfl, hsz, hP, hK, hD0, hZ⟩ := hv
  have hx := B.exec
  have hb := B.bytes
  have hr := B.returns
  have hts := atoms_spec (ws := (Cond.code y_Wa_clear prog_7_method_9_code 1 none) :: gw) B.pre
  have htg : ∀ w ∈ gw, w.before _ s = true := fun w h => hts w (List.mem_cons_of_mem _ h)
  have hown : s.vm.findClass "LogDesk$Waiting" = some m.cls := findClass_of_methodNamed B.named
  have hlocks := B.notSynchronized
  subst hsz
  have hD := hD0.self (sz := s.heap.size)
  generalize hAe : va_A [(h0, .inr (5, [.ref h1])), (h1, .inl (cI, 6, .inl (fun j => iZ (g j))))] s.heap.size = A at hD ⊢
  have hRc : (headSpec ((Cond.code y_Wa_clear prog_7_method_9_code 1 none) :: gw) ({ frames := 1, cells := 0, slots := 0, locals := 23 } : Room)).room.cells = 0 := rfl
  have hRs : (headSpec ((Cond.code y_Wa_clear prog_7_method_9_code 1 none) :: gw) ({ frames := 1, cells := 0, slots := 0, locals := 23 } : Room)).room.slots = 0 := rfl
  have hA : ∀ q : Nat, s.heap.size ≤ q → A q := fun q h => by rw [← hAe]; exact Or.inr h
  have hS : va_S A s.heap s.heap [] := va_S.rf
  have hP : va_P (dC, dI) vwCl [(h0, .inr (5, [.ref h1])), (h1, .inl (cI, 6, .inl (fun j => iZ (g j))))] s.heap := hP
  have hl := lv_entry ([.ref h0]) (n := 1) (Nat.le_of_ble_eq_true rfl)
  rw [lg_entry_eq]
  generalize (lg_sl ([.ref h0]) ++ List.replicate (1 - (lg_sl ([.ref h0])).length) Slot.unset).toArray = ls at hl ⊢
  have hl : lv_has ls 1 [(0, .ref h0)] := hl
  refine lv_aload_n hx hb d_Wa_clear_0 rfl (lv_at hl 0 rfl) ?_
  refine va_get (D := (dC, dI)) (ci := 5) (v := .ref h1) (C := "LogDesk$Waiting") (T := F_Wa) (N := 1) hx hb htg hin_Wa hown hK hP 0 rfl rfl 0 (by decide) (htg _ k_58) (fun _ h9 => h9) rfl d_Wa_clear_1 ?_
  refine lv_iconst (v := iZ 0) hx hb d_Wa_clear_4 rfl ?_
  refine z_v (wr := [(h0, .inr (5, [.ref h1]))]) (va_runS (As := [.ref h1, .int (iZ 0)]) (rest := []) ⟨hx, hb, hml, hown, htg⟩ (c_Ar_fillI l dC dI cB cI cJ cZ cQ h1 s.heap.size 6 g 0 (by omega)) (va_cwS 2 htg (gw_S k_211 k_212 k_14 k_213) rfl rfl rfl (by decide +kernel) ⟨Nat.le_of_ble_eq_true rfl, Nat.le_of_ble_eq_true rfl⟩) (zPreS hK hP hD hZ [1] rfl (by decide)) rfl rfl hl.1 rfl (lv_room (Nat.le_of_ble_eq_true rfl)) d_Wa_clear_5 ⟨by omega, by omega⟩) hP hD hS hA [1] [0] rfl rfl (by decide) (by decide) (fun H locs hP hD hS => ?_)
  have hP : va_P (dC, dI) vwCl [(h0, .inr (5, [.ref h1])), (h1, .inl (cI, 6, .inl (fun j => iZ ((fun j => if j < 6 then 0 else g j) j))))] H := hP
  have hD : va_D A [(h0, .inr (5, [.ref h1])), (h1, .inl (cI, 6, .inl (fun j => iZ ((fun j => if j < 6 then 0 else g j) j))))] := hD
  exact W.vret hx hb hr (fun t ht hW => ⟨⟨(), rfl, trivial, by rw [ht]; exact hP, va_K.moved hW.alike hK, hAe ▸ hD⟩, hAe ▸ hS.F ht⟩) (hAe ▸ hS.2.2) d_Wa_clear_8
set_option maxHeartbeats 4000000 in
set_option maxRecDepth 100000 in
theorem c_Pa_count (l : Launch) (dC : Nat → ClassId) (dI : Nat → Nat → Nat) (cB : ClassId) (cI : ClassId) (cJ : ClassId) (cZ : ClassId) (cQ : ClassId) (h0 h1 : Nat) (sz : Nat) (f : Nat → Int64) (pn : Int) : Met l y_Pa_count ((Cond.code y_Pa_count prog_5_method_2_code 1 (some .int)) :: gw) ({ frames := 0, cells := 0, slots := 0, locals := 0 } : Room) (zPc (dC, dI) [(cB, .byte), (cI, .int), (cJ, .long), (cZ, .boolean), (cQ, .object "LogDesk$Block")] [.ref h0] [(h0, .inr (3, [.ref h1, .int (iZ pn)])), (h1, .inl (cJ, 32, .inr (.inl f)))] sz) (va_Qi (fun (r : Int32) (_ : Unit) => r = iZ pn) (zB (dC, dI) [(cB, .byte), (cI, .int), (cJ, .long), (cZ, .boolean), (cQ, .object "LogDesk$Block")] (va_A [(h0, .inr (3, [.ref h1, .int (iZ pn)])), (h1, .inl (cJ, 32, .inr (.inl f)))] sz) [(h0, .inr (3, [.ref h1, .int (iZ pn)])), (h1, .inl (cJ, 32, .inr (.inl f)))]) (va_A [(h0, .inr (3, [.ref h1, .int (iZ pn)])), (h1, .inl (cJ, 32, .inr (.inl f)))] sz)) 0 0 (va_A [(h0, .inr (3, [.ref h1, .int (iZ pn)])), (h1, .inl (cJ, 32, .inr (.inl f)))] sz) := by
  refine Met.ofW (cc := prog_5_method_2_code) (maxL := 1) (ret := (some .int)) (by decide) rfl ?_
  intro p e s m args below meth c s₁ B hml hv
  obtain ⟨rfl, hsz, hP, hK, hD0, hZ⟩ := hv
  have hx := B.exec
  have hb := B.bytes
  have hr := B.returns
  have hts := atoms_spec (ws := (Cond.code y_Pa_count prog_5_method_2_code 1 (some .int)) :: gw) B.pre
  have htg : ∀ w ∈ gw, w.before _ s = true := fun w h => hts w (List.mem_cons_of_mem _ h)
  have hown : s.vm.findClass "LogDesk$Pages" = some m.cls := findClass_of_methodNamed B.named
  have hlocks := B.notSynchronized
  subst hsz
  have hD := hD0.self (sz := s.heap.size)
  generalize hAe : va_A [(h0, .inr (3, [.ref h1, .int (iZ pn)])), (h1, .inl (cJ, 32, .inr (.inl f)))] s.heap.size = A at hD ⊢
  have hRc : (headSpec ((Cond.code y_Pa_count prog_5_method_2_code 1 (some .int)) :: gw) ({ frames := 0, cells := 0, slots := 0, locals := 0 } : Room)).room.cells = 0 := rfl
  have hRs : (headSpec ((Cond.code y_Pa_count prog_5_method_2_code 1 (some .int)) :: gw) ({ frames := 0, cells := 0, slots := 0, locals := 0 } : Room)).room.slots = 0 := rfl
  have hA : ∀ q : Nat, s.heap.size ≤ q → A q := fun q h => by rw [← hAe]; exact Or.inr h
  have hS : va_S A s.heap s.heap [] := va_S.rf
  have hP : va_P (dC, dI) vwCl [(h0, .inr (3, [.ref h1, .int (iZ pn)])), (h1, .inl (cJ, 32, .inr (.inl f)))] s.heap := hP
  have hl := lv_entry ([.ref h0]) (n := 1) (Nat.le_of_ble_eq_true rfl)
  rw [lg_entry_eq]
  generalize (lg_sl ([.ref h0]) ++ List.replicate (1 - (lg_sl ([.ref h0])).length) Slot.unset).toArray = ls at hl ⊢
  have hl : lv_has ls 1 [(0, .ref h0)] := hl
  refine lv_aload_n hx hb d_Pa_count_0 rfl (lv_at hl 0 rfl) ?_
  refine va_get (D := (dC, dI)) (ci := 3) (v := .int (iZ pn)) (C := "LogDesk$Pages") (T := F_Pa) (N := 2) hx hb htg hin_Pa hown hK hP 0 rfl rfl 1 (by decide) (htg _ k_70) (fun _ h9 => h9) rfl d_Pa_count_1 ?_
  exact W.iret (v := (iZ pn)) hx hb hr (fun t ht hW => ⟨⟨_, (), rfl, rfl, by rw [ht]; exact hP, va_K.moved hW.alike hK, hAe ▸ hD⟩, hAe ▸ hS.F ht⟩) (hAe ▸ hS.2.2) d_Pa_count_4
set_option maxHeartbeats 4000000 in
set_option maxRecDepth 100000 in
theorem c_Pa_clear (l : Launch) (dC : Nat → ClassId) (dI : Nat → Nat → Nat) (cB : ClassId) (cI : ClassId) (cJ : ClassId) (cZ : ClassId) (cQ : ClassId) (h0 h1 : Nat) (sz : Nat) (f : Nat → Int64) (pn : Int) : Met l y_Pa_clear ((Cond.code y_Pa_clear prog_5_method_4_code 1 none) :: gw) ({ frames := 1, cells := 0, slots := 0, locals := 24 } : Room) (zPc (dC, dI) [(cB, .byte), (cI, .int), (cJ, .long), (cZ, .boolean), (cQ, .object "LogDesk$Block")] [.ref h0] [(h0, .inr (3, [.ref h1, .int (iZ pn)])), (h1, .inl (cJ, 32, .inr (.inl f)))] sz) (va_Qv (fun (_ : Unit) => True) (zB (dC, dI) [(cB, .byte), (cI, .int), (cJ, .long), (cZ, .boolean), (cQ, .object "LogDesk$Block")] (va_A [(h0, .inr (3, [.ref h1, .int (iZ pn)])), (h1, .inl (cJ, 32, .inr (.inl f)))] sz) [(h0, .inr (3, [.ref h1, .int (iZ 0)])), (h1, .inl (cJ, 32, .inr (.inl (fun j => if j < 32 then 0 else f j))))]) (va_A [(h0, .inr (3, [.ref h1, .int (iZ pn)])), (h1, .inl (cJ, 32, .inr (.inl f)))] sz)) 0 0 (va_A [(h0, .inr (3, [.ref h1, .int (iZ pn)])), (h1, .inl (cJ, 32, .inr (.inl f)))] sz) := by
  refine Met.ofW (cc := prog_5_method_4_code) (maxL := 1) (ret := none) (by decide) rfl ?_
  intro p e s m args below meth c s₁ B hml hv
  obtain ⟨rfl, hsz, hP, hK, hD0, hZ⟩ := hv
  have hx := B.exec
  have hb := B.bytes
  have hr := B.returns
  have hts := atoms_spec (ws := (Cond.code y_Pa_clear prog_5_method_4_code 1 none) :: gw) B.pre
  have htg : ∀ w ∈ gw, w.before _ s = true := fun w h => hts w (List.mem_cons_of_mem _ h)
  have hown : s.vm.findClass "LogDesk$Pages" = some m.cls := findClass_of_methodNamed B.named
  have hlocks := B.notSynchronized
  subst hsz
  have hD := hD0.self (sz := s.heap.size)
  generalize hAe : va_A [(h0, .inr (3, [.ref h1, .int (iZ pn)])), (h1, .inl (cJ, 32, .inr (.inl f)))] s.heap.size = A at hD ⊢
  have hRc : (headSpec ((Cond.code y_Pa_clear prog_5_method_4_code 1 none) :: gw) ({ frames := 1, cells := 0, slots := 0, locals := 24 } : Room)).room.cells = 0 := rfl
  have hRs : (headSpec ((Cond.code y_Pa_clear prog_5_method_4_code 1 none) :: gw) ({ frames := 1, cells := 0, slots := 0, locals := 24 } : Room)).room.slots = 0 := rfl
  have hA : ∀ q : Nat, s.heap.size ≤ q → A q := fun q h => by rw [← hAe]; exact Or.inr h
  have hS : va_S A s.heap s.heap [] := va_S.rf
  have hP : va_P (dC, dI) vwCl [(h0, .inr (3, [.ref h1, .int (iZ pn)])), (h1, .inl (cJ, 32, .inr (.inl f)))] s.heap := hP
  have hl := lv_entry ([.ref h0]) (n := 1) (Nat.le_of_ble_eq_true rfl)
  rw [lg_entry_eq]
  generalize (lg_sl ([.ref h0]) ++ List.replicate (1 - (lg_sl ([.ref h0])).length) Slot.unset).toArray = ls at hl ⊢
  have hl : lv_has ls 1 [(0, .ref h0)] := hl
  refine lv_aload_n hx hb d_Pa_clear_0 rfl (lv_at hl 0 rfl) ?_
  refine va_get (D := (dC, dI)) (ci := 3) (v := .ref h1) (C := "LogDesk$Pages") (T := F_Pa) (N := 2) hx hb htg hin_Pa hown hK hP 0 rfl rfl 0 (by decide) (htg _ k_69) (fun _ h9 => h9) rfl d_Pa_clear_1 ?_
  refine lv_lconst (v := 0) hx hb d_Pa_clear_4 (by decide) ?_
  refine z_v (wr := [(h0, .inr (3, [.ref h1, .int (iZ pn)]))]) (va_runS (As := [.ref h1, .long 0]) (rest := []) ⟨hx, hb, hml, hown, htg⟩ (c_Ar_fillJ l dC dI cB cI cJ cZ cQ h1 s.heap.size 32 f 0 (by omega)) (va_cwS 2 htg (gw_S k_177 k_178 k_14 k_179) rfl rfl rfl (by decide +kernel) ⟨Nat.le_of_ble_eq_true rfl, Nat.le_of_ble_eq_true rfl⟩) (zPreS hK hP hD hZ [1] rfl (by decide)) rfl rfl hl.1 rfl (lv_room (Nat.le_of_ble_eq_true rfl)) d_Pa_clear_5 ⟨by omega, by omega⟩) hP hD hS hA [1] [0] rfl rfl (by decide) (by decide) (fun H locs hP hD hS => ?_)
  have hP : va_P (dC, dI) vwCl [(h0, .inr (3, [.ref h1, .int (iZ pn)])), (h1, .inl (cJ, 32, .inr (.inl (fun j => if j < 32 then 0 else f j))))] H := hP
  have hD : va_D A [(h0, .inr (3, [.ref h1, .int (iZ pn)])), (h1, .inl (cJ, 32, .inr (.inl (fun j => if j < 32 then 0 else f j))))] := hD
  refine lv_aload_n hx hb d_Pa_clear_8 rfl (lv_at hl 0 rfl) ?_
  refine lv_iconst (v := iZ 0) hx hb d_Pa_clear_9 rfl ?_
  refine va_put (D := (dC, dI)) (ci := 3) (v := .int (iZ 0)) (ty := t_Pa 1) (C := "LogDesk$Pages") (T := F_Pa) (N := 2) hx hb htg hin_Pa t_Pa t_Pa_ok n_Pa hown hK hP hD hS 0 rfl rfl 1 (by decide) (htg _ k_70) (fun _ h9 => h9) rfl (by decide +kernel) rfl rfl (Nat.le_of_ble_eq_true rfl) d_Pa_clear_10 (fun H locs hP hD hS => ?_)
  have hP : va_P (dC, dI) vwCl [(h0, .inr (3, [.ref h1, .int (iZ 0)])), (h1, .inl (cJ, 32, .inr (.inl (fun j => if j < 32 then 0 else f j))))] H := hP
  have hD : va_D A [(h0, .inr (3, [.ref h1, .int (iZ 0)])), (h1, .inl (cJ, 32, .inr (.inl (fun j => if j < 32 then 0 else f j))))] := hD
  exact W.vret hx hb hr (fun t ht hW => ⟨⟨(), rfl, trivial, by rw [ht]; exact hP, va_K.moved hW.alike hK, hAe ▸ hD⟩, hAe ▸ hS.F ht⟩) (hAe ▸ hS.2.2) d_Pa_clear_13
set_option maxHeartbeats 4000000 in
set_option maxRecDepth 100000 in
theorem c_Pa_add (l : Launch) (dC : Nat → ClassId) (dI : Nat → Nat → Nat) (cB : ClassId) (cI : ClassId) (cJ : ClassId) (cZ : ClassId) (cQ : ClassId) (h0 h1 : Nat) (sz : Nat) (f : Nat → Int64) (pn : Int) (x : Int) (hx0 : iB x) (hb0 : 0 ≤ pn ∧ pn < 1000000000) : Met l y_Pa_add ((Cond.code y_Pa_add prog_5_method_3_code 5 (some .boolean)) :: gw) ({ frames := 0, cells := 0, slots := 0, locals := 0 } : Room) (zPc (dC, dI) [(cB, .byte), (cI, .int), (cJ, .long), (cZ, .boolean), (cQ, .object "LogDesk$Block")] [.ref h0, .int (iZ x)] [(h0, .inr (3, [.ref h1, .int (iZ pn)])), (h1, .inl (cJ, 32, .inr (.inl f)))] sz) (va_Qi (fun (r : Int32) (_ : Unit) => r = iZ (if (0 ≤ x ∧ x < 2048) ∧ (f (x / 64).toNat &&& (1 <<< ((iZ (x % 64)).toInt64 &&& 63))) = 0 then 1 else 0)) (zB (dC, dI) [(cB, .byte), (cI, .int), (cJ, .long), (cZ, .boolean), (cQ, .object "LogDesk$Block")] (va_A [(h0, .inr (3, [.ref h1, .int (iZ pn)])), (h1, .inl (cJ, 32, .inr (.inl f)))] sz) [(h0, .inr (3, [.ref h1, .int (iZ (if (0 ≤ x ∧ x < 2048) ∧ (f (x / 64).toNat &&& (1 <<< ((iZ (x % 64)).toInt64 &&& 63))) = 0 then pn + 1 else pn))])), (h1, .inl (cJ, 32, .inr (.inl (if (0 ≤ x ∧ x < 2048) ∧ (f (x / 64).toNat &&& (1 <<< ((iZ (x % 64)).toInt64 &&& 63))) = 0 then va_up f (x / 64).toNat (f (x / 64).toNat ||| (1 <<< ((iZ (x % 64)).toInt64 &&& 63))) else f))))]) (va_A [(h0, .inr (3, [.ref h1, .int (iZ pn)])), (h1, .inl (cJ, 32, .inr (.inl f)))] sz)) 0 0 (va_A [(h0, .inr (3, [.ref h1, .int (iZ pn)])), (h1, .inl (cJ, 32, .inr (.inl f)))] sz) := by
  refine Met.ofW (cc := prog_5_method_3_code) (maxL := 5) (ret := (some .boolean)) (by decide) rfl ?_
  intro p e s m args below meth c s₁ B hml hv
  obtain ⟨rfl, hsz, hP, hK, hD0, hZ⟩ := hv
  have hx := B.exec
  have hb := B.bytes
  have hr := B.returns
  have hts := atoms_spec (ws := (Cond.code y_Pa_add prog_5_method_3_code 5 (some .boolean)) :: gw) B.pre
  have htg : ∀ w ∈ gw, w.before _ s = true := fun w h => hts w (List.mem_cons_of_mem _ h)
  have hown : s.vm.findClass "LogDesk$Pages" = some m.cls := findClass_of_methodNamed B.named
  have hlocks := B.notSynchronized
  subst hsz
  have hD := hD0.self (sz := s.heap.size)
  generalize hAe : va_A [(h0, .inr (3, [.ref h1, .int (iZ pn)])), (h1, .inl (cJ, 32, .inr (.inl f)))] s.heap.size = A at hD ⊢
  have hRc : (headSpec ((Cond.code y_Pa_add prog_5_method_3_code 5 (some .boolean)) :: gw) ({ frames := 0, cells := 0, slots := 0, locals := 0 } : Room)).room.cells = 0 := rfl
  have hRs : (headSpec ((Cond.code y_Pa_add prog_5_method_3_code 5 (some .boolean)) :: gw) ({ frames := 0, cells := 0, slots := 0, locals := 0 } : Room)).room.slots = 0 := rfl
  have hA : ∀ q : Nat, s.heap.size ≤ q → A q := fun q h => by rw [← hAe]; exact Or.inr h
  have hS : va_S A s.heap s.heap [] := va_S.rf
  have hP : va_P (dC, dI) vwCl [(h0, .inr (3, [.ref h1, .int (iZ pn)])), (h1, .inl (cJ, 32, .inr (.inl f)))] s.heap := hP
  have hl := lv_entry ([.ref h0, .int (iZ x)]) (n := 5) (Nat.le_of_ble_eq_true rfl)
  rw [lg_entry_eq]
  generalize (lg_sl ([.ref h0, .int (iZ x)]) ++ List.replicate (5 - (lg_sl ([.ref h0, .int (iZ x)])).length) Slot.unset).toArray = ls at hl ⊢
  have hl : lv_has ls 5 [(0, .ref h0), (1, .int (iZ x))] := hl
  obtain ⟨hx1, hx2⟩ := hx0
  refine lv_iload_n hx hb d_Pa_add_0 rfl (lv_at hl 1 rfl) ?_
  refine zz_if_lt (tgt := 11) hx hb d_Pa_add_1 (by decide) ⟨by omega, by omega⟩ (fun c_1 => ?_) (fun c_1 => ?_)
  · refine lv_iconst (v := iZ 0) hx hb d_Pa_add_11 rfl ?_
    have eW : ∀ (x0 y0 : Int) (x1 y1 : Nat → Int64), x0 = y0 → x1 = y1 → ([(h0, .inr (3, [.ref h1, .int (iZ x0)])), (h1, .inl (cJ, 32, .inr (.inl x1)))] : va_W) = [(h0, .inr (3, [.ref h1, .int (iZ y0)])), (h1, .inl (cJ, 32, .inr (.inl y1)))] := by intros; subst_vars; rfl
    have eW := eW pn (if (0 ≤ x ∧ x < 2048) ∧ (f (x / 64).toNat &&& (1 <<< ((iZ (x % 64)).toInt64 &&& 63))) = 0 then pn + 1 else pn) f (if (0 ≤ x ∧ x < 2048) ∧ (f (x / 64).toNat &&& (1 <<< ((iZ (x % 64)).toInt64 &&& 63))) = 0 then va_up f (x / 64).toNat (f (x / 64).toNat ||| (1 <<< ((iZ (x % 64)).toInt64 &&& 63))) else f) ((if_neg (fun h => absurd h.1 (by omega))).symm) ((if_neg (fun h => absurd h.1 (by omega))).symm)
    have hP : va_P (dC, dI) vwCl [(h0, .inr (3, [.ref h1, .int (iZ (if (0 ≤ x ∧ x < 2048) ∧ (f (x / 64).toNat &&& (1 <<< ((iZ (x % 64)).toInt64 &&& 63))) = 0 then pn + 1 else pn))])), (h1, .inl (cJ, 32, .inr (.inl (if (0 ≤ x ∧ x < 2048) ∧ (f (x / 64).toNat &&& (1 <<< ((iZ (x % 64)).toInt64 &&& 63))) = 0 then va_up f (x / 64).toNat (f (x / 64).toNat ||| (1 <<< ((iZ (x % 64)).toInt64 &&& 63))) else f))))] s.heap := eW ▸ hP
    have hD : va_D A [(h0, .inr (3, [.ref h1, .int (iZ (if (0 ≤ x ∧ x < 2048) ∧ (f (x / 64).toNat &&& (1 <<< ((iZ (x % 64)).toInt64 &&& 63))) = 0 then pn + 1 else pn))])), (h1, .inl (cJ, 32, .inr (.inl (if (0 ≤ x ∧ x < 2048) ∧ (f (x / 64).toNat &&& (1 <<< ((iZ (x % 64)).toInt64 &&& 63))) = 0 then va_up f (x / 64).toNat (f (x / 64).toNat ||| (1 <<< ((iZ (x % 64)).toInt64 &&& 63))) else f))))] := eW ▸ hD
    exact W.zret (v := (iZ 0)) hx hb hr rfl (fun t ht hW => ⟨⟨_, (), rfl, (congrArg iZ (if_neg (fun h => absurd h.1 (by omega))).symm), by rw [ht]; exact hP, va_K.moved hW.alike hK, hAe ▸ hD⟩, hAe ▸ hS.F ht⟩) (hAe ▸ hS.2.2) d_Pa_add_12
  · refine lv_iload_n hx hb d_Pa_add_4 rfl (lv_at hl 1 rfl) ?_
    refine lv_sipush (v := iZ 2048) hx hb d_Pa_add_5 (by decide) ?_
    refine zz_icmp_lt (tgt := 13) hx hb d_Pa_add_8 (by decide) ⟨by omega, by omega⟩ ⟨by omega, by omega⟩ (fun c_2 => ?_) (fun c_2 => ?_)
    · refine lv_iload_n hx hb d_Pa_add_13 rfl (lv_at hl 1 rfl) ?_
      refine lv_bipush (v := iZ 64) hx hb d_Pa_add_14 (by decide) ?_
      refine zz_idiv hx hb (by omega) (by omega) (by omega) (by omega) d_Pa_add_16 ?_
      refine lv_istore_n (lv' := [(2, .int (iZ (x / 64))), (0, .ref h0), (1, .int (iZ x))]) hx hb d_Pa_add_17 rfl hl (by decide) rfl (fun ls hl => ?_)
      refine lv_lconst (v := 1) hx hb d_Pa_add_18 (by decide) ?_
      refine lv_iload_n hx hb d_Pa_add_19 rfl (lv_at hl 2 rfl) ?_
      refine lv_bipush (v := iZ 64) hx hb d_Pa_add_20 (by decide) ?_
      refine zz_irem hx hb (by omega) (by omega) (by omega) (by omega) d_Pa_add_22 ?_
      refine lv_lshl hx hb d_Pa_add_23 rfl ?_
      refine lv_lstore_n (lv' := [(3, .long (1 <<< (((iZ (x % 64))).toInt64 &&& 63))), (2, .int (iZ (x / 64))), (0, .ref h0), (1, .int (iZ x))]) hx hb d_Pa_add_24 rfl hl (by decide) rfl (fun ls hl => ?_)
      refine lv_aload_n hx hb d_Pa_add_25 rfl (lv_at hl 2 rfl) ?_
      refine va_get (D := (dC, dI)) (ci := 3) (v := .ref h1) (C := "LogDesk$Pages") (T := F_Pa) (N := 2) hx hb htg hin_Pa hown hK hP 0 rfl rfl 0 (by decide) (htg _ k_69) (fun _ h9 => h9) rfl d_Pa_add_26 ?_
      refine lv_iload_n hx hb d_Pa_add_29 rfl (lv_at hl 1 rfl) ?_
      refine zz_lald hx hb hK hP 1 2 rfl rfl (by omega) (by omega) (by omega) d_Pa_add_30 ?_
      refine lv_lload_n hx hb d_Pa_add_31 rfl (lv_at hl 0 rfl) ?_
      refine lv_land hx hb d_Pa_add_32 ?_
      refine lv_lconst (v := 0) hx hb d_Pa_add_33 (by decide) ?_
      refine W.lcmp hx hb d_Pa_add_34 ?_
      refine zc_if_eq (tgt := 40) hx hb d_Pa_add_35 (by decide) (fun c_3 => ?_) (fun c_3 => ?_)
      · have hq := c_3
        refine lv_aload_n hx hb d_Pa_add_40 rfl (lv_at hl 2 rfl) ?_
        refine va_get (D := (dC, dI)) (ci := 3) (v := .ref h1) (C := "LogDesk$Pages") (T := F_Pa) (N := 2) hx hb htg hin_Pa hown hK hP 0 rfl rfl 0 (by decide) (htg _ k_69) (fun _ h9 => h9) rfl d_Pa_add_41 ?_
        refine lv_iload_n hx hb d_Pa_add_44 rfl (lv_at hl 1 rfl) ?_
        refine lv_dup2_11 hx hb d_Pa_add_45 rfl rfl ?_
        refine zz_lald hx hb hK hP 1 2 rfl rfl (by omega) (by omega) (by omega) d_Pa_add_46 ?_
        refine lv_lload_n hx hb d_Pa_add_47 rfl (lv_at hl 0 rfl) ?_
        refine lv_lor hx hb d_Pa_add_48 ?_
        refine zz_last hx hb hK hP hD hS 1 2 rfl rfl (by omega) (by omega) (by omega) d_Pa_add_49 (fun H locs hP hD hS => ?_)
        have hP : va_P (dC, dI) vwCl [(h0, .inr (3, [.ref h1, .int (iZ pn)])), (h1, .inl (cJ, 32, .inr (.inl (va_up f ((x / 64)).toNat (f ((x / 64)).toNat ||| (1 <<< (((iZ (x % 64))).toInt64 &&& 63)))))))] H := hP
        have hD : va_D A [(h0, .inr (3, [.ref h1, .int (iZ pn)])), (h1, .inl (cJ, 32, .inr (.inl (va_up f ((x / 64)).toNat (f ((x / 64)).toNat ||| (1 <<< (((iZ (x % 64))).toInt64 &&& 63)))))))] := hD
        refine lv_aload_n hx hb d_Pa_add_50 rfl (lv_at hl 2 rfl) ?_
        refine lv_dup hx hb d_Pa_add_51 rfl ?_
        refine va_get (D := (dC, dI)) (ci := 3) (v := .int (iZ pn)) (C := "LogDesk$Pages") (T := F_Pa) (N := 2) hx hb htg hin_Pa hown hK hP 0 rfl rfl 1 (by decide) (htg _ k_70) (fun _ h9 => h9) rfl d_Pa_add_52 ?_
        refine lv_iconst (v := iZ 1) hx hb d_Pa_add_55 rfl ?_
        refine zz_iadd hx hb d_Pa_add_56 ?_
        refine va_put (D := (dC, dI)) (ci := 3) (v := .int (iZ (pn + 1))) (ty := t_Pa 1) (C := "LogDesk$Pages") (T := F_Pa) (N := 2) hx hb htg hin_Pa t_Pa t_Pa_ok n_Pa hown hK hP hD hS 0 rfl rfl 1 (by decide) (htg _ k_70) (fun _ h9 => h9) rfl (by decide +kernel) rfl rfl (Nat.le_of_ble_eq_true rfl) d_Pa_add_57 (fun H locs hP hD hS => ?_)
        have hP : va_P (dC, dI) vwCl [(h0, .inr (3, [.ref h1, .int (iZ (pn + 1))])), (h1, .inl (cJ, 32, .inr (.inl (va_up f ((x / 64)).toNat (f ((x / 64)).toNat ||| (1 <<< (((iZ (x % 64))).toInt64 &&& 63)))))))] H := hP
        have hD : va_D A [(h0, .inr (3, [.ref h1, .int (iZ (pn + 1))])), (h1, .inl (cJ, 32, .inr (.inl (va_up f ((x / 64)).toNat (f ((x / 64)).toNat ||| (1 <<< (((iZ (x % 64))).toInt64 &&& 63)))))))] := hD
        refine lv_iconst (v := iZ 1) hx hb d_Pa_add_60 rfl ?_
        have eW : ∀ (x0 y0 : Int) (x1 y1 : Nat → Int64), x0 = y0 → x1 = y1 → ([(h0, .inr (3, [.ref h1, .int (iZ x0)])), (h1, .inl (cJ, 32, .inr (.inl x1)))] : va_W) = [(h0, .inr (3, [.ref h1, .int (iZ y0)])), (h1, .inl (cJ, 32, .inr (.inl y1)))] := by intros; subst_vars; rfl
        have eW := eW (pn + 1) (if (0 ≤ x ∧ x < 2048) ∧ (f (x / 64).toNat &&& (1 <<< ((iZ (x % 64)).toInt64 &&& 63))) = 0 then pn + 1 else pn) (va_up f ((x / 64)).toNat (f ((x / 64)).toNat ||| (1 <<< (((iZ (x % 64))).toInt64 &&& 63)))) (if (0 ≤ x ∧ x < 2048) ∧ (f (x / 64).toNat &&& (1 <<< ((iZ (x % 64)).toInt64 &&& 63))) = 0 then va_up f (x / 64).toNat (f (x / 64).toNat ||| (1 <<< ((iZ (x % 64)).toInt64 &&& 63))) else f) ((if_pos ⟨⟨by omega, by omega⟩, hq⟩).symm) ((if_pos ⟨⟨by omega, by omega⟩, hq⟩).symm)
        have hP : va_P (dC, dI) vwCl [(h0, .inr (3, [.ref h1, .int (iZ (if (0 ≤ x ∧ x < 2048) ∧ (f (x / 64).toNat &&& (1 <<< ((iZ (x % 64)).toInt64 &&& 63))) = 0 then pn + 1 else pn))])), (h1, .inl (cJ, 32, .inr (.inl (if (0 ≤ x ∧ x < 2048) ∧ (f (x / 64).toNat &&& (1 <<< ((iZ (x % 64)).toInt64 &&& 63))) = 0 then va_up f (x / 64).toNat (f (x / 64).toNat ||| (1 <<< ((iZ (x % 64)).toInt64 &&& 63))) else f))))] H := eW ▸ hP
        have hD : va_D A [(h0, .inr (3, [.ref h1, .int (iZ (if (0 ≤ x ∧ x < 2048) ∧ (f (x / 64).toNat &&& (1 <<< ((iZ (x % 64)).toInt64 &&& 63))) = 0 then pn + 1 else pn))])), (h1, .inl (cJ, 32, .inr (.inl (if (0 ≤ x ∧ x < 2048) ∧ (f (x / 64).toNat &&& (1 <<< ((iZ (x % 64)).toInt64 &&& 63))) = 0 then va_up f (x / 64).toNat (f (x / 64).toNat ||| (1 <<< ((iZ (x % 64)).toInt64 &&& 63))) else f))))] := eW ▸ hD
        exact W.zret (v := (iZ 1)) hx hb hr rfl (fun t ht hW => ⟨⟨_, (), rfl, (congrArg iZ (if_pos ⟨⟨by omega, by omega⟩, hq⟩).symm), by rw [ht]; exact hP, va_K.moved hW.alike hK, hAe ▸ hD⟩, hAe ▸ hS.F ht⟩) (hAe ▸ hS.2.2) d_Pa_add_61
      · have hq := c_3
        refine lv_iconst (v := iZ 0) hx hb d_Pa_add_38 rfl ?_
        have eW : ∀ (x0 y0 : Int) (x1 y1 : Nat → Int64), x0 = y0 → x1 = y1 → ([(h0, .inr (3, [.ref h1, .int (iZ x0)])), (h1, .inl (cJ, 32, .inr (.inl x1)))] : va_W) = [(h0, .inr (3, [.ref h1, .int (iZ y0)])), (h1, .inl (cJ, 32, .inr (.inl y1)))] := by intros; subst_vars; rfl
        have eW := eW pn (if (0 ≤ x ∧ x < 2048) ∧ (f (x / 64).toNat &&& (1 <<< ((iZ (x % 64)).toInt64 &&& 63))) = 0 then pn + 1 else pn) f (if (0 ≤ x ∧ x < 2048) ∧ (f (x / 64).toNat &&& (1 <<< ((iZ (x % 64)).toInt64 &&& 63))) = 0 then va_up f (x / 64).toNat (f (x / 64).toNat ||| (1 <<< ((iZ (x % 64)).toInt64 &&& 63))) else f) ((if_neg (fun h => hq h.2)).symm) ((if_neg (fun h => hq h.2)).symm)
        have hP : va_P (dC, dI) vwCl [(h0, .inr (3, [.ref h1, .int (iZ (if (0 ≤ x ∧ x < 2048) ∧ (f (x / 64).toNat &&& (1 <<< ((iZ (x % 64)).toInt64 &&& 63))) = 0 then pn + 1 else pn))])), (h1, .inl (cJ, 32, .inr (.inl (if (0 ≤ x ∧ x < 2048) ∧ (f (x / 64).toNat &&& (1 <<< ((iZ (x % 64)).toInt64 &&& 63))) = 0 then va_up f (x / 64).toNat (f (x / 64).toNat ||| (1 <<< ((iZ (x % 64)).toInt64 &&& 63))) else f))))] s.heap := eW ▸ hP
        have hD : va_D A [(h0, .inr (3, [.ref h1, .int (iZ (if (0 ≤ x ∧ x < 2048) ∧ (f (x / 64).toNat &&& (1 <<< ((iZ (x % 64)).toInt64 &&& 63))) = 0 then pn + 1 else pn))])), (h1, .inl (cJ, 32, .inr (.inl (if (0 ≤ x ∧ x < 2048) ∧ (f (x / 64).toNat &&& (1 <<< ((iZ (x % 64)).toInt64 &&& 63))) = 0 then va_up f (x / 64).toNat (f (x / 64).toNat ||| (1 <<< ((iZ (x % 64)).toInt64 &&& 63))) else f))))] := eW ▸ hD
        exact W.zret (v := (iZ 0)) hx hb hr rfl (fun t ht hW => ⟨⟨_, (), rfl, (congrArg iZ (if_neg (fun h => hq h.2)).symm), by rw [ht]; exact hP, va_K.moved hW.alike hK, hAe ▸ hD⟩, hAe ▸ hS.F ht⟩) (hAe ▸ hS.2.2) d_Pa_add_39
    · refine lv_iconst (v := iZ 0) hx hb d_Pa_add_11 rfl ?_
      have eW : ∀ (x0 y0 : Int) (x1 y1 : Nat → Int64), x0 = y0 → x1 = y1 → ([(h0, .inr (3, [.ref h1, .int (iZ x0)])), (h1, .inl (cJ, 32, .inr (.inl x1)))] : va_W) = [(h0, .inr (3, [.ref h1, .int (iZ y0)])), (h1, .inl (cJ, 32, .inr (.inl y1)))] := by intros; subst_vars; rfl
      have eW := eW pn (if (0 ≤ x ∧ x < 2048) ∧ (f (x / 64).toNat &&& (1 <<< ((iZ (x % 64)).toInt64 &&& 63))) = 0 then pn + 1 else pn) f (if (0 ≤ x ∧ x < 2048) ∧ (f (x / 64).toNat &&& (1 <<< ((iZ (x % 64)).toInt64 &&& 63))) = 0 then va_up f (x / 64).toNat (f (x / 64).toNat ||| (1 <<< ((iZ (x % 64)).toInt64 &&& 63))) else f) ((if_neg (fun h => absurd h.1 (by omega))).symm) ((if_neg (fun h => absurd h.1 (by omega))).symm)
      have hP : va_P (dC, dI) vwCl [(h0, .inr (3, [.ref h1, .int (iZ (if (0 ≤ x ∧ x < 2048) ∧ (f (x / 64).toNat &&& (1 <<< ((iZ (x % 64)).toInt64 &&& 63))) = 0 then pn + 1 else pn))])), (h1, .inl (cJ, 32, .inr (.inl (if (0 ≤ x ∧ x < 2048) ∧ (f (x / 64).toNat &&& (1 <<< ((iZ (x % 64)).toInt64 &&& 63))) = 0 then va_up f (x / 64).toNat (f (x / 64).toNat ||| (1 <<< ((iZ (x % 64)).toInt64 &&& 63))) else f))))] s.heap := eW ▸ hP
      have hD : va_D A [(h0, .inr (3, [.ref h1, .int (iZ (if (0 ≤ x ∧ x < 2048) ∧ (f (x / 64).toNat &&& (1 <<< ((iZ (x % 64)).toInt64 &&& 63))) = 0 then pn + 1 else pn))])), (h1, .inl (cJ, 32, .inr (.inl (if (0 ≤ x ∧ x < 2048) ∧ (f (x / 64).toNat &&& (1 <<< ((iZ (x % 64)).toInt64 &&& 63))) = 0 then va_up f (x / 64).toNat (f (x / 64).toNat ||| (1 <<< ((iZ (x % 64)).toInt64 &&& 63))) else f))))] := eW ▸ hD
      exact W.zret (v := (iZ 0)) hx hb hr rfl (fun t ht hW => ⟨⟨_, (), rfl, (congrArg iZ (if_neg (fun h => absurd h.1 (by omega))).symm), by rw [ht]; exact hP, va_K.moved hW.alike hK, hAe ▸ hD⟩, hAe ▸ hS.F ht⟩) (hAe ▸ hS.2.2) d_Pa_add_12
