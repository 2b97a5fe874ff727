set_option maxHeartbeats 4000000 in
set_option maxRecDepth 100000 in
theorem c_Ri_get (l : Launch) (dC : Nat → ClassId) (dI : Nat → Nat → Nat) (cB : ClassId) (cI : ClassId) (cJ : ClassId) (cZ : ClassId) (cQ : ClassId) (h0 h1 : Nat) (sz : Nat) (pl : va_W) (g : Nat → Option Nat) (al : Nat → Bool) (u : Nat → Int) (x : Int) (hR : RK cB pl g al u) (hx0 : 0 ≤ x ∧ x < 2147483648) : Met l y_Ri_get ((Cond.code y_Ri_get prog_6_method_2_code 3 (some .int)) :: gw) ({ frames := 1, cells := 0, slots := 0, locals := 20 } : Room) (zPc (dC, dI) [(cB, .byte), (cI, .int), (cJ, .long), (cZ, .boolean), (cQ, .object "LogDesk$Block")] [.ref h0, .int (iZ x)] ([(h0, .inr (4, [.ref h1])), (h1, .inl (cQ, 32, .inr (.inr (.inr (.inr g)))))] ++ pl) sz) (va_Qi (fun (r : Int32) (_ : Unit) => r = iZ (u (x % 16000).toNat % 256)) (zB (dC, dI) [(cB, .byte), (cI, .int), (cJ, .long), (cZ, .boolean), (cQ, .object "LogDesk$Block")] (va_A ([(h0, .inr (4, [.ref h1])), (h1, .inl (cQ, 32, .inr (.inr (.inr (.inr g)))))] ++ pl) sz) ([(h0, .inr (4, [.ref h1])), (h1, .inl (cQ, 32, .inr (.inr (.inr (.inr g)))))] ++ pl)) (va_A ([(h0, .inr (4, [.ref h1])), (h1, .inl (cQ, 32, .inr (.inr (.inr (.inr g)))))] ++ pl) sz)) 0 0 (va_A ([(h0, .inr (4, [.ref h1])), (h1, .inl (cQ, 32, .inr (.inr (.inr (.inr g)))))] ++ pl) sz) := by
  refine Met.ofW (cc := prog_6_method_2_code) (maxL := 3) (ret := (some .int)) (by decide) rfl ?_
  intro p e s m args below meth c s₁ B hml hv
  obtain ⟨rfl, hsz, hP, hK, hD0, hZ⟩ := hv
  have hx := B.exec
  have hb := B.bytes
  have hr := B.returns
  have hts := atoms_spec (ws := (Cond.code y_Ri_get prog_6_method_2_code 3 (some .int)) :: gw) B.pre
  have htg : ∀ w ∈ gw, w.before _ s = true := fun w h => hts w (List.mem_cons_of_mem _ h)
  have hown : s.vm.findClass "LogDesk$Ring" = some m.cls := findClass_of_methodNamed B.named
  have hlocks := B.notSynchronized
  subst hsz
  have hD := hD0.self (sz := s.heap.size)
  generalize hAe : va_A ([(h0, .inr (4, [.ref h1])), (h1, .inl (cQ, 32, .inr (.inr (.inr (.inr g)))))] ++ pl) s.heap.size = A at hD ⊢
  have hRc : (headSpec ((Cond.code y_Ri_get prog_6_method_2_code 3 (some .int)) :: gw) ({ frames := 1, cells := 0, slots := 0, locals := 20 } : Room)).room.cells = 0 := rfl
  have hRs : (headSpec ((Cond.code y_Ri_get prog_6_method_2_code 3 (some .int)) :: gw) ({ frames := 1, cells := 0, slots := 0, locals := 20 } : Room)).room.slots = 0 := rfl
  have hA : ∀ q : Nat, s.heap.size ≤ q → A q := fun q h => by rw [← hAe]; exact Or.inr h
  have hS : va_S A s.heap s.heap [] := va_S.rf
  have hP : va_P (dC, dI) vwCl ([(h0, .inr (4, [.ref h1])), (h1, .inl (cQ, 32, .inr (.inr (.inr (.inr g)))))] ++ pl) s.heap := hP
  have hl := lv_entry ([.ref h0, .int (iZ x)]) (n := 3) (Nat.le_of_ble_eq_true rfl)
  rw [lg_entry_eq]
  generalize (lg_sl ([.ref h0, .int (iZ x)]) ++ List.replicate (3 - (lg_sl ([.ref h0, .int (iZ x)])).length) Slot.unset).toArray = ls at hl ⊢
  have hl : lv_has ls 3 [(0, .ref h0), (1, .int (iZ x))] := hl
  refine lv_iload_n hx hb d_Ri_get_0 rfl (lv_at hl 1 rfl) ?_
  refine zz_if_ge (tgt := 6) hx hb d_Ri_get_1 (by decide) ⟨by omega, by omega⟩ (fun c_1 => ?_) (fun c_1 => ?_)
  · refine lv_aload_n hx hb d_Ri_get_6 rfl (lv_at hl 0 rfl) ?_
    refine va_get (D := (dC, dI)) (ci := 4) (v := .ref h1) (C := "LogDesk$Ring") (T := F_Ri) (N := 1) hx hb htg hin_Ri hown hK hP 0 rfl rfl 0 (by decide) (htg _ k_34) (fun _ h9 => h9) rfl d_Ri_get_7 ?_
    refine lv_iload_n hx hb d_Ri_get_10 rfl (lv_at hl 1 rfl) ?_
    refine zq_i (wr := [(h0, .inr (4, [.ref h1])), (h1, .inl (cQ, 32, .inr (.inr (.inr (.inr g)))))]) (va_runSN (As := [.int (iZ x)]) (rest := [.ref h1]) ⟨hx, hb, hml, hown, htg⟩ (c_De_blockOf l dC dI cB cI cJ cZ cQ s.heap.size x (by omega)) ⟨va_cnB 1 htg (gw_I k_202) rfl rfl rfl (hZ.1 (.methodLinkNest "LogDesk$Ring" 17 y_De_blockOf "LogDesk") (by simp [nzW])) (htg _ k_1) (by decide +kernel) ⟨Nat.le_of_ble_eq_true rfl, Nat.le_of_ble_eq_true rfl⟩, htg _ k_201, trivial⟩ (zPreS hK hP hD hZ [] rfl (by decide)) rfl rfl hl.1 rfl (lv_room (Nat.le_of_ble_eq_true rfl)) d_Ri_get_11 ⟨by omega, by omega⟩) hP hD hS hA [] [0, 1] rfl rfl (by decide) (by decide) rfl (fun H locs hP hD hS => ?_)
    have hP : va_P (dC, dI) vwCl ([(h0, .inr (4, [.ref h1])), (h1, .inl (cQ, 32, .inr (.inr (.inr (.inr g)))))] ++ pl) H := hP
    have hD : va_D A ([(h0, .inr (4, [.ref h1])), (h1, .inl (cQ, 32, .inr (.inr (.inr (.inr g)))))] ++ pl) := hD
    refine lv_bipush (v := iZ 32) hx hb d_Ri_get_14 (by decide) ?_
    refine zz_irem hx hb (by omega) (by omega) (by omega) (by omega) d_Ri_get_16 ?_
    refine va_aldq hx hb hK hP 1 4 rfl rfl (iZ_in (by omega) (by omega) (by omega)) d_Ri_get_17 ?_
    rw [iZ_cl (by omega) (by omega)]
    rcases Bool.eq_false_or_eq_true (al (x / 500 % 32).toNat) with hk | hk
    · obtain ⟨bk, ck, fk, i1, i2, hgk, hi1, hi2, huk⟩ := rk_get hR [(h0, .inr (4, [.ref h1])), (h1, .inl (cQ, 32, .inr (.inr (.inr (.inr g)))))] hk (by omega)
      refine zz_rfS hgk ?_
      refine lv_astore_n (lv' := [(2, .ref bk), (0, .ref h0), (1, .int (iZ x))]) hx hb d_Ri_get_18 rfl hl (by decide) rfl (fun ls hl => ?_)
      refine lv_aload_n hx hb d_Ri_get_19 rfl (lv_at hl 0 rfl) ?_
      refine lv_ifnonnull (tgt := 27) hx hb d_Ri_get_20 (by decide) ?_
      refine lv_aload_n hx hb d_Ri_get_27 rfl (lv_at hl 0 rfl) ?_
      refine va_getN (D := (dC, dI)) (ci := 0) (v := .ref ck) (C := "LogDesk$Block") (T := F_Bl) (N := 1) hx hb htg hin_Bl hown hK hP i1 hi1 rfl 0 (by decide) (va_Nw.use rfl (hZ.2.1 (.fieldLinkNest "LogDesk$Ring" 21 "LogDesk$Block" "cells" "[B" "LogDesk") (by simp [nzF]))) (fun _ h9 => h9) rfl d_Ri_get_28 ?_
      refine lv_iload_n hx hb d_Ri_get_31 rfl (lv_at hl 2 rfl) ?_
      refine lv_sipush (v := iZ 500) hx hb d_Ri_get_32 (by decide) ?_
      refine zz_irem hx hb (by omega) (by omega) (by omega) (by omega) d_Ri_get_35 ?_
      refine zz_bald hx hb hK hP i2 0 hi2 rfl (by omega) (by omega) (by omega) d_Ri_get_36 ?_
      refine lv_sipush (v := iZ 255) hx hb d_Ri_get_37 (by decide) ?_
      refine zz_and255b hx hb d_Ri_get_40 ?_
      have hix : (x % 16000).toNat = (x / 500 % 32).toNat * 500 + (x % 500).toNat := by omega
      exact W.iret (v := (iZ ((fk ((x % 500)).toNat) % 256))) hx hb hr (fun t ht hW => ⟨⟨_, (), rfl, (congrArg iZ (by rw [hix, huk _ (by omega)])), by rw [ht]; exact hP, va_K.moved hW.alike hK, hAe ▸ hD⟩, hAe ▸ hS.F ht⟩) (hAe ▸ hS.2.2) d_Ri_get_41
    · obtain ⟨hgk, huk⟩ := rk_no hR hk (by omega)
      refine zz_rfN hgk ?_
      refine lv_astore_nN (lv' := [(2, .null), (0, .ref h0), (1, .int (iZ x))]) hx hb d_Ri_get_18 rfl hl (by decide) rfl (fun ls hl => ?_)
      refine lv_aload_nN hx hb d_Ri_get_19 rfl (lv_at hl 0 rfl) ?_
      refine lv_ifnonnullN hx hb d_Ri_get_20 ?_
      refine lv_iconst (v := iZ 0) hx hb d_Ri_get_23 rfl ?_
      refine lv_goto (tgt := 41) hx hb d_Ri_get_24 (by decide) ?_
      have hix : (x % 16000).toNat = (x / 500 % 32).toNat * 500 + (x % 500).toNat := by omega
      exact W.iret (v := (iZ 0)) hx hb hr (fun t ht hW => ⟨⟨_, (), rfl, (congrArg iZ (by rw [hix, huk _ (by omega)]; rfl)), by rw [ht]; exact hP, va_K.moved hW.alike hK, hAe ▸ hD⟩, hAe ▸ hS.F ht⟩) (hAe ▸ hS.2.2) d_Ri_get_41
  · exfalso; omega
set_option maxHeartbeats 4000000 in
set_option maxRecDepth 100000 in
theorem c_Bl_init (l : Launch) (dC : Nat → ClassId) (dI : Nat → Nat → Nat) (cB : ClassId) (cI : ClassId) (cJ : ClassId) (cZ : ClassId) (cQ : ClassId) (h0 : Nat) (sz : Nat) : Met l y_Bl_init ((Cond.code y_Bl_init prog_2_method_1_code 1 none) :: gw) ({ frames := 1, cells := 1, slots := 500, locals := 13 } : Room) (zPc (dC, dI) [(cB, .byte), (cI, .int), (cJ, .long), (cZ, .boolean), (cQ, .object "LogDesk$Block")] [.ref h0] [(h0, .inr (0, [.null]))] sz) (va_Qv (fun (q : Nat) => True) (zBx (dC, dI) [(cB, .byte), (cI, .int), (cJ, .long), (cZ, .boolean), (cQ, .object "LogDesk$Block")] (va_A [(h0, .inr (0, [.null]))] sz) (fun (q : Nat) => [(h0, .inr (0, [.ref q])), (q, .inl (cB, 500, .inl (fun j => iZ (Int.bmod ((fun _ => 0) j) 256))))])) (va_A [(h0, .inr (0, [.null]))] sz)) 1 500 (va_A [(h0, .inr (0, [.null]))] sz) := by
  refine Met.ofW (cc := prog_2_method_1_code) (maxL := 1) (ret := none) (by decide) rfl ?_
  intro p e s m args below meth c s₁ B hml hv
  obtain ⟨rfl, hsz, hP, hK, hD0, hZ⟩ := hv
  have hx := B.exec
  have hb := B.bytes
  have hr := B.returns
  have hts := atoms_spec (ws := (Cond.code y_Bl_init prog_2_method_1_code 1 none) :: gw) B.pre
  have htg : ∀ w ∈ gw, w.before _ s = true := fun w h => hts w (List.mem_cons_of_mem _ h)
  have hown : s.vm.findClass "LogDesk$Block" = some m.cls := findClass_of_methodNamed B.named
  have hlocks := B.notSynchronized
  have hin : meth.name = "<init>" := (name_of_methodNamed B.named B.method).1
  subst hsz
  have hD := hD0.self (sz := s.heap.size)
  generalize hAe : va_A [(h0, .inr (0, [.null]))] s.heap.size = A at hD ⊢
  have hRc : (headSpec ((Cond.code y_Bl_init prog_2_method_1_code 1 none) :: gw) ({ frames := 1, cells := 1, slots := 500, locals := 13 } : Room)).room.cells = 1 := rfl
  have hRs : (headSpec ((Cond.code y_Bl_init prog_2_method_1_code 1 none) :: gw) ({ frames := 1, cells := 1, slots := 500, locals := 13 } : Room)).room.slots = 500 := rfl
  have hA : ∀ q : Nat, s.heap.size ≤ q → A q := fun q h => by rw [← hAe]; exact Or.inr h
  have hS : va_S A s.heap s.heap [] := va_S.rf
  have hP : va_P (dC, dI) vwCl [(h0, .inr (0, [.null]))] s.heap := hP
  have hl := lv_entry ([.ref h0]) (n := 1) (Nat.le_of_ble_eq_true rfl)
  rw [lg_entry_eq]
  generalize (lg_sl ([.ref h0]) ++ List.replicate (1 - (lg_sl ([.ref h0])).length) Slot.unset).toArray = ls at hl ⊢
  have hl : lv_has ls 1 [(0, .ref h0)] := hl
  refine lv_aload_n hx hb d_Bl_init_0 rfl (lv_at hl 0 rfl) ?_
  refine W.objInit hx hb hown (htg _ k_356) (htg _ k_24) (htg _ k_25) rfl (by rw [hml]; exact hl.1) rfl d_Bl_init_1 (Nat.le_of_ble_eq_true rfl) (Nat.le_of_ble_eq_true rfl) ?_
  refine W.eq (g2 := F0 m 4 ls []) rfl ?_
  refine lv_aload_n hx hb d_Bl_init_4 rfl (lv_at hl 0 rfl) ?_
  refine lv_sipush (v := iZ 500) hx hb d_Bl_init_5 (by decide) ?_
  refine va_newa (atype := .byte) (ty := .byte) (a0 := (500, (.inl (fun _ => 0)))) hx hb (htg _ k_51) rfl hK hP hD hS hA (fun _ => rfl) (by decide) (by decide) (by decide) (by omega) (by omega) d_Bl_init_8 (fun q_1 ca_2 H hK9 hP hD hS => ?_)
  obtain rfl : cB = ca_2 := tyU hK9 (i := 0) (j := 5) rfl rfl
  have hK := hK9.sub (tys' := [(cB, .byte), (cI, .int), (cJ, .long), (cZ, .boolean), (cQ, .object "LogDesk$Block")]) [0, 1, 2, 3, 4] rfl
  have hP : va_P (dC, dI) vwCl [(h0, .inr (0, [.null])), (q_1, .inl (cB, 500, .inl (fun j => iZ (Int.bmod ((fun _ => 0) j) 256))))] H := hP
  have hD : va_D A [(h0, .inr (0, [.null])), (q_1, .inl (cB, 500, .inl (fun j => iZ (Int.bmod ((fun _ => 0) j) 256))))] := hD
  refine va_putF (D := (dC, dI)) (ci := 0) (v := .ref q_1) (ty := t_Bl 0) (C := "LogDesk$Block") (T := F_Bl) (N := 1) hx hb htg hin_Bl t_Bl t_Bl_ok n_Bl hown hK hP hD hS 0 rfl rfl 0 (by decide) (htg _ k_357) (fun _ h9 => h9) rfl hin rfl (by decide +kernel) rfl rfl (Nat.le_of_ble_eq_true rfl) d_Bl_init_10 (fun H locs hP hD hS => ?_)
  have hP : va_P (dC, dI) vwCl [(h0, .inr (0, [.ref q_1])), (q_1, .inl (cB, 500, .inl (fun j => iZ (Int.bmod ((fun _ => 0) j) 256))))] H := hP
  have hD : va_D A [(h0, .inr (0, [.ref q_1])), (q_1, .inl (cB, 500, .inl (fun j => iZ (Int.bmod ((fun _ => 0) j) 256))))] := hD
  refine W.widen (k := 1) (n := 500) (by omega) (by omega) ?_
  exact W.vret hx hb hr (fun t ht hW => ⟨⟨(q_1), rfl, trivial, by rw [ht]; exact hP, va_K.moved hW.alike hK, hAe ▸ hD⟩, hAe ▸ hS.F ht⟩) (hAe ▸ hS.2.2) d_Bl_init_13
set_option maxHeartbeats 4000000 in
set_option maxRecDepth 100000 in
theorem c_Ri_set (l : Launch) (dC : Nat → ClassId) (dI : Nat → Nat → Nat) (cB : ClassId) (cI : ClassId) (cJ : ClassId) (cZ : ClassId) (cQ : ClassId) (h0 h1 : Nat) (sz : Nat) (pl : va_W) (g : Nat → Option Nat) (al : Nat → Bool) (u : Nat → Int) (x : Int) (v : Int) (hR : RK cB pl g al u) (hx0 : 0 ≤ x ∧ x < 2147483648) : Met l y_Ri_set ((Cond.code y_Ri_set prog_6_method_3_code 5 none) :: gw) ({ frames := 2, cells := (2 * (cal (aP al x) 32 - cal al 32)), slots := (501 * (cal (aP al x) 32 - cal al 32)), locals := 33 } : Room) (zPc (dC, dI) [(cB, .byte), (cI, .int), (cJ, .long), (cZ, .boolean), (cQ, .object "LogDesk$Block")] [.ref h0, .int (iZ x), .int (iZ v)] ([(h0, .inr (4, [.ref h1])), (h1, .inl (cQ, 32, .inr (.inr (.inr (.inr g)))))] ++ pl) sz) (va_Qv (fun (q : va_W × (Nat → Option Nat)) => RK cB q.1 q.2 (aP al x) (uP u x v)) (zBx (dC, dI) [(cB, .byte), (cI, .int), (cJ, .long), (cZ, .boolean), (cQ, .object "LogDesk$Block")] (va_A ([(h0, .inr (4, [.ref h1])), (h1, .inl (cQ, 32, .inr (.inr (.inr (.inr g)))))] ++ pl) sz) (fun (q : va_W × (Nat → Option Nat)) => ([(h0, .inr (4, [.ref h1])), (h1, .inl (cQ, 32, .inr (.inr (.inr (.inr q.2)))))] ++ q.1))) (va_A ([(h0, .inr (4, [.ref h1])), (h1, .inl (cQ, 32, .inr (.inr (.inr (.inr g)))))] ++ pl) sz)) (2 * (cal (aP al x) 32 - cal al 32)) (501 * (cal (aP al x) 32 - cal al 32)) (va_A ([(h0, .inr (4, [.ref h1])), (h1, .inl (cQ, 32, .inr (.inr (.inr (.inr g)))))] ++ pl) sz) := by
  refine Met.ofW (cc := prog_6_method_3_code) (maxL := 5) (ret := none) (by decide) rfl ?_
  intro p e s m args below meth c s₁ B hml hv
  obtain ⟨rfl, hsz, hP, hK, hD0, hZ⟩ := hv
  have hx := B.exec
  have hb := B.bytes
  have hr := B.returns
  have hts := atoms_spec (ws := (Cond.code y_Ri_set prog_6_method_3_code 5 none) :: gw) B.pre
  have htg : ∀ w ∈ gw, w.before _ s = true := fun w h => hts w (List.mem_cons_of_mem _ h)
  have hown : s.vm.findClass "LogDesk$Ring" = some m.cls := findClass_of_methodNamed B.named
  have hlocks := B.notSynchronized
  subst hsz
  have hD := hD0.self (sz := s.heap.size)
  generalize hAe : va_A ([(h0, .inr (4, [.ref h1])), (h1, .inl (cQ, 32, .inr (.inr (.inr (.inr g)))))] ++ pl) s.heap.size = A at hD ⊢
  have hRc : (headSpec ((Cond.code y_Ri_set prog_6_method_3_code 5 none) :: gw) ({ frames := 2, cells := (2 * (cal (aP al x) 32 - cal al 32)), slots := (501 * (cal (aP al x) 32 - cal al 32)), locals := 33 } : Room)).room.cells = (2 * (cal (aP al x) 32 - cal al 32)) := rfl
  have hRs : (headSpec ((Cond.code y_Ri_set prog_6_method_3_code 5 none) :: gw) ({ frames := 2, cells := (2 * (cal (aP al x) 32 - cal al 32)), slots := (501 * (cal (aP al x) 32 - cal al 32)), locals := 33 } : Room)).room.slots = (501 * (cal (aP al x) 32 - cal al 32)) := rfl
  have hA : ∀ q : Nat, s.heap.size ≤ q → A q := fun q h => by rw [← hAe]; exact Or.inr h
  have hS : va_S A s.heap s.heap [] := va_S.rf
  have hP : va_P (dC, dI) vwCl ([(h0, .inr (4, [.ref h1])), (h1, .inl (cQ, 32, .inr (.inr (.inr (.inr g)))))] ++ pl) s.heap := hP
  have hl := lv_entry ([.ref h0, .int (iZ x), .int (iZ v)]) (n := 5) (Nat.le_of_ble_eq_true rfl)
  rw [lg_entry_eq]
  generalize (lg_sl ([.ref h0, .int (iZ x), .int (iZ v)]) ++ List.replicate (5 - (lg_sl ([.ref h0, .int (iZ x), .int (iZ v)])).length) Slot.unset).toArray = ls at hl ⊢
  have hl : lv_has ls 5 [(0, .ref h0), (1, .int (iZ x)), (2, .int (iZ v))] := hl
  refine lv_iload_n hx hb d_Ri_set_0 rfl (lv_at hl 1 rfl) ?_
  refine zz_if_ge (tgt := 5) hx hb d_Ri_set_1 (by decide) ⟨by omega, by omega⟩ (fun c_1 => ?_) (fun c_1 => ?_)
  · refine lv_iload_n hx hb d_Ri_set_5 rfl (lv_at hl 1 rfl) ?_
    refine zq_i (wr := [(h0, .inr (4, [.ref h1])), (h1, .inl (cQ, 32, .inr (.inr (.inr (.inr g)))))]) (va_runSN (As := [.int (iZ x)]) (rest := []) ⟨hx, hb, hml, hown, htg⟩ (c_De_blockOf l dC dI cB cI cJ cZ cQ s.heap.size x (by omega)) ⟨va_cnB 1 htg (gw_I k_202) rfl rfl rfl (hZ.1 (.methodLinkNest "LogDesk$Ring" 17 y_De_blockOf "LogDesk") (by simp [nzW])) (htg _ k_1) (by decide +kernel) ⟨Nat.le_of_ble_eq_true rfl, Nat.le_of_ble_eq_true rfl⟩, htg _ k_201, trivial⟩ (zPreS hK hP hD hZ [] rfl (by decide)) rfl rfl hl.1 rfl (lv_room (Nat.le_of_ble_eq_true rfl)) d_Ri_set_6 ⟨by omega, by omega⟩) hP hD hS hA [] [0, 1] rfl rfl (by decide) (by decide) rfl (fun H locs hP hD hS => ?_)
    have hP : va_P (dC, dI) vwCl ([(h0, .inr (4, [.ref h1])), (h1, .inl (cQ, 32, .inr (.inr (.inr (.inr g)))))] ++ pl) H := hP
    have hD : va_D A ([(h0, .inr (4, [.ref h1])), (h1, .inl (cQ, 32, .inr (.inr (.inr (.inr g)))))] ++ pl) := hD
    refine lv_bipush (v := iZ 32) hx hb d_Ri_set_9 (by decide) ?_
    refine zz_irem hx hb (by omega) (by omega) (by omega) (by omega) d_Ri_set_11 ?_
    refine lv_istore_n (lv' := [(3, .int (iZ ((x / 500) % 32))), (0, .ref h0), (1, .int (iZ x)), (2, .int (iZ v))]) hx hb d_Ri_set_12 rfl hl (by decide) rfl (fun ls hl => ?_)
    refine lv_aload_n hx hb d_Ri_set_13 rfl (lv_at hl 1 rfl) ?_
    refine va_get (D := (dC, dI)) (ci := 4) (v := .ref h1) (C := "LogDesk$Ring") (T := F_Ri) (N := 1) hx hb htg hin_Ri hown hK hP 0 rfl rfl 0 (by decide) (htg _ k_34) (fun _ h9 => h9) rfl d_Ri_set_14 ?_
    refine lv_iload_n hx hb d_Ri_set_17 rfl (lv_at hl 0 rfl) ?_
    refine va_aldq hx hb hK hP 1 4 rfl rfl (iZ_in (by omega) (by omega) (by omega)) d_Ri_set_18 ?_
    rw [iZ_cl (by omega) (by omega)]
    rcases Bool.eq_false_or_eq_true (al (x / 500 % 32).toNat) with hk | hk
    · obtain ⟨bk, ck, fk, i1, i2, hgk, hi1, hi2, huk⟩ := rk_get hR [(h0, .inr (4, [.ref h1])), (h1, .inl (cQ, 32, .inr (.inr (.inr (.inr g)))))] hk (by omega)
      refine zz_rfS hgk ?_
      refine lv_astore (lv' := [(4, .ref bk), (3, .int (iZ ((x / 500) % 32))), (0, .ref h0), (1, .int (iZ x)), (2, .int (iZ v))]) hx hb d_Ri_set_19 hl (by decide) rfl (fun ls hl => ?_)
      refine lv_aload hx hb d_Ri_set_21 (lv_at hl 0 rfl) ?_
      refine lv_ifnonnull (tgt := 43) hx hb d_Ri_set_23 (by decide) ?_
      refine lv_aload hx hb d_Ri_set_43 (lv_at hl 0 rfl) ?_
      refine va_getN (D := (dC, dI)) (ci := 0) (v := .ref ck) (C := "LogDesk$Block") (T := F_Bl) (N := 1) hx hb htg hin_Bl hown hK hP i1 hi1 rfl 0 (by decide) (va_Nw.use rfl (hZ.2.1 (.fieldLinkNest "LogDesk$Ring" 21 "LogDesk$Block" "cells" "[B" "LogDesk") (by simp [nzF]))) (fun _ h9 => h9) rfl d_Ri_set_45 ?_
      refine lv_iload_n hx hb d_Ri_set_48 rfl (lv_at hl 3 rfl) ?_
      refine lv_sipush (v := iZ 500) hx hb d_Ri_set_49 (by decide) ?_
      refine zz_irem hx hb (by omega) (by omega) (by omega) (by omega) d_Ri_set_52 ?_
      refine lv_iload_n hx hb d_Ri_set_53 rfl (lv_at hl 4 rfl) ?_
      refine zz_i2b hx hb d_Ri_set_54 ?_
      refine zz_bast hx hb hK hP hD hS i2 0 hi2 rfl (by omega) (by omega) (by omega) d_Ri_set_55 (fun H locs hP hD9 hS => ?_)
      obtain ⟨pl2, hR2, hP, hD⟩ := rk_put hR hk (by omega) (by omega) hgk hi1 hi2 hD hP
      have hix : (x % 16000).toNat = (x / 500 % 32).toNat * 500 + (x % 500).toNat := by omega
      refine W.widen (k := (2 * (cal (aP al x) 32 - cal al 32))) (n := (501 * (cal (aP al x) 32 - cal al 32))) (by omega) (by omega) ?_
      exact W.vret hx hb hr (fun t ht hW => ⟨⟨(pl2, g), rfl, by unfold aP uP; rw [hix, cal_same hk]; exact hR2, by rw [ht]; exact hP, va_K.moved hW.alike hK, hAe ▸ hD⟩, hAe ▸ hS.F ht⟩) (hAe ▸ hS.2.2) d_Ri_set_56
    · obtain ⟨hgk0, huk0⟩ := rk_no hR hk (by omega)
      have hcal : cal (aP al x) 32 = _ := cal_up hk 32
      rw [if_pos (show (x / 500 % 32).toNat < 32 by omega)] at hcal
      refine zz_rfN hgk0 ?_
      refine lv_astoreN (lv' := [(4, .null), (3, .int (iZ ((x / 500) % 32))), (0, .ref h0), (1, .int (iZ x)), (2, .int (iZ v))]) hx hb d_Ri_set_19 hl (by decide) rfl (fun ls hl => ?_)
      refine lv_aloadN hx hb d_Ri_set_21 (lv_at hl 0 rfl) ?_
      refine lv_ifnonnullN hx hb d_Ri_set_23 ?_
      refine va_new (ci := 0) (fs := [.null]) (C := "LogDesk$Block") (T := F_Bl) (N := 1) hx hb htg hin_Bl t_Bl t_Bl_ok hown (htg _ k_32) (htg _ k_352) (htg _ k_13) hK hP hD hS hA rfl (fun j hj => by rcases (show j = 0 by omega) with rfl <;> rfl) (by omega) (by omega) d_Ri_set_26 (fun q_2 H hP hD hS => ?_)
      have hP := hP.swap
      have hD := hD.swap
      have hP : va_P (dC, dI) vwCl ([(h0, .inr (4, [.ref h1])), (h1, .inl (cQ, 32, .inr (.inr (.inr (.inr g))))), (q_2, .inr (0, [.null]))] ++ pl) H := hP
      have hD : va_D A ([(h0, .inr (4, [.ref h1])), (h1, .inl (cQ, 32, .inr (.inr (.inr (.inr g))))), (q_2, .inr (0, [.null]))] ++ pl) := hD
      refine lv_dup hx hb d_Ri_set_29 rfl ?_
      refine zxq_v (wr := [(h0, .inr (4, [.ref h1])), (h1, .inl (cQ, 32, .inr (.inr (.inr (.inr g)))))]) (va_runIN (As := []) (rest := [.ref q_2]) ⟨hx, hb, hml, hown, htg⟩ (c_Bl_init l dC dI cB cI cJ cZ cQ q_2 H.size) ⟨va_cnB 0 htg (gw_I k_355) rfl rfl rfl (hZ.1 (.methodLinkNest "LogDesk$Ring" 25 y_Bl_init "LogDesk") (by simp [nzW])) (htg _ k_13) (by decide +kernel) ⟨Nat.le_of_ble_eq_true rfl, Nat.le_of_ble_eq_true rfl⟩, rfl, htg _ k_354⟩ (zPreS hK hP hD hZ [2] rfl (by decide)) rfl rfl hl.1 rfl (lv_room (Nat.le_of_ble_eq_true rfl)) d_Ri_set_30 ⟨by omega, by omega⟩) hP hD hS hA [2] [0, 1] rfl rfl (by decide) (by decide) rfl (fun uu_5 hq_4 H locs hP hD hS => ?_)
      obtain ⟨q1_3, rfl⟩ : ∃ z, z = uu_5 := ⟨_, rfl⟩
      try dsimp only at hq_4
      have hP : va_P (dC, dI) vwCl ([(h0, .inr (4, [.ref h1])), (h1, .inl (cQ, 32, .inr (.inr (.inr (.inr g))))), (q_2, .inr (0, [.ref q1_3])), (q1_3, .inl (cB, 500, .inl (fun j => iZ (Int.bmod ((fun _ => 0) j) 256))))] ++ pl) H := hP
      have hD : va_D A ([(h0, .inr (4, [.ref h1])), (h1, .inl (cQ, 32, .inr (.inr (.inr (.inr g))))), (q_2, .inr (0, [.ref q1_3])), (q1_3, .inl (cB, 500, .inl (fun j => iZ (Int.bmod ((fun _ => 0) j) 256))))] ++ pl) := hD
      refine lv_astore (lv' := [(4, .ref q_2), (3, .int (iZ ((x / 500) % 32))), (0, .ref h0), (1, .int (iZ x)), (2, .int (iZ v))]) hx hb d_Ri_set_33 hl (by decide) rfl (fun ls hl => ?_)
      refine lv_aload_n hx hb d_Ri_set_35 rfl (lv_at hl 2 rfl) ?_
      refine va_get (D := (dC, dI)) (ci := 4) (v := .ref h1) (C := "LogDesk$Ring") (T := F_Ri) (N := 1) hx hb htg hin_Ri hown hK hP 0 rfl rfl 0 (by decide) (htg _ k_34) (fun _ h9 => h9) rfl d_Ri_set_36 ?_
      refine lv_iload_n hx hb d_Ri_set_39 rfl (lv_at hl 1 rfl) ?_
      refine lv_aload hx hb d_Ri_set_40 (lv_at hl 0 rfl) ?_
      refine va_astq hx hb hK hP hD hS 1 4 2 0 rfl rfl rfl rfl (iZ_in (by omega) (by omega) (by omega)) d_Ri_set_42 (fun H locs hP hD hS => ?_)
      rw [iZ_cl (by omega) (by omega)] at hP hD
      have hP : va_P (dC, dI) vwCl ([(h0, .inr (4, [.ref h1])), (h1, .inl (cQ, 32, .inr (.inr (.inr (.inr (va_up g (x / 500 % 32).toNat (some q_2))))))), (q_2, .inr (0, [.ref q1_3])), (q1_3, .inl (cB, 500, .inl (fun j => iZ (Int.bmod ((fun _ => 0) j) 256))))] ++ pl) H := hP
      have hD : va_D A ([(h0, .inr (4, [.ref h1])), (h1, .inl (cQ, 32, .inr (.inr (.inr (.inr (va_up g (x / 500 % 32).toNat (some q_2))))))), (q_2, .inr (0, [.ref q1_3])), (q1_3, .inl (cB, 500, .inl (fun j => iZ (Int.bmod ((fun _ => 0) j) 256))))] ++ pl) := hD
      have hP := hP.part (cx := [(h0, .inr (4, [.ref h1])), (h1, .inl (cQ, 32, .inr (.inr (.inr (.inr (va_up g (x / 500 % 32).toNat (some q_2))))))), (q_2, .inr (0, [.ref q1_3])), (q1_3, .inl (cB, 500, .inl (fun j => iZ (Int.bmod ((fun _ => 0) j) 256))))]) [0, 1, 2, 3] rfl
      have hD := hD.part (cx := [(h0, .inr (4, [.ref h1])), (h1, .inl (cQ, 32, .inr (.inr (.inr (.inr (va_up g (x / 500 % 32).toNat (some q_2))))))), (q_2, .inr (0, [.ref q1_3])), (q1_3, .inl (cB, 500, .inl (fun j => iZ (Int.bmod ((fun _ => 0) j) 256))))]) [0, 1, 2, 3] (by decide) rfl
      have hP : va_P (dC, dI) vwCl (([(h0, .inr (4, [.ref h1])), (h1, .inl (cQ, 32, .inr (.inr (.inr (.inr (va_up g (x / 500 % 32).toNat (some q_2)))))))] ++ [(q_2, .inr (0, [.ref q1_3])), (q1_3, .inl (cB, 500, .inl (fun j => iZ (Int.bmod ((fun _ => 0) j) 256))))]) ++ pl) H := hP
      have hD : va_D A (([(h0, .inr (4, [.ref h1])), (h1, .inl (cQ, 32, .inr (.inr (.inr (.inr (va_up g (x / 500 % 32).toNat (some q_2)))))))] ++ [(q_2, .inr (0, [.ref q1_3])), (q1_3, .inl (cB, 500, .inl (fun j => iZ (Int.bmod ((fun _ => 0) j) 256))))]) ++ pl) := hD
      have hP := hP.swap
      have hD := hD.swap
      rw [List.append_assoc] at hP hD
      have hP : va_P (dC, dI) vwCl ([(h0, .inr (4, [.ref h1])), (h1, .inl (cQ, 32, .inr (.inr (.inr (.inr (va_up g (x / 500 % 32).toNat (some q_2)))))))] ++ (pl ++ [(q_2, .inr (0, [.ref q1_3])), (q1_3, .inl (cB, 500, .inl (fun j => iZ (Int.bmod ((fun _ => 0) j) 256))))])) H := hP
      have hD : va_D A ([(h0, .inr (4, [.ref h1])), (h1, .inl (cQ, 32, .inr (.inr (.inr (.inr (va_up g (x / 500 % 32).toNat (some q_2)))))))] ++ (pl ++ [(q_2, .inr (0, [.ref q1_3])), (q1_3, .inl (cB, 500, .inl (fun j => iZ (Int.bmod ((fun _ => 0) j) 256))))])) := hD
      have hR := rk_new hR q_2 q1_3 hk (by omega)
      have hk : va_up al (x / 500 % 32).toNat true (x / 500 % 32).toNat = true := va_up_self _ _ _
      obtain ⟨bk, ck, fk, i1, i2, hgk, hi1, hi2, huk⟩ := rk_get hR [(h0, .inr (4, [.ref h1])), (h1, .inl (cQ, 32, .inr (.inr (.inr (.inr (va_up g (x / 500 % 32).toNat (some q_2)))))))] hk (by omega)
      rw [va_up_self] at hgk
      obtain rfl : q_2 = bk := Option.some.inj hgk
      have hgk : va_up g (x / 500 % 32).toNat (some q_2) (x / 500 % 32).toNat = some q_2 := va_up_self _ _ _
      refine lv_aload hx hb d_Ri_set_43 (lv_at hl 0 rfl) ?_
      refine va_getN (D := (dC, dI)) (ci := 0) (v := .ref ck) (C := "LogDesk$Block") (T := F_Bl) (N := 1) hx hb htg hin_Bl hown hK hP i1 hi1 rfl 0 (by decide) (va_Nw.use rfl (hZ.2.1 (.fieldLinkNest "LogDesk$Ring" 21 "LogDesk$Block" "cells" "[B" "LogDesk") (by simp [nzF]))) (fun _ h9 => h9) rfl d_Ri_set_45 ?_
      refine lv_iload_n hx hb d_Ri_set_48 rfl (lv_at hl 3 rfl) ?_
      refine lv_sipush (v := iZ 500) hx hb d_Ri_set_49 (by decide) ?_
      refine zz_irem hx hb (by omega) (by omega) (by omega) (by omega) d_Ri_set_52 ?_
      refine lv_iload_n hx hb d_Ri_set_53 rfl (lv_at hl 4 rfl) ?_
      refine zz_i2b hx hb d_Ri_set_54 ?_
      refine zz_bast hx hb hK hP hD hS i2 0 hi2 rfl (by omega) (by omega) (by omega) d_Ri_set_55 (fun H locs hP hD9 hS => ?_)
      obtain ⟨pl2, hR2, hP, hD⟩ := rk_put hR hk (by omega) (by omega) hgk hi1 hi2 hD hP
      have hix : (x % 16000).toNat = (x / 500 % 32).toNat * 500 + (x % 500).toNat := by omega
      refine W.widen (k := (2 * (cal (aP al x) 32 - cal al 32))) (n := (501 * (cal (aP al x) 32 - cal al 32))) (by omega) (by omega) ?_
      exact W.vret hx hb hr (fun t ht hW => ⟨⟨(pl2, (va_up g (x / 500 % 32).toNat (some q_2))), rfl, by unfold aP uP; rw [hix]; exact hR2, by rw [ht]; exact hP, va_K.moved hW.alike hK, hAe ▸ hD⟩, hAe ▸ hS.F ht⟩) (hAe ▸ hS.2.2) d_Ri_set_56
  · exfalso; omega
