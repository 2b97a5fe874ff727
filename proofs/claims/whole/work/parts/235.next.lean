set_option maxHeartbeats 4000000 in
set_option maxRecDepth 100000 in
theorem c_De_next (l : Launch) (dC : Nat → ClassId) (dI : Nat → Nat → Nat) (cB : ClassId) (cI : ClassId) (cJ : ClassId) (cZ : ClassId) (cQ : ClassId) (d0 r0 a0 w0 p0 i0 r1 : Nat) (sz : Nat) (hfl : l.flags = flags0) (N : Int) (bg : Int) (en : Int) (fl : Int) (rs : Int) (pl : va_W) (g : Nat → Option Nat) (al : Nat → Bool) (u : Nat → Int) (hR : RK cB pl g al u) (hrs : -1 ≤ rs ∧ rs ≤ 1000000000) (hpl : 0 ≤ bg ∧ bg ≤ en ∧ en ≤ 1000000000 ∧ 0 ≤ fl ∧ fl ≤ 1000000000) : MetT l y_De_next ((Cond.code y_De_next prog_1_method_12_code 2 (some .int)) :: gw) ({ frames := 6, cells := (0 + 1), slots := (0 + 6), locals := 90 } : Room) (zPcT (dC, dI) [(cB, .byte), (cI, .int), (cJ, .long), (cZ, .boolean), (cQ, .object "LogDesk$Block")] [.ref d0] ([(d0, .inr (6, [.int (iZ N), .ref r0, .ref a0, .ref w0, .ref p0, .ref i0, .int (iZ bg), .int (iZ en), .int (iZ fl), .int (iZ rs)])), (r0, .inr (4, [.ref r1])), (r1, .inl (cQ, 32, .inr (.inr (.inr (.inr g)))))] ++ pl) sz) (zQT (dC, dI) [(cB, .byte), (cI, .int), (cJ, .long), (cZ, .boolean), (cQ, .object "LogDesk$Block")] (va_A ([(d0, .inr (6, [.int (iZ N), .ref r0, .ref a0, .ref w0, .ref p0, .ref i0, .int (iZ bg), .int (iZ en), .int (iZ fl), .int (iZ rs)])), (r0, .inr (4, [.ref r1])), (r1, .inl (cQ, 32, .inr (.inr (.inr (.inr g)))))] ++ pl) sz) "java/util/NoSuchElementException" "java/util/NoSuchElementException-" (if (if rs = -1 then bg else er u rs) < en then 0 else 1) (some (.int (iZ (rb u (if rs = -1 then bg else er u rs))))) (fun (q : Unit) => True) (fun (q : Unit) => ([(d0, .inr (6, [.int (iZ N), .ref r0, .ref a0, .ref w0, .ref p0, .ref i0, .int (iZ bg), .int (iZ en), .int (iZ fl), .int (iZ (if (if rs = -1 then bg else er u rs) < en then (if rs = -1 then bg else er u rs) else rs))])), (r0, .inr (4, [.ref r1])), (r1, .inl (cQ, 32, .inr (.inr (.inr (.inr g)))))] ++ pl))) (0 + 1) (0 + 6) (va_A ([(d0, .inr (6, [.int (iZ N), .ref r0, .ref a0, .ref w0, .ref p0, .ref i0, .int (iZ bg), .int (iZ en), .int (iZ fl), .int (iZ rs)])), (r0, .inr (4, [.ref r1])), (r1, .inl (cQ, 32, .inr (.inr (.inr (.inr g)))))] ++ pl) sz) := by
  refine MetT.ofW (cc := prog_1_method_12_code) (maxL := 2) (ret := (some .int)) (by decide) rfl ?_
  intro p e s m args below meth c s₁ B hml hne hv
  obtain ⟨rfl, ⟨hsz, hP, hK, hD0, hZ⟩, hTH⟩ := hv
  have hx := B.exec
  have hb := B.bytes
  have hr := B.returns
  have hts := atoms_spec (ws := (Cond.code y_De_next prog_1_method_12_code 2 (some .int)) :: gw) B.pre
  have htg : ∀ w ∈ gw, w.before _ s = true := fun w h => hts w (List.mem_cons_of_mem _ h)
  have hown : s.vm.findClass "LogDesk" = some m.cls := findClass_of_methodNamed B.named
  have hlocks := B.notSynchronized
  subst hsz
  have hD := hD0.self (sz := s.heap.size)
  generalize hAe : va_A ([(d0, .inr (6, [.int (iZ N), .ref r0, .ref a0, .ref w0, .ref p0, .ref i0, .int (iZ bg), .int (iZ en), .int (iZ fl), .int (iZ rs)])), (r0, .inr (4, [.ref r1])), (r1, .inl (cQ, 32, .inr (.inr (.inr (.inr g)))))] ++ pl) s.heap.size = A at hD ⊢
  have hRc : (headSpec ((Cond.code y_De_next prog_1_method_12_code 2 (some .int)) :: gw) ({ frames := 6, cells := (0 + 1), slots := (0 + 6), locals := 90 } : Room)).room.cells = (0 + 1) := rfl
  have hRs : (headSpec ((Cond.code y_De_next prog_1_method_12_code 2 (some .int)) :: gw) ({ frames := 6, cells := (0 + 1), slots := (0 + 6), locals := 90 } : Room)).room.slots = (0 + 6) := rfl
  have hA : ∀ q : Nat, s.heap.size ≤ q → A q := fun q h => by rw [← hAe]; exact Or.inr h
  have hS : va_S A s.heap s.heap [] := va_S.rf
  have hP : va_P (dC, dI) vwCl ([(d0, .inr (6, [.int (iZ N), .ref r0, .ref a0, .ref w0, .ref p0, .ref i0, .int (iZ bg), .int (iZ en), .int (iZ fl), .int (iZ rs)])), (r0, .inr (4, [.ref r1])), (r1, .inl (cQ, 32, .inr (.inr (.inr (.inr g)))))] ++ pl) s.heap := hP
  have hl := lv_entry ([.ref d0]) (n := 2) (Nat.le_of_ble_eq_true rfl)
  rw [lg_entry_eq]
  generalize (lg_sl ([.ref d0]) ++ List.replicate (2 - (lg_sl ([.ref d0])).length) Slot.unset).toArray = ls at hl ⊢
  have hl : lv_has ls 2 [(0, .ref d0)] := hl
  have her : er u rs = rs + 3 + bl u rs := rfl
  have hbl := bl_in u rs
  refine lv_aload_n hx hb d_De_next_0 rfl (lv_at hl 0 rfl) ?_
  refine va_get (D := (dC, dI)) (ci := 6) (v := .int (iZ rs)) (C := "LogDesk") (T := F_De) (N := 10) hx hb htg hin_De hown hK hP 0 rfl rfl 9 (by decide) (htg _ k_99) (fun _ h9 => h9) rfl d_De_next_1 ?_
  refine lv_iconst (v := iZ (-1)) hx hb d_De_next_4 rfl ?_
  refine zz_icmp_ne (tgt := 15) hx hb d_De_next_5 (by decide) ⟨by omega, by omega⟩ ⟨by omega, by omega⟩ (fun c_1 => ?_) (fun c_1 => ?_)
  · refine lv_aload_n hx hb d_De_next_15 rfl (lv_at hl 0 rfl) ?_
    refine lv_aload_n hx hb d_De_next_16 rfl (lv_at hl 0 rfl) ?_
    refine va_get (D := (dC, dI)) (ci := 6) (v := .int (iZ rs)) (C := "LogDesk") (T := F_De) (N := 10) hx hb htg hin_De hown hK hP 0 rfl rfl 9 (by decide) (htg _ k_99) (fun _ h9 => h9) rfl d_De_next_17 ?_
    refine zp_i (wr := []) (va_runV (As := [.int (iZ rs)]) (rest := []) ⟨hx, hb, hml, hown, htg⟩ (c_De_endOfRecord l dC dI cB cI cJ cZ cQ d0 r0 a0 w0 p0 i0 r1 s.heap.size N bg en fl rs pl g al u rs hR (by omega)) (cwV 1 htg (gw_V k_188 k_190 k_p1 k_1 k_191) rfl rfl rfl (by decide +kernel) ⟨Nat.le_of_ble_eq_true rfl, Nat.le_of_ble_eq_true rfl⟩) (zPreVP hK hP hD hZ [0, 1, 2] rfl (by decide) 0 (ci := 6) rfl rfl) rfl rfl hl.1 rfl (lv_room (Nat.le_of_ble_eq_true rfl)) d_De_next_20 ⟨by omega, by omega⟩) hP hD hS hA [0, 1, 2] [] rfl rfl (by decide) (by decide) (fun H locs hP hD hS => ?_)
    have hP : va_P (dC, dI) vwCl ([(d0, .inr (6, [.int (iZ N), .ref r0, .ref a0, .ref w0, .ref p0, .ref i0, .int (iZ bg), .int (iZ en), .int (iZ fl), .int (iZ rs)])), (r0, .inr (4, [.ref r1])), (r1, .inl (cQ, 32, .inr (.inr (.inr (.inr g)))))] ++ pl) H := hP
    have hD : va_D A ([(d0, .inr (6, [.int (iZ N), .ref r0, .ref a0, .ref w0, .ref p0, .ref i0, .int (iZ bg), .int (iZ en), .int (iZ fl), .int (iZ rs)])), (r0, .inr (4, [.ref r1])), (r1, .inl (cQ, 32, .inr (.inr (.inr (.inr g)))))] ++ pl) := hD
    refine lv_istore_n (lv' := [(1, .int (iZ (er u rs))), (0, .ref d0)]) hx hb d_De_next_23 rfl hl (by decide) rfl (fun ls hl => ?_)
    refine lv_iload_n hx hb d_De_next_24 rfl (lv_at hl 0 rfl) ?_
    refine lv_aload_n hx hb d_De_next_25 rfl (lv_at hl 1 rfl) ?_
    refine va_get (D := (dC, dI)) (ci := 6) (v := .int (iZ en)) (C := "LogDesk") (T := F_De) (N := 10) hx hb htg hin_De hown hK hP 0 rfl rfl 7 (by decide) (htg _ k_97) (fun _ h9 => h9) rfl d_De_next_26 ?_
    refine zz_icmp_lt (tgt := 42) hx hb d_De_next_29 (by decide) ⟨by omega, by omega⟩ ⟨by omega, by omega⟩ (fun c_2 => ?_) (fun c_2 => ?_)
    · refine lv_aload_n hx hb d_De_next_42 rfl (lv_at hl 1 rfl) ?_
      refine lv_iload_n hx hb d_De_next_43 rfl (lv_at hl 0 rfl) ?_
      refine va_put (D := (dC, dI)) (ci := 6) (v := .int (iZ (er u rs))) (ty := t_De 9) (C := "LogDesk") (T := F_De) (N := 10) hx hb htg hin_De t_De t_De_ok n_De hown hK hP hD hS 0 rfl rfl 9 (by decide) (htg _ k_99) (fun _ h9 => h9) rfl (by decide +kernel) rfl rfl (Nat.le_of_ble_eq_true rfl) d_De_next_44 (fun H locs hP hD hS => ?_)
      have hP : va_P (dC, dI) vwCl ([(d0, .inr (6, [.int (iZ N), .ref r0, .ref a0, .ref w0, .ref p0, .ref i0, .int (iZ bg), .int (iZ en), .int (iZ fl), .int (iZ (er u rs))])), (r0, .inr (4, [.ref r1])), (r1, .inl (cQ, 32, .inr (.inr (.inr (.inr g)))))] ++ pl) H := hP
      have hD : va_D A ([(d0, .inr (6, [.int (iZ N), .ref r0, .ref a0, .ref w0, .ref p0, .ref i0, .int (iZ bg), .int (iZ en), .int (iZ fl), .int (iZ (er u rs))])), (r0, .inr (4, [.ref r1])), (r1, .inl (cQ, 32, .inr (.inr (.inr (.inr g)))))] ++ pl) := hD
      refine lv_aload_n hx hb d_De_next_47 rfl (lv_at hl 1 rfl) ?_
      refine va_get (D := (dC, dI)) (ci := 6) (v := .ref r0) (C := "LogDesk") (T := F_De) (N := 10) hx hb htg hin_De hown hK hP 0 rfl rfl 1 (by decide) (htg _ k_91) (fun _ h9 => h9) rfl d_De_next_48 ?_
      refine lv_iload_n hx hb d_De_next_51 rfl (lv_at hl 0 rfl) ?_
      refine zp_i (wr := [(d0, .inr (6, [.int (iZ N), .ref r0, .ref a0, .ref w0, .ref p0, .ref i0, .int (iZ bg), .int (iZ en), .int (iZ fl), .int (iZ (er u rs))]))]) (va_runV (As := [.int (iZ (er u rs))]) (rest := []) ⟨hx, hb, hml, hown, htg⟩ (c_Ri_get l dC dI cB cI cJ cZ cQ r0 r1 H.size pl g al u (er u rs) hR (by omega)) (cwV 1 htg (gw_V k_196 k_197 k_198 k_2 k_199) rfl rfl rfl (by decide +kernel) ⟨Nat.le_of_ble_eq_true rfl, Nat.le_of_ble_eq_true rfl⟩) (zPreVP hK hP hD hZ [1, 2] rfl (by decide) 1 (ci := 4) rfl rfl) rfl rfl hl.1 rfl (lv_room (Nat.le_of_ble_eq_true rfl)) d_De_next_52 ⟨by omega, by omega⟩) hP hD hS hA [1, 2] [0] rfl rfl (by decide) (by decide) (fun H locs hP hD hS => ?_)
      have hP : va_P (dC, dI) vwCl ([(d0, .inr (6, [.int (iZ N), .ref r0, .ref a0, .ref w0, .ref p0, .ref i0, .int (iZ bg), .int (iZ en), .int (iZ fl), .int (iZ (er u rs))])), (r0, .inr (4, [.ref r1])), (r1, .inl (cQ, 32, .inr (.inr (.inr (.inr g)))))] ++ pl) H := hP
      have hD : va_D A ([(d0, .inr (6, [.int (iZ N), .ref r0, .ref a0, .ref w0, .ref p0, .ref i0, .int (iZ bg), .int (iZ en), .int (iZ fl), .int (iZ (er u rs))])), (r0, .inr (4, [.ref r1])), (r1, .inl (cQ, 32, .inr (.inr (.inr (.inr g)))))] ++ pl) := hD
      have eW : ∀ (x0 y0 : Int), x0 = y0 → (([(d0, .inr (6, [.int (iZ N), .ref r0, .ref a0, .ref w0, .ref p0, .ref i0, .int (iZ bg), .int (iZ en), .int (iZ fl), .int (iZ x0)])), (r0, .inr (4, [.ref r1])), (r1, .inl (cQ, 32, .inr (.inr (.inr (.inr g)))))] ++ pl) : va_W) = ([(d0, .inr (6, [.int (iZ N), .ref r0, .ref a0, .ref w0, .ref p0, .ref i0, .int (iZ bg), .int (iZ en), .int (iZ fl), .int (iZ y0)])), (r0, .inr (4, [.ref r1])), (r1, .inl (cQ, 32, .inr (.inr (.inr (.inr g)))))] ++ pl) := by intros; subst_vars; rfl
      have eW := eW (er u rs) (if (if rs = -1 then bg else er u rs) < en then (if rs = -1 then bg else er u rs) else rs) (by omega)
      have hP : va_P (dC, dI) vwCl ([(d0, .inr (6, [.int (iZ N), .ref r0, .ref a0, .ref w0, .ref p0, .ref i0, .int (iZ bg), .int (iZ en), .int (iZ fl), .int (iZ (if (if rs = -1 then bg else er u rs) < en then (if rs = -1 then bg else er u rs) else rs))])), (r0, .inr (4, [.ref r1])), (r1, .inl (cQ, 32, .inr (.inr (.inr (.inr g)))))] ++ pl) H := eW ▸ hP
      have hD : va_D A ([(d0, .inr (6, [.int (iZ N), .ref r0, .ref a0, .ref w0, .ref p0, .ref i0, .int (iZ bg), .int (iZ en), .int (iZ fl), .int (iZ (if (if rs = -1 then bg else er u rs) < en then (if rs = -1 then bg else er u rs) else rs))])), (r0, .inr (4, [.ref r1])), (r1, .inl (cQ, 32, .inr (.inr (.inr (.inr g)))))] ++ pl) := eW ▸ hD
      refine W.widen (k := (0 + 1)) (n := (0 + 6)) (by omega) (by omega) ?_
      refine W.mono (fun t h => MQT.of h) ?_
      exact W.iret (v := (iZ (u ((er u rs) % 16000).toNat % 256))) hx hb hr (fun t ht hW => ⟨⟨(), trivial, ⟨by rw [ht]; exact hP, va_K.moved hW.alike hK, hAe ▸ hD⟩, Or.inl ⟨by omega, congrArg (fun z => Outcome.returned (some (.int (iZ z)))) (show rb u _ = _ from congrArg (rb u) (by omega))⟩⟩, hAe ▸ hS.F ht⟩) (hAe ▸ hS.2.2) d_De_next_55
    · have eW : ∀ (x0 y0 : Int), x0 = y0 → (([(d0, .inr (6, [.int (iZ N), .ref r0, .ref a0, .ref w0, .ref p0, .ref i0, .int (iZ bg), .int (iZ en), .int (iZ fl), .int (iZ x0)])), (r0, .inr (4, [.ref r1])), (r1, .inl (cQ, 32, .inr (.inr (.inr (.inr g)))))] ++ pl) : va_W) = ([(d0, .inr (6, [.int (iZ N), .ref r0, .ref a0, .ref w0, .ref p0, .ref i0, .int (iZ bg), .int (iZ en), .int (iZ fl), .int (iZ y0)])), (r0, .inr (4, [.ref r1])), (r1, .inl (cQ, 32, .inr (.inr (.inr (.inr g)))))] ++ pl) := by intros; subst_vars; rfl
      have eW := eW rs (if (if rs = -1 then bg else er u rs) < en then (if rs = -1 then bg else er u rs) else rs) (by omega)
      have hP : va_P (dC, dI) vwCl ([(d0, .inr (6, [.int (iZ N), .ref r0, .ref a0, .ref w0, .ref p0, .ref i0, .int (iZ bg), .int (iZ en), .int (iZ fl), .int (iZ (if (if rs = -1 then bg else er u rs) < en then (if rs = -1 then bg else er u rs) else rs))])), (r0, .inr (4, [.ref r1])), (r1, .inl (cQ, 32, .inr (.inr (.inr (.inr g)))))] ++ pl) H := eW ▸ hP
      have hD : va_D A ([(d0, .inr (6, [.int (iZ N), .ref r0, .ref a0, .ref w0, .ref p0, .ref i0, .int (iZ bg), .int (iZ en), .int (iZ fl), .int (iZ (if (if rs = -1 then bg else er u rs) < en then (if rs = -1 then bg else er u rs) else rs))])), (r0, .inr (4, [.ref r1])), (r1, .inl (cQ, 32, .inr (.inr (.inr (.inr g)))))] ++ pl) := eW ▸ hD
      refine W.widen (k := 0) (n := 0) (by omega) (by omega) ?_
      obtain ⟨qs, hws⟩ := th_hwN hown htg hTH hAe hS (i0 := 156) (i2 := 160) k_440 k_441 k_17 (show Cond.stringRef "LogDesk" 158 "there is no other record" ∈ thW by simp [thW]) own_160
      subst hAe
      exact zt_throwN hx hb hne hlocks hfl (by decide +kernel) (by decide +kernel) (by decide +kernel) (by decide +kernel) (by decide) hws d_De_next_32 d_De_next_35 d_De_next_36 d_De_next_38 d_De_next_41 (hl.1.trans hml.symm) (Nat.le_of_ble_eq_true rfl) (Nat.le_of_ble_eq_true rfl) (by omega) (by omega) (zt_q () hP hD hK hS trivial (Or.inl ⟨(by omega), rfl⟩)) hS.2.2
  · refine lv_aload_n hx hb d_De_next_8 rfl (lv_at hl 0 rfl) ?_
    refine va_get (D := (dC, dI)) (ci := 6) (v := .int (iZ bg)) (C := "LogDesk") (T := F_De) (N := 10) hx hb htg hin_De hown hK hP 0 rfl rfl 6 (by decide) (htg _ k_96) (fun _ h9 => h9) rfl d_De_next_9 ?_
    refine lv_goto (tgt := 23) hx hb d_De_next_12 (by decide) ?_
    refine lv_istore_n (lv' := [(1, .int (iZ bg)), (0, .ref d0)]) hx hb d_De_next_23 rfl hl (by decide) rfl (fun ls hl => ?_)
    refine lv_iload_n hx hb d_De_next_24 rfl (lv_at hl 0 rfl) ?_
    refine lv_aload_n hx hb d_De_next_25 rfl (lv_at hl 1 rfl) ?_
    refine va_get (D := (dC, dI)) (ci := 6) (v := .int (iZ en)) (C := "LogDesk") (T := F_De) (N := 10) hx hb htg hin_De hown hK hP 0 rfl rfl 7 (by decide) (htg _ k_97) (fun _ h9 => h9) rfl d_De_next_26 ?_
    refine zz_icmp_lt (tgt := 42) hx hb d_De_next_29 (by decide) ⟨by omega, by omega⟩ ⟨by omega, by omega⟩ (fun c_3 => ?_) (fun c_3 => ?_)
    · refine lv_aload_n hx hb d_De_next_42 rfl (lv_at hl 1 rfl) ?_
      refine lv_iload_n hx hb d_De_next_43 rfl (lv_at hl 0 rfl) ?_
      refine va_put (D := (dC, dI)) (ci := 6) (v := .int (iZ bg)) (ty := t_De 9) (C := "LogDesk") (T := F_De) (N := 10) hx hb htg hin_De t_De t_De_ok n_De hown hK hP hD hS 0 rfl rfl 9 (by decide) (htg _ k_99) (fun _ h9 => h9) rfl (by decide +kernel) rfl rfl (Nat.le_of_ble_eq_true rfl) d_De_next_44 (fun H locs hP hD hS => ?_)
      have hP : va_P (dC, dI) vwCl ([(d0, .inr (6, [.int (iZ N), .ref r0, .ref a0, .ref w0, .ref p0, .ref i0, .int (iZ bg), .int (iZ en), .int (iZ fl), .int (iZ bg)])), (r0, .inr (4, [.ref r1])), (r1, .inl (cQ, 32, .inr (.inr (.inr (.inr g)))))] ++ pl) H := hP
      have hD : va_D A ([(d0, .inr (6, [.int (iZ N), .ref r0, .ref a0, .ref w0, .ref p0, .ref i0, .int (iZ bg), .int (iZ en), .int (iZ fl), .int (iZ bg)])), (r0, .inr (4, [.ref r1])), (r1, .inl (cQ, 32, .inr (.inr (.inr (.inr g)))))] ++ pl) := hD
      refine lv_aload_n hx hb d_De_next_47 rfl (lv_at hl 1 rfl) ?_
      refine va_get (D := (dC, dI)) (ci := 6) (v := .ref r0) (C := "LogDesk") (T := F_De) (N := 10) hx hb htg hin_De hown hK hP 0 rfl rfl 1 (by decide) (htg _ k_91) (fun _ h9 => h9) rfl d_De_next_48 ?_
      refine lv_iload_n hx hb d_De_next_51 rfl (lv_at hl 0 rfl) ?_
      refine zp_i (wr := [(d0, .inr (6, [.int (iZ N), .ref r0, .ref a0, .ref w0, .ref p0, .ref i0, .int (iZ bg), .int (iZ en), .int (iZ fl), .int (iZ bg)]))]) (va_runV (As := [.int (iZ bg)]) (rest := []) ⟨hx, hb, hml, hown, htg⟩ (c_Ri_get l dC dI cB cI cJ cZ cQ r0 r1 H.size pl g al u bg hR (by omega)) (cwV 1 htg (gw_V k_196 k_197 k_198 k_2 k_199) rfl rfl rfl (by decide +kernel) ⟨Nat.le_of_ble_eq_true rfl, Nat.le_of_ble_eq_true rfl⟩) (zPreVP hK hP hD hZ [1, 2] rfl (by decide) 1 (ci := 4) rfl rfl) rfl rfl hl.1 rfl (lv_room (Nat.le_of_ble_eq_true rfl)) d_De_next_52 ⟨by omega, by omega⟩) hP hD hS hA [1, 2] [0] rfl rfl (by decide) (by decide) (fun H locs hP hD hS => ?_)
      have hP : va_P (dC, dI) vwCl ([(d0, .inr (6, [.int (iZ N), .ref r0, .ref a0, .ref w0, .ref p0, .ref i0, .int (iZ bg), .int (iZ en), .int (iZ fl), .int (iZ bg)])), (r0, .inr (4, [.ref r1])), (r1, .inl (cQ, 32, .inr (.inr (.inr (.inr g)))))] ++ pl) H := hP
      have hD : va_D A ([(d0, .inr (6, [.int (iZ N), .ref r0, .ref a0, .ref w0, .ref p0, .ref i0, .int (iZ bg), .int (iZ en), .int (iZ fl), .int (iZ bg)])), (r0, .inr (4, [.ref r1])), (r1, .inl (cQ, 32, .inr (.inr (.inr (.inr g)))))] ++ pl) := hD
      have eW : ∀ (x0 y0 : Int), x0 = y0 → (([(d0, .inr (6, [.int (iZ N), .ref r0, .ref a0, .ref w0, .ref p0, .ref i0, .int (iZ bg), .int (iZ en), .int (iZ fl), .int (iZ x0)])), (r0, .inr (4, [.ref r1])), (r1, .inl (cQ, 32, .inr (.inr (.inr (.inr g)))))] ++ pl) : va_W) = ([(d0, .inr (6, [.int (iZ N), .ref r0, .ref a0, .ref w0, .ref p0, .ref i0, .int (iZ bg), .int (iZ en), .int (iZ fl), .int (iZ y0)])), (r0, .inr (4, [.ref r1])), (r1, .inl (cQ, 32, .inr (.inr (.inr (.inr g)))))] ++ pl) := by intros; subst_vars; rfl
      have eW := eW bg (if (if rs = -1 then bg else er u rs) < en then (if rs = -1 then bg else er u rs) else rs) (by omega)
      have hP : va_P (dC, dI) vwCl ([(d0, .inr (6, [.int (iZ N), .ref r0, .ref a0, .ref w0, .ref p0, .ref i0, .int (iZ bg), .int (iZ en), .int (iZ fl), .int (iZ (if (if rs = -1 then bg else er u rs) < en then (if rs = -1 then bg else er u rs) else rs))])), (r0, .inr (4, [.ref r1])), (r1, .inl (cQ, 32, .inr (.inr (.inr (.inr g)))))] ++ pl) H := eW ▸ hP
      have hD : va_D A ([(d0, .inr (6, [.int (iZ N), .ref r0, .ref a0, .ref w0, .ref p0, .ref i0, .int (iZ bg), .int (iZ en), .int (iZ fl), .int (iZ (if (if rs = -1 then bg else er u rs) < en then (if rs = -1 then bg else er u rs) else rs))])), (r0, .inr (4, [.ref r1])), (r1, .inl (cQ, 32, .inr (.inr (.inr (.inr g)))))] ++ pl) := eW ▸ hD
      refine W.widen (k := (0 + 1)) (n := (0 + 6)) (by omega) (by omega) ?_
      refine W.mono (fun t h => MQT.of h) ?_
      exact W.iret (v := (iZ (u (bg % 16000).toNat % 256))) hx hb hr (fun t ht hW => ⟨⟨(), trivial, ⟨by rw [ht]; exact hP, va_K.moved hW.alike hK, hAe ▸ hD⟩, Or.inl ⟨by omega, congrArg (fun z => Outcome.returned (some (.int (iZ z)))) (show rb u _ = _ from congrArg (rb u) (by omega))⟩⟩, hAe ▸ hS.F ht⟩) (hAe ▸ hS.2.2) d_De_next_55
    · have eW : ∀ (x0 y0 : Int), x0 = y0 → (([(d0, .inr (6, [.int (iZ N), .ref r0, .ref a0, .ref w0, .ref p0, .ref i0, .int (iZ bg), .int (iZ en), .int (iZ fl), .int (iZ x0)])), (r0, .inr (4, [.ref r1])), (r1, .inl (cQ, 32, .inr (.inr (.inr (.inr g)))))] ++ pl) : va_W) = ([(d0, .inr (6, [.int (iZ N), .ref r0, .ref a0, .ref w0, .ref p0, .ref i0, .int (iZ bg), .int (iZ en), .int (iZ fl), .int (iZ y0)])), (r0, .inr (4, [.ref r1])), (r1, .inl (cQ, 32, .inr (.inr (.inr (.inr g)))))] ++ pl) := by intros; subst_vars; rfl
      have eW := eW rs (if (if rs = -1 then bg else er u rs) < en then (if rs = -1 then bg else er u rs) else rs) (by omega)
      have hP : va_P (dC, dI) vwCl ([(d0, .inr (6, [.int (iZ N), .ref r0, .ref a0, .ref w0, .ref p0, .ref i0, .int (iZ bg), .int (iZ en), .int (iZ fl), .int (iZ (if (if rs = -1 then bg else er u rs) < en then (if rs = -1 then bg else er u rs) else rs))])), (r0, .inr (4, [.ref r1])), (r1, .inl (cQ, 32, .inr (.inr (.inr (.inr g)))))] ++ pl) s.heap := eW ▸ hP
      have hD : va_D A ([(d0, .inr (6, [.int (iZ N), .ref r0, .ref a0, .ref w0, .ref p0, .ref i0, .int (iZ bg), .int (iZ en), .int (iZ fl), .int (iZ (if (if rs = -1 then bg else er u rs) < en then (if rs = -1 then bg else er u rs) else rs))])), (r0, .inr (4, [.ref r1])), (r1, .inl (cQ, 32, .inr (.inr (.inr (.inr g)))))] ++ pl) := eW ▸ hD
      refine W.widen (k := 0) (n := 0) (by omega) (by omega) ?_
      obtain ⟨qs, hws⟩ := th_hwN hown htg hTH hAe hS (i0 := 156) (i2 := 160) k_440 k_441 k_17 (show Cond.stringRef "LogDesk" 158 "there is no other record" ∈ thW by simp [thW]) own_160
      subst hAe
      exact zt_throwN hx hb hne hlocks hfl (by decide +kernel) (by decide +kernel) (by decide +kernel) (by decide +kernel) (by decide) hws d_De_next_32 d_De_next_35 d_De_next_36 d_De_next_38 d_De_next_41 (hl.1.trans hml.symm) (Nat.le_of_ble_eq_true rfl) (Nat.le_of_ble_eq_true rfl) (by omega) (by omega) (zt_q () hP hD hK hS trivial (Or.inl ⟨(by omega), rfl⟩)) hS.2.2
