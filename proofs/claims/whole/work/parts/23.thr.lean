set_option maxHeartbeats 4000000 in
set_option maxRecDepth 100000 in
theorem c_De_charge (l : Launch) (dC : Nat → ClassId) (dI : Nat → Nat → Nat) (cB : ClassId) (cI : ClassId) (cJ : ClassId) (cZ : ClassId) (cQ : ClassId) (d0 r0 a0 w0 p0 i0 : Nat) (sz : Nat) (hfl : l.flags = flags0) (N : Int) (bg : Int) (en : Int) (fl : Int) (rs : Int) (wr : Int) (lf : Int) (x : Int) (hx0 : iB x) : MetT l y_De_charge ((Cond.code y_De_charge prog_1_method_15_code 2 none) :: gw) ({ frames := 6, cells := (0 + 1), slots := (0 + 6), locals := 90 } : Room) (zPcT (dC, dI) [(cB, .byte), (cI, .int), (cJ, .long), (cZ, .boolean), (cQ, .object "LogDesk$Block")] [.ref d0, .int (iZ x)] [(d0, .inr (6, [.int (iZ N), .ref r0, .ref a0, .ref w0, .ref p0, .ref i0, .int (iZ bg), .int (iZ en), .int (iZ fl), .int (iZ rs)])), (i0, .inr (1, [.int (iZ wr), .int (iZ lf)]))] sz) (zQT (dC, dI) [(cB, .byte), (cI, .int), (cJ, .long), (cZ, .boolean), (cQ, .object "LogDesk$Block")] (va_A [(d0, .inr (6, [.int (iZ N), .ref r0, .ref a0, .ref w0, .ref p0, .ref i0, .int (iZ bg), .int (iZ en), .int (iZ fl), .int (iZ rs)])), (i0, .inr (1, [.int (iZ wr), .int (iZ lf)]))] sz) "java/lang/IllegalArgumentException" "java/lang/IllegalArgumentException-" (if 0 ≤ x ∧ x ≤ 999 then 0 else 1) none (fun (q : Unit) => True) (fun (q : Unit) => [(d0, .inr (6, [.int (iZ N), .ref r0, .ref a0, .ref w0, .ref p0, .ref i0, .int (iZ bg), .int (iZ en), .int (iZ fl), .int (iZ rs)])), (i0, .inr (1, [.int (iZ wr), .int (iZ (if 0 ≤ x ∧ x ≤ 999 then x else lf))]))])) (0 + 1) (0 + 6) (va_A [(d0, .inr (6, [.int (iZ N), .ref r0, .ref a0, .ref w0, .ref p0, .ref i0, .int (iZ bg), .int (iZ en), .int (iZ fl), .int (iZ rs)])), (i0, .inr (1, [.int (iZ wr), .int (iZ lf)]))] sz) := by
  refine MetT.ofW (cc := prog_1_method_15_code) (maxL := 2) (ret := none) (by decide) rfl ?_
  intro p e s m args below meth c s₁ B hml hne hv
  obtain ⟨rfl, ⟨hsz, hP, hK, hD0, hZ⟩, hTH⟩ := hv
  have hx := B.exec
  have hb := B.bytes
  have hr := B.returns
  have hts := atoms_spec (ws := (Cond.code y_De_charge prog_1_method_15_code 2 none) :: gw) B.pre
  have htg : ∀ w ∈ gw, w.before _ s = true := fun w h => hts w (List.mem_cons_of_mem _ h)
  have hown : s.vm.findClass "LogDesk" = some m.cls := findClass_of_methodNamed B.named
  have hlocks := B.notSynchronized
  subst hsz
  have hD := hD0.self (sz := s.heap.size)
  generalize hAe : va_A [(d0, .inr (6, [.int (iZ N), .ref r0, .ref a0, .ref w0, .ref p0, .ref i0, .int (iZ bg), .int (iZ en), .int (iZ fl), .int (iZ rs)])), (i0, .inr (1, [.int (iZ wr), .int (iZ lf)]))] s.heap.size = A at hD ⊢
  have hRc : (headSpec ((Cond.code y_De_charge prog_1_method_15_code 2 none) :: gw) ({ frames := 6, cells := (0 + 1), slots := (0 + 6), locals := 90 } : Room)).room.cells = (0 + 1) := rfl
  have hRs : (headSpec ((Cond.code y_De_charge prog_1_method_15_code 2 none) :: gw) ({ frames := 6, cells := (0 + 1), slots := (0 + 6), locals := 90 } : Room)).room.slots = (0 + 6) := rfl
  have hA : ∀ q : Nat, s.heap.size ≤ q → A q := fun q h => by rw [← hAe]; exact Or.inr h
  have hS : va_S A s.heap s.heap [] := va_S.rf
  have hP : va_P (dC, dI) vwCl [(d0, .inr (6, [.int (iZ N), .ref r0, .ref a0, .ref w0, .ref p0, .ref i0, .int (iZ bg), .int (iZ en), .int (iZ fl), .int (iZ rs)])), (i0, .inr (1, [.int (iZ wr), .int (iZ lf)]))] s.heap := hP
  have hl := lv_entry ([.ref d0, .int (iZ x)]) (n := 2) (Nat.le_of_ble_eq_true rfl)
  rw [lg_entry_eq]
  generalize (lg_sl ([.ref d0, .int (iZ x)]) ++ List.replicate (2 - (lg_sl ([.ref d0, .int (iZ x)])).length) Slot.unset).toArray = ls at hl ⊢
  have hl : lv_has ls 2 [(0, .ref d0), (1, .int (iZ x))] := hl
  obtain ⟨hx1, hx2⟩ := hx0
  refine lv_iload_n hx hb d_De_charge_0 rfl (lv_at hl 1 rfl) ?_
  refine zz_if_lt (tgt := 11) hx hb d_De_charge_1 (by decide) ⟨by omega, by omega⟩ (fun c_1 => ?_) (fun c_1 => ?_)
  · have eW : ∀ (x0 y0 : Int), x0 = y0 → ([(d0, .inr (6, [.int (iZ N), .ref r0, .ref a0, .ref w0, .ref p0, .ref i0, .int (iZ bg), .int (iZ en), .int (iZ fl), .int (iZ rs)])), (i0, .inr (1, [.int (iZ wr), .int (iZ x0)]))] : va_W) = [(d0, .inr (6, [.int (iZ N), .ref r0, .ref a0, .ref w0, .ref p0, .ref i0, .int (iZ bg), .int (iZ en), .int (iZ fl), .int (iZ rs)])), (i0, .inr (1, [.int (iZ wr), .int (iZ y0)]))] := by intros; subst_vars; rfl
    have eW := eW lf (if 0 ≤ x ∧ x ≤ 999 then x else lf) (by omega)
    have hP : va_P (dC, dI) vwCl [(d0, .inr (6, [.int (iZ N), .ref r0, .ref a0, .ref w0, .ref p0, .ref i0, .int (iZ bg), .int (iZ en), .int (iZ fl), .int (iZ rs)])), (i0, .inr (1, [.int (iZ wr), .int (iZ (if 0 ≤ x ∧ x ≤ 999 then x else lf))]))] s.heap := eW ▸ hP
    have hD : va_D A [(d0, .inr (6, [.int (iZ N), .ref r0, .ref a0, .ref w0, .ref p0, .ref i0, .int (iZ bg), .int (iZ en), .int (iZ fl), .int (iZ rs)])), (i0, .inr (1, [.int (iZ wr), .int (iZ (if 0 ≤ x ∧ x ≤ 999 then x else lf))]))] := eW ▸ hD
    refine W.widen (k := 0) (n := 0) (by omega) (by omega) ?_
    obtain ⟨qs, hws⟩ := th_hw hown htg hTH hAe hS (i0 := 59) (i2 := 63) k_254 k_255 k_11 (show Cond.stringRef "LogDesk" 165 "the charge is not 0 .. 999" ∈ thW by simp [thW]) own_63
    subst hAe
    exact zt_throw hx hb hne hlocks hfl (by decide) hws d_De_charge_11 d_De_charge_14 d_De_charge_15 d_De_charge_17 d_De_charge_20 (hl.1.trans hml.symm) (Nat.le_of_ble_eq_true rfl) (Nat.le_of_ble_eq_true rfl) (by omega) (by omega) (zt_q () hP hD hK hS trivial (Or.inl ⟨(by omega), rfl⟩)) hS.2.2
  · refine lv_iload_n hx hb d_De_charge_4 rfl (lv_at hl 1 rfl) ?_
    refine lv_sipush (v := iZ 999) hx hb d_De_charge_5 (by decide) ?_
    refine zz_icmp_le (tgt := 21) hx hb d_De_charge_8 (by decide) ⟨by omega, by omega⟩ ⟨by omega, by omega⟩ (fun c_2 => ?_) (fun c_2 => ?_)
    · refine lv_aload_n hx hb d_De_charge_21 rfl (lv_at hl 0 rfl) ?_
      refine va_get (D := (dC, dI)) (ci := 6) (v := .ref i0) (C := "LogDesk") (T := F_De) (N := 10) hx hb htg hin_De hown hK hP 0 rfl rfl 5 (by decide) (htg _ k_95) (fun _ h9 => h9) rfl d_De_charge_22 ?_
      refine lv_iload_n hx hb d_De_charge_25 rfl (lv_at hl 1 rfl) ?_
      refine z_v (wr := [(d0, .inr (6, [.int (iZ N), .ref r0, .ref a0, .ref w0, .ref p0, .ref i0, .int (iZ bg), .int (iZ en), .int (iZ fl), .int (iZ rs)]))]) (va_runV (As := [.int (iZ x)]) (rest := []) ⟨hx, hb, hml, hown, htg⟩ (c_Di_setCharge l dC dI cB cI cJ cZ cQ i0 s.heap.size wr lf x) (cwV 1 htg (gw_V k_464 k_465 k_466 k_6 k_467) rfl rfl rfl (by decide +kernel) ⟨Nat.le_of_ble_eq_true rfl, Nat.le_of_ble_eq_true rfl⟩) (zPreV hK hP hD hZ [1] rfl (by decide) 1 (ci := 1) rfl rfl) rfl rfl hl.1 rfl (lv_room (Nat.le_of_ble_eq_true rfl)) d_De_charge_26 ⟨by omega, by omega⟩) hP hD hS hA [1] [0] rfl rfl (by decide) (by decide) (fun H locs hP hD hS => ?_)
      have hP : va_P (dC, dI) vwCl [(d0, .inr (6, [.int (iZ N), .ref r0, .ref a0, .ref w0, .ref p0, .ref i0, .int (iZ bg), .int (iZ en), .int (iZ fl), .int (iZ rs)])), (i0, .inr (1, [.int (iZ wr), .int (iZ x)]))] H := hP
      have hD : va_D A [(d0, .inr (6, [.int (iZ N), .ref r0, .ref a0, .ref w0, .ref p0, .ref i0, .int (iZ bg), .int (iZ en), .int (iZ fl), .int (iZ rs)])), (i0, .inr (1, [.int (iZ wr), .int (iZ x)]))] := hD
      have eW : ∀ (x0 y0 : Int), x0 = y0 → ([(d0, .inr (6, [.int (iZ N), .ref r0, .ref a0, .ref w0, .ref p0, .ref i0, .int (iZ bg), .int (iZ en), .int (iZ fl), .int (iZ rs)])), (i0, .inr (1, [.int (iZ wr), .int (iZ x0)]))] : va_W) = [(d0, .inr (6, [.int (iZ N), .ref r0, .ref a0, .ref w0, .ref p0, .ref i0, .int (iZ bg), .int (iZ en), .int (iZ fl), .int (iZ rs)])), (i0, .inr (1, [.int (iZ wr), .int (iZ y0)]))] := by intros; subst_vars; rfl
      have eW := eW x (if 0 ≤ x ∧ x ≤ 999 then x else lf) (by omega)
      have hP : va_P (dC, dI) vwCl [(d0, .inr (6, [.int (iZ N), .ref r0, .ref a0, .ref w0, .ref p0, .ref i0, .int (iZ bg), .int (iZ en), .int (iZ fl), .int (iZ rs)])), (i0, .inr (1, [.int (iZ wr), .int (iZ (if 0 ≤ x ∧ x ≤ 999 then x else lf))]))] H := eW ▸ hP
      have hD : va_D A [(d0, .inr (6, [.int (iZ N), .ref r0, .ref a0, .ref w0, .ref p0, .ref i0, .int (iZ bg), .int (iZ en), .int (iZ fl), .int (iZ rs)])), (i0, .inr (1, [.int (iZ wr), .int (iZ (if 0 ≤ x ∧ x ≤ 999 then x else lf))]))] := eW ▸ hD
      refine W.widen (k := (0 + 1)) (n := (0 + 6)) (by omega) (by omega) ?_
      refine W.mono (fun t h => MQT.of h) ?_
      exact W.vret hx hb hr (fun t ht hW => ⟨⟨(), trivial, ⟨by rw [ht]; exact hP, va_K.moved hW.alike hK, hAe ▸ hD⟩, Or.inl ⟨by omega, rfl⟩⟩, hAe ▸ hS.F ht⟩) (hAe ▸ hS.2.2) d_De_charge_29
    · have eW : ∀ (x0 y0 : Int), x0 = y0 → ([(d0, .inr (6, [.int (iZ N), .ref r0, .ref a0, .ref w0, .ref p0, .ref i0, .int (iZ bg), .int (iZ en), .int (iZ fl), .int (iZ rs)])), (i0, .inr (1, [.int (iZ wr), .int (iZ x0)]))] : va_W) = [(d0, .inr (6, [.int (iZ N), .ref r0, .ref a0, .ref w0, .ref p0, .ref i0, .int (iZ bg), .int (iZ en), .int (iZ fl), .int (iZ rs)])), (i0, .inr (1, [.int (iZ wr), .int (iZ y0)]))] := by intros; subst_vars; rfl
      have eW := eW lf (if 0 ≤ x ∧ x ≤ 999 then x else lf) (by omega)
      have hP : va_P (dC, dI) vwCl [(d0, .inr (6, [.int (iZ N), .ref r0, .ref a0, .ref w0, .ref p0, .ref i0, .int (iZ bg), .int (iZ en), .int (iZ fl), .int (iZ rs)])), (i0, .inr (1, [.int (iZ wr), .int (iZ (if 0 ≤ x ∧ x ≤ 999 then x else lf))]))] s.heap := eW ▸ hP
      have hD : va_D A [(d0, .inr (6, [.int (iZ N), .ref r0, .ref a0, .ref w0, .ref p0, .ref i0, .int (iZ bg), .int (iZ en), .int (iZ fl), .int (iZ rs)])), (i0, .inr (1, [.int (iZ wr), .int (iZ (if 0 ≤ x ∧ x ≤ 999 then x else lf))]))] := eW ▸ hD
      refine W.widen (k := 0) (n := 0) (by omega) (by omega) ?_
      obtain ⟨qs, hws⟩ := th_hw hown htg hTH hAe hS (i0 := 59) (i2 := 63) k_254 k_255 k_11 (show Cond.stringRef "LogDesk" 165 "the charge is not 0 .. 999" ∈ thW by simp [thW]) own_63
      subst hAe
      exact zt_throw hx hb hne hlocks hfl (by decide) hws d_De_charge_11 d_De_charge_14 d_De_charge_15 d_De_charge_17 d_De_charge_20 (hl.1.trans hml.symm) (Nat.le_of_ble_eq_true rfl) (Nat.le_of_ble_eq_true rfl) (by omega) (by omega) (zt_q () hP hD hK hS trivial (Or.inl ⟨(by omega), rfl⟩)) hS.2.2
