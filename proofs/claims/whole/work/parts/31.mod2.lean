set_option maxHeartbeats 4000000 in
set_option maxRecDepth 100000 in
theorem c_Mo_told (l : Launch) (dC : Nat → ClassId) (dI : Nat → Nat → Nat) (cB : ClassId) (cI : ClassId) (cJ : ClassId) (cZ : ClassId) (cQ : ClassId) (o0 oK oF oS oE oY oH oW oT : Nat) (sz : Nat) (th : Int) (nb : Int) (nr : Int) (us : Int) (fi : Int) (nh : Int) (bb : Int) (ee : Int) (fd : Int) (ww : Int) (le : Int) (rd : Int) (wt : Nat → Int) (hwt : ∀ j : Nat, -1 ≤ wt j ∧ wt j < 1000000000) (hfd : 0 ≤ fd ∧ fd ≤ 1000000000) : Met l y_Mo_told ((Cond.code y_Mo_told prog_9_method_13_code 3 (some .int)) :: gw) ({ frames := 0, cells := 0, slots := 0, locals := 0 } : Room) (zPc (dC, dI) [(cB, .byte), (cI, .int), (cJ, .long), (cZ, .boolean), (cQ, .object "LogDesk$Block")] [.ref o0] [(o0, .inr (7, [.int (iZ th), .int (iZ nb), .int (iZ nr), .ref oK, .ref oF, .ref oS, .ref oE, .int (iZ us), .int (iZ fi), .ref oY, .ref oH, .int (iZ nh), .int (iZ bb), .int (iZ ee), .int (iZ fd), .int (iZ ww), .int (iZ le), .ref oW, .ref oT, .int (iZ rd)])), (oW, .inl (cI, 6, .inl (fun j => iZ (wt j))))] sz) (va_Qi (fun (r : Int32) (_ : Unit) => r = iZ (if (mfst wt 6 < 0 ∨ fd < wt (mfst wt 6).toNat) then -1 else mfst wt 6)) (zB (dC, dI) [(cB, .byte), (cI, .int), (cJ, .long), (cZ, .boolean), (cQ, .object "LogDesk$Block")] (va_A [(o0, .inr (7, [.int (iZ th), .int (iZ nb), .int (iZ nr), .ref oK, .ref oF, .ref oS, .ref oE, .int (iZ us), .int (iZ fi), .ref oY, .ref oH, .int (iZ nh), .int (iZ bb), .int (iZ ee), .int (iZ fd), .int (iZ ww), .int (iZ le), .ref oW, .ref oT, .int (iZ rd)])), (oW, .inl (cI, 6, .inl (fun j => iZ (wt j))))] sz) [(o0, .inr (7, [.int (iZ 0), .int (iZ nb), .int (iZ nr), .ref oK, .ref oF, .ref oS, .ref oE, .int (iZ us), .int (iZ fi), .ref oY, .ref oH, .int (iZ nh), .int (iZ bb), .int (iZ ee), .int (iZ fd), .int (iZ ww), .int (iZ le), .ref oW, .ref oT, .int (iZ rd)])), (oW, .inl (cI, 6, .inl (fun j => iZ ((if (mfst wt 6 < 0 ∨ fd < wt (mfst wt 6).toNat) then wt else va_up wt (mfst wt 6).toNat (-1)) j))))]) (va_A [(o0, .inr (7, [.int (iZ th), .int (iZ nb), .int (iZ nr), .ref oK, .ref oF, .ref oS, .ref oE, .int (iZ us), .int (iZ fi), .ref oY, .ref oH, .int (iZ nh), .int (iZ bb), .int (iZ ee), .int (iZ fd), .int (iZ ww), .int (iZ le), .ref oW, .ref oT, .int (iZ rd)])), (oW, .inl (cI, 6, .inl (fun j => iZ (wt j))))] sz)) 0 0 (va_A [(o0, .inr (7, [.int (iZ th), .int (iZ nb), .int (iZ nr), .ref oK, .ref oF, .ref oS, .ref oE, .int (iZ us), .int (iZ fi), .ref oY, .ref oH, .int (iZ nh), .int (iZ bb), .int (iZ ee), .int (iZ fd), .int (iZ ww), .int (iZ le), .ref oW, .ref oT, .int (iZ rd)])), (oW, .inl (cI, 6, .inl (fun j => iZ (wt j))))] sz) := by
  refine Met.ofW (cc := prog_9_method_13_code) (maxL := 3) (ret := (some .int)) (by decide) rfl ?_
  intro p e s m args below meth c s₁ B hml hv
  obtain ⟨rfl, hsz, hP, hK, hD0, hZ⟩ := hv
  have hx := B.exec
  have hb := B.bytes
  have hr := B.returns
  have hts := atoms_spec (ws := (Cond.code y_Mo_told prog_9_method_13_code 3 (some .int)) :: gw) B.pre
  have htg : ∀ w ∈ gw, w.before _ s = true := fun w h => hts w (List.mem_cons_of_mem _ h)
  have hown : s.vm.findClass "LogDeskModel" = some m.cls := findClass_of_methodNamed B.named
  have hlocks := B.notSynchronized
  subst hsz
  have hD := hD0.self (sz := s.heap.size)
  generalize hAe : va_A [(o0, .inr (7, [.int (iZ th), .int (iZ nb), .int (iZ nr), .ref oK, .ref oF, .ref oS, .ref oE, .int (iZ us), .int (iZ fi), .ref oY, .ref oH, .int (iZ nh), .int (iZ bb), .int (iZ ee), .int (iZ fd), .int (iZ ww), .int (iZ le), .ref oW, .ref oT, .int (iZ rd)])), (oW, .inl (cI, 6, .inl (fun j => iZ (wt j))))] s.heap.size = A at hD ⊢
  have hRc : (headSpec ((Cond.code y_Mo_told prog_9_method_13_code 3 (some .int)) :: gw) ({ frames := 0, cells := 0, slots := 0, locals := 0 } : Room)).room.cells = 0 := rfl
  have hRs : (headSpec ((Cond.code y_Mo_told prog_9_method_13_code 3 (some .int)) :: gw) ({ frames := 0, cells := 0, slots := 0, locals := 0 } : Room)).room.slots = 0 := rfl
  generalize hQ : MQ below (va_Qi (fun (r : Int32) (_ : Unit) => r = iZ (if (mfst wt 6 < 0 ∨ fd < wt (mfst wt 6).toNat) then -1 else mfst wt 6)) (zB (dC, dI) [(cB, .byte), (cI, .int), (cJ, .long), (cZ, .boolean), (cQ, .object "LogDesk$Block")] A [(o0, .inr (7, [.int (iZ 0), .int (iZ nb), .int (iZ nr), .ref oK, .ref oF, .ref oS, .ref oE, .int (iZ us), .int (iZ fi), .ref oY, .ref oH, .int (iZ nh), .int (iZ bb), .int (iZ ee), .int (iZ fd), .int (iZ ww), .int (iZ le), .ref oW, .ref oT, .int (iZ rd)])), (oW, .inl (cI, 6, .inl (fun j => iZ ((if (mfst wt 6 < 0 ∨ fd < wt (mfst wt 6).toNat) then wt else va_up wt (mfst wt 6).toNat (-1)) j))))]) A) [.ref o0].toArray s 0 0 A = QQ
  have hA : ∀ q : Nat, s.heap.size ≤ q → A q := fun q h => by rw [← hAe]; exact Or.inr h
  have hS : va_S A s.heap s.heap [] := va_S.rf
  have hP : va_P (dC, dI) vwCl [(o0, .inr (7, [.int (iZ th), .int (iZ nb), .int (iZ nr), .ref oK, .ref oF, .ref oS, .ref oE, .int (iZ us), .int (iZ fi), .ref oY, .ref oH, .int (iZ nh), .int (iZ bb), .int (iZ ee), .int (iZ fd), .int (iZ ww), .int (iZ le), .ref oW, .ref oT, .int (iZ rd)])), (oW, .inl (cI, 6, .inl (fun j => iZ (wt j))))] s.heap := hP
  have hl := lv_entry ([.ref o0]) (n := 3) (Nat.le_of_ble_eq_true rfl)
  rw [lg_entry_eq]
  generalize (lg_sl ([.ref o0]) ++ List.replicate (3 - (lg_sl ([.ref o0])).length) Slot.unset).toArray = ls at hl ⊢
  have hl : lv_has ls 3 [(0, .ref o0)] := hl
  refine lv_aload_n hx hb d_Mo_told_0 rfl (lv_at hl 0 rfl) ?_
  refine lv_iconst (v := iZ 0) hx hb d_Mo_told_1 rfl ?_
  refine va_put (D := (dC, dI)) (ci := 7) (v := .int (iZ 0)) (ty := t_Mo 0) (C := "LogDeskModel") (T := F_Mo) (N := 20) hx hb htg hin_Mo t_Mo t_Mo_ok n_Mo hown hK hP hD hS 0 rfl rfl 0 (by decide) (htg _ k_474) (fun _ h9 => h9) rfl (by decide +kernel) rfl rfl (Nat.le_of_ble_eq_true rfl) d_Mo_told_2 (fun H locs hP hD hS => ?_)
  have hP : va_P (dC, dI) vwCl [(o0, .inr (7, [.int (iZ 0), .int (iZ nb), .int (iZ nr), .ref oK, .ref oF, .ref oS, .ref oE, .int (iZ us), .int (iZ fi), .ref oY, .ref oH, .int (iZ nh), .int (iZ bb), .int (iZ ee), .int (iZ fd), .int (iZ ww), .int (iZ le), .ref oW, .ref oT, .int (iZ rd)])), (oW, .inl (cI, 6, .inl (fun j => iZ (wt j))))] H := hP
  have hD : va_D A [(o0, .inr (7, [.int (iZ 0), .int (iZ nb), .int (iZ nr), .ref oK, .ref oF, .ref oS, .ref oE, .int (iZ us), .int (iZ fi), .ref oY, .ref oH, .int (iZ nh), .int (iZ bb), .int (iZ ee), .int (iZ fd), .int (iZ ww), .int (iZ le), .ref oW, .ref oT, .int (iZ rd)])), (oW, .inl (cI, 6, .inl (fun j => iZ (wt j))))] := hD
  refine lv_iconst (v := iZ (-1)) hx hb d_Mo_told_5 rfl ?_
  refine lv_istore_n (lv' := [(1, .int (iZ (-1))), (0, .ref o0)]) hx hb d_Mo_told_6 rfl hl (by decide) rfl (fun ls hl => ?_)
  refine lv_iconst (v := iZ 0) hx hb d_Mo_told_7 rfl ?_
  refine lv_istore_n (lv' := [(2, .int (iZ 0)), (1, .int (iZ (-1))), (0, .ref o0)]) hx hb d_Mo_told_8 rfl hl (by decide) rfl (fun ls hl => ?_)
  have loop9 : ∀ (nn : Nat) (i : Int) (f : Int) (H : Heap) (locs : List Loc) (ls : Array Slot), (0 ≤ i ∧ i ≤ 6) → (f = mfst wt i.toNat) → (-1 ≤ f ∧ f < i) → (6 - i < (nn : Int)) → va_P (dC, dI) vwCl [(o0, .inr (7, [.int (iZ 0), .int (iZ nb), .int (iZ nr), .ref oK, .ref oF, .ref oS, .ref oE, .int (iZ us), .int (iZ fi), .ref oY, .ref oH, .int (iZ nh), .int (iZ bb), .int (iZ ee), .int (iZ fd), .int (iZ ww), .int (iZ le), .ref oW, .ref oT, .int (iZ rd)])), (oW, .inl (cI, 6, .inl (fun j => iZ (wt j))))] H → va_D A [(o0, .inr (7, [.int (iZ 0), .int (iZ nb), .int (iZ nr), .ref oK, .ref oF, .ref oS, .ref oE, .int (iZ us), .int (iZ fi), .ref oY, .ref oH, .int (iZ nh), .int (iZ bb), .int (iZ ee), .int (iZ fd), .int (iZ ww), .int (iZ le), .ref oW, .ref oT, .int (iZ rd)])), (oW, .inl (cI, 6, .inl (fun j => iZ (wt j))))] → va_S A s.heap H locs → lv_has ls 3 [(0, .ref o0), (1, .int (iZ f)), (2, .int (iZ i))] → W p l e (headSpec ((Cond.code y_Mo_told prog_9_method_13_code 3 (some .int)) :: gw) ({ frames := 0, cells := 0, slots := 0, locals := 0 } : Room)).room s m [.ref o0].toArray below meth c H locs 0 0 QQ (F0 m 9 ls []) := by
    intro nn
    induction nn with
    | zero => intro i f H locs ls hi hf hf2 hm hP hD hS hl; exfalso; omega
    | succ nn ih =>
      intro i f H locs ls hi hf hf2 hm hP hD hS hl
      have hg1 := hwt i.toNat
      have hg2 := hwt f.toNat
      refine lv_iload_n hx hb d_Mo_told_9 rfl (lv_at hl 2 rfl) ?_
      refine lv_bipush (v := iZ 6) hx hb d_Mo_told_10 (by decide) ?_
      refine zz_icmp_ge (tgt := 55) hx hb d_Mo_told_12 (by decide) ⟨by omega, by omega⟩ ⟨by omega, by omega⟩ (fun c_1 => ?_) (fun c_1 => ?_)
      · refine lv_iload_n hx hb d_Mo_told_55 rfl (lv_at hl 1 rfl) ?_
        refine zz_if_lt (tgt := 72) hx hb d_Mo_told_56 (by decide) ⟨by omega, by omega⟩ (fun c_2 => ?_) (fun c_2 => ?_)
        · refine lv_iconst (v := iZ (-1)) hx hb d_Mo_told_72 rfl ?_
          have hf9 : mfst wt 6 = f := by rw [hf]; congr 1; omega
          have eW : ∀ (x0 y0 : Nat → Int), x0 = y0 → ([(o0, .inr (7, [.int (iZ 0), .int (iZ nb), .int (iZ nr), .ref oK, .ref oF, .ref oS, .ref oE, .int (iZ us), .int (iZ fi), .ref oY, .ref oH, .int (iZ nh), .int (iZ bb), .int (iZ ee), .int (iZ fd), .int (iZ ww), .int (iZ le), .ref oW, .ref oT, .int (iZ rd)])), (oW, .inl (cI, 6, .inl (fun j => iZ (x0 j))))] : va_W) = [(o0, .inr (7, [.int (iZ 0), .int (iZ nb), .int (iZ nr), .ref oK, .ref oF, .ref oS, .ref oE, .int (iZ us), .int (iZ fi), .ref oY, .ref oH, .int (iZ nh), .int (iZ bb), .int (iZ ee), .int (iZ fd), .int (iZ ww), .int (iZ le), .ref oW, .ref oT, .int (iZ rd)])), (oW, .inl (cI, 6, .inl (fun j => iZ (y0 j))))] := by intros; subst_vars; rfl
          have eW := eW wt (if (mfst wt 6 < 0 ∨ fd < wt (mfst wt 6).toNat) then wt else va_up wt (mfst wt 6).toNat (-1)) ((if_pos (by rw [hf9]; omega)).symm)
          have hP : va_P (dC, dI) vwCl [(o0, .inr (7, [.int (iZ 0), .int (iZ nb), .int (iZ nr), .ref oK, .ref oF, .ref oS, .ref oE, .int (iZ us), .int (iZ fi), .ref oY, .ref oH, .int (iZ nh), .int (iZ bb), .int (iZ ee), .int (iZ fd), .int (iZ ww), .int (iZ le), .ref oW, .ref oT, .int (iZ rd)])), (oW, .inl (cI, 6, .inl (fun j => iZ ((if (mfst wt 6 < 0 ∨ fd < wt (mfst wt 6).toNat) then wt else va_up wt (mfst wt 6).toNat (-1)) j))))] H := eW ▸ hP
          have hD : va_D A [(o0, .inr (7, [.int (iZ 0), .int (iZ nb), .int (iZ nr), .ref oK, .ref oF, .ref oS, .ref oE, .int (iZ us), .int (iZ fi), .ref oY, .ref oH, .int (iZ nh), .int (iZ bb), .int (iZ ee), .int (iZ fd), .int (iZ ww), .int (iZ le), .ref oW, .ref oT, .int (iZ rd)])), (oW, .inl (cI, 6, .inl (fun j => iZ ((if (mfst wt 6 < 0 ∨ fd < wt (mfst wt 6).toNat) then wt else va_up wt (mfst wt 6).toNat (-1)) j))))] := eW ▸ hD
          subst hQ
          exact W.iret (v := (iZ (-1))) hx hb hr (fun t ht hW => ⟨⟨_, (), rfl, (congrArg iZ (if_pos (by rw [hf9]; omega)).symm), by rw [ht]; exact hP, va_K.moved hW.alike hK, hAe ▸ hD⟩, hAe ▸ hS.F ht⟩) (hAe ▸ hS.2.2) d_Mo_told_73
        · refine lv_aload_n hx hb d_Mo_told_59 rfl (lv_at hl 0 rfl) ?_
          refine va_get (D := (dC, dI)) (ci := 7) (v := .ref oW) (C := "LogDeskModel") (T := F_Mo) (N := 20) hx hb htg hin_Mo hown hK hP 0 rfl rfl 17 (by decide) (htg _ k_491) (fun _ h9 => h9) rfl d_Mo_told_60 ?_
          refine lv_iload_n hx hb d_Mo_told_63 rfl (lv_at hl 1 rfl) ?_
          refine zz_iald hx hb hK hP 1 1 rfl rfl (by omega) (by omega) (by omega) d_Mo_told_64 ?_
          refine lv_aload_n hx hb d_Mo_told_65 rfl (lv_at hl 0 rfl) ?_
          refine va_get (D := (dC, dI)) (ci := 7) (v := .int (iZ fd)) (C := "LogDeskModel") (T := F_Mo) (N := 20) hx hb htg hin_Mo hown hK hP 0 rfl rfl 14 (by decide) (htg _ k_488) (fun _ h9 => h9) rfl d_Mo_told_66 ?_
          refine zz_icmp_le (tgt := 74) hx hb d_Mo_told_69 (by decide) ⟨by omega, by omega⟩ ⟨by omega, by omega⟩ (fun c_3 => ?_) (fun c_3 => ?_)
          · refine lv_aload_n hx hb d_Mo_told_74 rfl (lv_at hl 0 rfl) ?_
            refine va_get (D := (dC, dI)) (ci := 7) (v := .ref oW) (C := "LogDeskModel") (T := F_Mo) (N := 20) hx hb htg hin_Mo hown hK hP 0 rfl rfl 17 (by decide) (htg _ k_491) (fun _ h9 => h9) rfl d_Mo_told_75 ?_
            refine lv_iload_n hx hb d_Mo_told_78 rfl (lv_at hl 1 rfl) ?_
            refine lv_iconst (v := iZ (-1)) hx hb d_Mo_told_79 rfl ?_
            refine zz_iast hx hb hK hP hD hS 1 1 rfl rfl (by omega) (by omega) (by omega) d_Mo_told_80 (fun H locs hP hD hS => ?_)
            have hP : va_P (dC, dI) vwCl [(o0, .inr (7, [.int (iZ 0), .int (iZ nb), .int (iZ nr), .ref oK, .ref oF, .ref oS, .ref oE, .int (iZ us), .int (iZ fi), .ref oY, .ref oH, .int (iZ nh), .int (iZ bb), .int (iZ ee), .int (iZ fd), .int (iZ ww), .int (iZ le), .ref oW, .ref oT, .int (iZ rd)])), (oW, .inl (cI, 6, .inl (fun j => iZ ((va_up wt (f).toNat (-1)) j))))] H := hP
            have hD : va_D A [(o0, .inr (7, [.int (iZ 0), .int (iZ nb), .int (iZ nr), .ref oK, .ref oF, .ref oS, .ref oE, .int (iZ us), .int (iZ fi), .ref oY, .ref oH, .int (iZ nh), .int (iZ bb), .int (iZ ee), .int (iZ fd), .int (iZ ww), .int (iZ le), .ref oW, .ref oT, .int (iZ rd)])), (oW, .inl (cI, 6, .inl (fun j => iZ ((va_up wt (f).toNat (-1)) j))))] := hD
            refine lv_iload_n hx hb d_Mo_told_81 rfl (lv_at hl 1 rfl) ?_
            have hf9 : mfst wt 6 = f := by rw [hf]; congr 1; omega
            have eW : ∀ (x0 y0 : Nat → Int), x0 = y0 → ([(o0, .inr (7, [.int (iZ 0), .int (iZ nb), .int (iZ nr), .ref oK, .ref oF, .ref oS, .ref oE, .int (iZ us), .int (iZ fi), .ref oY, .ref oH, .int (iZ nh), .int (iZ bb), .int (iZ ee), .int (iZ fd), .int (iZ ww), .int (iZ le), .ref oW, .ref oT, .int (iZ rd)])), (oW, .inl (cI, 6, .inl (fun j => iZ (x0 j))))] : va_W) = [(o0, .inr (7, [.int (iZ 0), .int (iZ nb), .int (iZ nr), .ref oK, .ref oF, .ref oS, .ref oE, .int (iZ us), .int (iZ fi), .ref oY, .ref oH, .int (iZ nh), .int (iZ bb), .int (iZ ee), .int (iZ fd), .int (iZ ww), .int (iZ le), .ref oW, .ref oT, .int (iZ rd)])), (oW, .inl (cI, 6, .inl (fun j => iZ (y0 j))))] := by intros; subst_vars; rfl
            have eW := eW (va_up wt (f).toNat (-1)) (if (mfst wt 6 < 0 ∨ fd < wt (mfst wt 6).toNat) then wt else va_up wt (mfst wt 6).toNat (-1)) (by rw [if_neg (by rw [hf9]; omega), hf9])
            have hP : va_P (dC, dI) vwCl [(o0, .inr (7, [.int (iZ 0), .int (iZ nb), .int (iZ nr), .ref oK, .ref oF, .ref oS, .ref oE, .int (iZ us), .int (iZ fi), .ref oY, .ref oH, .int (iZ nh), .int (iZ bb), .int (iZ ee), .int (iZ fd), .int (iZ ww), .int (iZ le), .ref oW, .ref oT, .int (iZ rd)])), (oW, .inl (cI, 6, .inl (fun j => iZ ((if (mfst wt 6 < 0 ∨ fd < wt (mfst wt 6).toNat) then wt else va_up wt (mfst wt 6).toNat (-1)) j))))] H := eW ▸ hP
            have hD : va_D A [(o0, .inr (7, [.int (iZ 0), .int (iZ nb), .int (iZ nr), .ref oK, .ref oF, .ref oS, .ref oE, .int (iZ us), .int (iZ fi), .ref oY, .ref oH, .int (iZ nh), .int (iZ bb), .int (iZ ee), .int (iZ fd), .int (iZ ww), .int (iZ le), .ref oW, .ref oT, .int (iZ rd)])), (oW, .inl (cI, 6, .inl (fun j => iZ ((if (mfst wt 6 < 0 ∨ fd < wt (mfst wt 6).toNat) then wt else va_up wt (mfst wt 6).toNat (-1)) j))))] := eW ▸ hD
            subst hQ
            exact W.iret (v := (iZ f)) hx hb hr (fun t ht hW => ⟨⟨_, (), rfl, (congrArg iZ (by rw [if_neg (by rw [hf9]; omega), hf9])), by rw [ht]; exact hP, va_K.moved hW.alike hK, hAe ▸ hD⟩, hAe ▸ hS.F ht⟩) (hAe ▸ hS.2.2) d_Mo_told_82
          · refine lv_iconst (v := iZ (-1)) hx hb d_Mo_told_72 rfl ?_
            have hf9 : mfst wt 6 = f := by rw [hf]; congr 1; omega
            have eW : ∀ (x0 y0 : Nat → Int), x0 = y0 → ([(o0, .inr (7, [.int (iZ 0), .int (iZ nb), .int (iZ nr), .ref oK, .ref oF, .ref oS, .ref oE, .int (iZ us), .int (iZ fi), .ref oY, .ref oH, .int (iZ nh), .int (iZ bb), .int (iZ ee), .int (iZ fd), .int (iZ ww), .int (iZ le), .ref oW, .ref oT, .int (iZ rd)])), (oW, .inl (cI, 6, .inl (fun j => iZ (x0 j))))] : va_W) = [(o0, .inr (7, [.int (iZ 0), .int (iZ nb), .int (iZ nr), .ref oK, .ref oF, .ref oS, .ref oE, .int (iZ us), .int (iZ fi), .ref oY, .ref oH, .int (iZ nh), .int (iZ bb), .int (iZ ee), .int (iZ fd), .int (iZ ww), .int (iZ le), .ref oW, .ref oT, .int (iZ rd)])), (oW, .inl (cI, 6, .inl (fun j => iZ (y0 j))))] := by intros; subst_vars; rfl
            have eW := eW wt (if (mfst wt 6 < 0 ∨ fd < wt (mfst wt 6).toNat) then wt else va_up wt (mfst wt 6).toNat (-1)) ((if_pos (by rw [hf9]; omega)).symm)
            have hP : va_P (dC, dI) vwCl [(o0, .inr (7, [.int (iZ 0), .int (iZ nb), .int (iZ nr), .ref oK, .ref oF, .ref oS, .ref oE, .int (iZ us), .int (iZ fi), .ref oY, .ref oH, .int (iZ nh), .int (iZ bb), .int (iZ ee), .int (iZ fd), .int (iZ ww), .int (iZ le), .ref oW, .ref oT, .int (iZ rd)])), (oW, .inl (cI, 6, .inl (fun j => iZ ((if (mfst wt 6 < 0 ∨ fd < wt (mfst wt 6).toNat) then wt else va_up wt (mfst wt 6).toNat (-1)) j))))] H := eW ▸ hP
            have hD : va_D A [(o0, .inr (7, [.int (iZ 0), .int (iZ nb), .int (iZ nr), .ref oK, .ref oF, .ref oS, .ref oE, .int (iZ us), .int (iZ fi), .ref oY, .ref oH, .int (iZ nh), .int (iZ bb), .int (iZ ee), .int (iZ fd), .int (iZ ww), .int (iZ le), .ref oW, .ref oT, .int (iZ rd)])), (oW, .inl (cI, 6, .inl (fun j => iZ ((if (mfst wt 6 < 0 ∨ fd < wt (mfst wt 6).toNat) then wt else va_up wt (mfst wt 6).toNat (-1)) j))))] := eW ▸ hD
            subst hQ
            exact W.iret (v := (iZ (-1))) hx hb hr (fun t ht hW => ⟨⟨_, (), rfl, (congrArg iZ (if_pos (by rw [hf9]; omega)).symm), by rw [ht]; exact hP, va_K.moved hW.alike hK, hAe ▸ hD⟩, hAe ▸ hS.F ht⟩) (hAe ▸ hS.2.2) d_Mo_told_73
      · refine lv_aload_n hx hb d_Mo_told_15 rfl (lv_at hl 0 rfl) ?_
        refine va_get (D := (dC, dI)) (ci := 7) (v := .ref oW) (C := "LogDeskModel") (T := F_Mo) (N := 20) hx hb htg hin_Mo hown hK hP 0 rfl rfl 17 (by decide) (htg _ k_491) (fun _ h9 => h9) rfl d_Mo_told_16 ?_
        refine lv_iload_n hx hb d_Mo_told_19 rfl (lv_at hl 2 rfl) ?_
        refine zz_iald hx hb hK hP 1 1 rfl rfl (by omega) (by omega) (by omega) d_Mo_told_20 ?_
        refine zz_if_lt (tgt := 47) hx hb d_Mo_told_21 (by decide) ⟨by omega, by omega⟩ (fun c_4 => ?_) (fun c_4 => ?_)
        · refine lv_iload_n hx hb d_Mo_told_47 rfl (lv_at hl 1 rfl) ?_
          refine lv_istore_n (lv' := [(1, .int (iZ f)), (0, .ref o0), (2, .int (iZ i))]) hx hb d_Mo_told_48 rfl hl (by decide) rfl (fun ls hl => ?_)
          refine lv_iinc (v := iZ (i + 1)) (lv' := [(2, .int (iZ (i + 1))), (1, .int (iZ f)), (0, .ref o0)]) hx hb d_Mo_told_49 hl (k := 2) rfl (iZ_add _ _) (by decide) rfl (fun ls hl => ?_)
          refine lv_goto (tgt := 9) hx hb d_Mo_told_52 (by decide) ?_
          exact ih (i + 1) f H _ ls (by omega) (by rw [mfst_step hi.1 hf]; omega) (by omega) (by omega) hP hD hS (lv_sub hl [2, 1, 0] rfl)
        · refine lv_iload_n hx hb d_Mo_told_24 rfl (lv_at hl 1 rfl) ?_
          refine zz_if_lt (tgt := 43) hx hb d_Mo_told_25 (by decide) ⟨by omega, by omega⟩ (fun c_5 => ?_) (fun c_5 => ?_)
          · refine lv_iload_n hx hb d_Mo_told_43 rfl (lv_at hl 2 rfl) ?_
            refine lv_goto (tgt := 48) hx hb d_Mo_told_44 (by decide) ?_
            refine lv_istore_n (lv' := [(1, .int (iZ i)), (0, .ref o0), (2, .int (iZ i))]) hx hb d_Mo_told_48 rfl hl (by decide) rfl (fun ls hl => ?_)
            refine lv_iinc (v := iZ (i + 1)) (lv' := [(2, .int (iZ (i + 1))), (1, .int (iZ i)), (0, .ref o0)]) hx hb d_Mo_told_49 hl (k := 2) rfl (iZ_add _ _) (by decide) rfl (fun ls hl => ?_)
            refine lv_goto (tgt := 9) hx hb d_Mo_told_52 (by decide) ?_
            exact ih (i + 1) i H _ ls (by omega) (by rw [mfst_step hi.1 hf]; omega) (by omega) (by omega) hP hD hS (lv_sub hl [2, 1, 0] rfl)
          · refine lv_aload_n hx hb d_Mo_told_28 rfl (lv_at hl 0 rfl) ?_
            refine va_get (D := (dC, dI)) (ci := 7) (v := .ref oW) (C := "LogDeskModel") (T := F_Mo) (N := 20) hx hb htg hin_Mo hown hK hP 0 rfl rfl 17 (by decide) (htg _ k_491) (fun _ h9 => h9) rfl d_Mo_told_29 ?_
            refine lv_iload_n hx hb d_Mo_told_32 rfl (lv_at hl 2 rfl) ?_
            refine zz_iald hx hb hK hP 1 1 rfl rfl (by omega) (by omega) (by omega) d_Mo_told_33 ?_
            refine lv_aload_n hx hb d_Mo_told_34 rfl (lv_at hl 0 rfl) ?_
            refine va_get (D := (dC, dI)) (ci := 7) (v := .ref oW) (C := "LogDeskModel") (T := F_Mo) (N := 20) hx hb htg hin_Mo hown hK hP 0 rfl rfl 17 (by decide) (htg _ k_491) (fun _ h9 => h9) rfl d_Mo_told_35 ?_
            refine lv_iload_n hx hb d_Mo_told_38 rfl (lv_at hl 1 rfl) ?_
            refine zz_iald hx hb hK hP 1 1 rfl rfl (by omega) (by omega) (by omega) d_Mo_told_39 ?_
            refine zz_icmp_ge (tgt := 47) hx hb d_Mo_told_40 (by decide) ⟨by omega, by omega⟩ ⟨by omega, by omega⟩ (fun c_6 => ?_) (fun c_6 => ?_)
            · refine lv_iload_n hx hb d_Mo_told_47 rfl (lv_at hl 1 rfl) ?_
              refine lv_istore_n (lv' := [(1, .int (iZ f)), (0, .ref o0), (2, .int (iZ i))]) hx hb d_Mo_told_48 rfl hl (by decide) rfl (fun ls hl => ?_)
              refine lv_iinc (v := iZ (i + 1)) (lv' := [(2, .int (iZ (i + 1))), (1, .int (iZ f)), (0, .ref o0)]) hx hb d_Mo_told_49 hl (k := 2) rfl (iZ_add _ _) (by decide) rfl (fun ls hl => ?_)
              refine lv_goto (tgt := 9) hx hb d_Mo_told_52 (by decide) ?_
              exact ih (i + 1) f H _ ls (by omega) (by rw [mfst_step hi.1 hf]; omega) (by omega) (by omega) hP hD hS (lv_sub hl [2, 1, 0] rfl)
            · refine lv_iload_n hx hb d_Mo_told_43 rfl (lv_at hl 2 rfl) ?_
              refine lv_goto (tgt := 48) hx hb d_Mo_told_44 (by decide) ?_
              refine lv_istore_n (lv' := [(1, .int (iZ i)), (0, .ref o0), (2, .int (iZ i))]) hx hb d_Mo_told_48 rfl hl (by decide) rfl (fun ls hl => ?_)
              refine lv_iinc (v := iZ (i + 1)) (lv' := [(2, .int (iZ (i + 1))), (1, .int (iZ i)), (0, .ref o0)]) hx hb d_Mo_told_49 hl (k := 2) rfl (iZ_add _ _) (by decide) rfl (fun ls hl => ?_)
              refine lv_goto (tgt := 9) hx hb d_Mo_told_52 (by decide) ?_
              exact ih (i + 1) i H _ ls (by omega) (by rw [mfst_step hi.1 hf]; omega) (by omega) (by omega) hP hD hS (lv_sub hl [2, 1, 0] rfl)
  exact loop9 (Int.toNat (6 - 0) + 1) 0 (-1) H _ ls (by omega) rfl (by omega) (by omega) hP hD hS (lv_sub hl [2, 1, 0] rfl)
set_option maxHeartbeats 4000000 in
set_option maxRecDepth 100000 in
theorem c_Mo_next (l : Launch) (dC : Nat → ClassId) (dI : Nat → Nat → Nat) (cB : ClassId) (cI : ClassId) (cJ : ClassId) (cZ : ClassId) (cQ : ClassId) (o0 oK oF oS oE oY oH oW oT : Nat) (sz : Nat) (th : Int) (nb : Int) (nr : Int) (us : Int) (fi : Int) (nh : Int) (bb : Int) (ee : Int) (fd : Int) (ww : Int) (le : Int) (rd : Int) (kd : Nat → Int) (hrd : -1 ≤ rd ∧ rd < 800) (hnr : 0 ≤ nr ∧ nr ≤ 800) : Met l y_Mo_next ((Cond.code y_Mo_next prog_9_method_20_code 1 (some .int)) :: gw) ({ frames := 1, cells := 0, slots := 0, locals := 21 } : Room) (zPc (dC, dI) [(cB, .byte), (cI, .int), (cJ, .long), (cZ, .boolean), (cQ, .object "LogDesk$Block")] [.ref o0] [(o0, .inr (7, [.int (iZ th), .int (iZ nb), .int (iZ nr), .ref oK, .ref oF, .ref oS, .ref oE, .int (iZ us), .int (iZ fi), .ref oY, .ref oH, .int (iZ nh), .int (iZ bb), .int (iZ ee), .int (iZ fd), .int (iZ ww), .int (iZ le), .ref oW, .ref oT, .int (iZ rd)])), (oK, .inl (cI, 800, .inl (fun j => iZ (kd j))))] sz) (va_Qi (fun (r : Int32) (_ : Unit) => r = iZ (if rd + 1 < nr then kd (rd + 1).toNat else 0)) (zB (dC, dI) [(cB, .byte), (cI, .int), (cJ, .long), (cZ, .boolean), (cQ, .object "LogDesk$Block")] (va_A [(o0, .inr (7, [.int (iZ th), .int (iZ nb), .int (iZ nr), .ref oK, .ref oF, .ref oS, .ref oE, .int (iZ us), .int (iZ fi), .ref oY, .ref oH, .int (iZ nh), .int (iZ bb), .int (iZ ee), .int (iZ fd), .int (iZ ww), .int (iZ le), .ref oW, .ref oT, .int (iZ rd)])), (oK, .inl (cI, 800, .inl (fun j => iZ (kd j))))] sz) [(o0, .inr (7, [.int (iZ (if rd + 1 < nr then 0 else 1)), .int (iZ nb), .int (iZ nr), .ref oK, .ref oF, .ref oS, .ref oE, .int (iZ us), .int (iZ fi), .ref oY, .ref oH, .int (iZ nh), .int (iZ bb), .int (iZ ee), .int (iZ fd), .int (iZ ww), .int (iZ le), .ref oW, .ref oT, .int (iZ (if rd + 1 < nr then rd + 1 else rd))])), (oK, .inl (cI, 800, .inl (fun j => iZ (kd j))))]) (va_A [(o0, .inr (7, [.int (iZ th), .int (iZ nb), .int (iZ nr), .ref oK, .ref oF, .ref oS, .ref oE, .int (iZ us), .int (iZ fi), .ref oY, .ref oH, .int (iZ nh), .int (iZ bb), .int (iZ ee), .int (iZ fd), .int (iZ ww), .int (iZ le), .ref oW, .ref oT, .int (iZ rd)])), (oK, .inl (cI, 800, .inl (fun j => iZ (kd j))))] sz)) 0 0 (va_A [(o0, .inr (7, [.int (iZ th), .int (iZ nb), .int (iZ nr), .ref oK, .ref oF, .ref oS, .ref oE, .int (iZ us), .int (iZ fi), .ref oY, .ref oH, .int (iZ nh), .int (iZ bb), .int (iZ ee), .int (iZ fd), .int (iZ ww), .int (iZ le), .ref oW, .ref oT, .int (iZ rd)])), (oK, .inl (cI, 800, .inl (fun j => iZ (kd j))))] sz) := by
  refine Met.ofW (cc := prog_9_method_20_code) (maxL := 1) (ret := (some .int)) (by decide) rfl ?_
  intro p e s m args below meth c s₁ B hml hv
  obtain ⟨rfl, hsz, hP, hK, hD0, hZ⟩ := hv
  have hx := B.exec
  have hb := B.bytes
  have hr := B.returns
  have hts := atoms_spec (ws := (Cond.code y_Mo_next prog_9_method_20_code 1 (some .int)) :: gw) B.pre
  have htg : ∀ w ∈ gw, w.before _ s = true := fun w h => hts w (List.mem_cons_of_mem _ h)
  have hown : s.vm.findClass "LogDeskModel" = some m.cls := findClass_of_methodNamed B.named
  have hlocks := B.notSynchronized
  subst hsz
  have hD := hD0.self (sz := s.heap.size)
  generalize hAe : va_A [(o0, .inr (7, [.int (iZ th), .int (iZ nb), .int (iZ nr), .ref oK, .ref oF, .ref oS, .ref oE, .int (iZ us), .int (iZ fi), .ref oY, .ref oH, .int (iZ nh), .int (iZ bb), .int (iZ ee), .int (iZ fd), .int (iZ ww), .int (iZ le), .ref oW, .ref oT, .int (iZ rd)])), (oK, .inl (cI, 800, .inl (fun j => iZ (kd j))))] s.heap.size = A at hD ⊢
  have hRc : (headSpec ((Cond.code y_Mo_next prog_9_method_20_code 1 (some .int)) :: gw) ({ frames := 1, cells := 0, slots := 0, locals := 21 } : Room)).room.cells = 0 := rfl
  have hRs : (headSpec ((Cond.code y_Mo_next prog_9_method_20_code 1 (some .int)) :: gw) ({ frames := 1, cells := 0, slots := 0, locals := 21 } : Room)).room.slots = 0 := rfl
  have hA : ∀ q : Nat, s.heap.size ≤ q → A q := fun q h => by rw [← hAe]; exact Or.inr h
  have hS : va_S A s.heap s.heap [] := va_S.rf
  have hP : va_P (dC, dI) vwCl [(o0, .inr (7, [.int (iZ th), .int (iZ nb), .int (iZ nr), .ref oK, .ref oF, .ref oS, .ref oE, .int (iZ us), .int (iZ fi), .ref oY, .ref oH, .int (iZ nh), .int (iZ bb), .int (iZ ee), .int (iZ fd), .int (iZ ww), .int (iZ le), .ref oW, .ref oT, .int (iZ rd)])), (oK, .inl (cI, 800, .inl (fun j => iZ (kd j))))] s.heap := hP
  have hl := lv_entry ([.ref o0]) (n := 1) (Nat.le_of_ble_eq_true rfl)
  rw [lg_entry_eq]
  generalize (lg_sl ([.ref o0]) ++ List.replicate (1 - (lg_sl ([.ref o0])).length) Slot.unset).toArray = ls at hl ⊢
  have hl : lv_has ls 1 [(0, .ref o0)] := hl
  refine lv_aload_n hx hb d_Mo_next_0 rfl (lv_at hl 0 rfl) ?_
  refine lv_iconst (v := iZ 0) hx hb d_Mo_next_1 rfl ?_
  refine va_put (D := (dC, dI)) (ci := 7) (v := .int (iZ 0)) (ty := t_Mo 0) (C := "LogDeskModel") (T := F_Mo) (N := 20) hx hb htg hin_Mo t_Mo t_Mo_ok n_Mo hown hK hP hD hS 0 rfl rfl 0 (by decide) (htg _ k_474) (fun _ h9 => h9) rfl (by decide +kernel) rfl rfl (Nat.le_of_ble_eq_true rfl) d_Mo_next_2 (fun H locs hP hD hS => ?_)
  have hP : va_P (dC, dI) vwCl [(o0, .inr (7, [.int (iZ 0), .int (iZ nb), .int (iZ nr), .ref oK, .ref oF, .ref oS, .ref oE, .int (iZ us), .int (iZ fi), .ref oY, .ref oH, .int (iZ nh), .int (iZ bb), .int (iZ ee), .int (iZ fd), .int (iZ ww), .int (iZ le), .ref oW, .ref oT, .int (iZ rd)])), (oK, .inl (cI, 800, .inl (fun j => iZ (kd j))))] H := hP
  have hD : va_D A [(o0, .inr (7, [.int (iZ 0), .int (iZ nb), .int (iZ nr), .ref oK, .ref oF, .ref oS, .ref oE, .int (iZ us), .int (iZ fi), .ref oY, .ref oH, .int (iZ nh), .int (iZ bb), .int (iZ ee), .int (iZ fd), .int (iZ ww), .int (iZ le), .ref oW, .ref oT, .int (iZ rd)])), (oK, .inl (cI, 800, .inl (fun j => iZ (kd j))))] := hD
  refine lv_aload_n hx hb d_Mo_next_5 rfl (lv_at hl 0 rfl) ?_
  refine va_get (D := (dC, dI)) (ci := 7) (v := .int (iZ rd)) (C := "LogDeskModel") (T := F_Mo) (N := 20) hx hb htg hin_Mo hown hK hP 0 rfl rfl 19 (by decide) (htg _ k_493) (fun _ h9 => h9) rfl d_Mo_next_6 ?_
  refine lv_iconst (v := iZ 1) hx hb d_Mo_next_9 rfl ?_
  refine zz_iadd hx hb d_Mo_next_10 ?_
  refine lv_aload_n hx hb d_Mo_next_11 rfl (lv_at hl 0 rfl) ?_
  refine va_get (D := (dC, dI)) (ci := 7) (v := .int (iZ nr)) (C := "LogDeskModel") (T := F_Mo) (N := 20) hx hb htg hin_Mo hown hK hP 0 rfl rfl 2 (by decide) (htg _ k_476) (fun _ h9 => h9) rfl d_Mo_next_12 ?_
  refine zz_icmp_lt (tgt := 24) hx hb d_Mo_next_15 (by decide) ⟨by omega, by omega⟩ ⟨by omega, by omega⟩ (fun c_1 => ?_) (fun c_1 => ?_)
  · refine lv_aload_n hx hb d_Mo_next_24 rfl (lv_at hl 0 rfl) ?_
    refine lv_dup hx hb d_Mo_next_25 rfl ?_
    refine va_get (D := (dC, dI)) (ci := 7) (v := .int (iZ rd)) (C := "LogDeskModel") (T := F_Mo) (N := 20) hx hb htg hin_Mo hown hK hP 0 rfl rfl 19 (by decide) (htg _ k_493) (fun _ h9 => h9) rfl d_Mo_next_26 ?_
    refine lv_iconst (v := iZ 1) hx hb d_Mo_next_29 rfl ?_
    refine zz_iadd hx hb d_Mo_next_30 ?_
    refine va_put (D := (dC, dI)) (ci := 7) (v := .int (iZ (rd + 1))) (ty := t_Mo 19) (C := "LogDeskModel") (T := F_Mo) (N := 20) hx hb htg hin_Mo t_Mo t_Mo_ok n_Mo hown hK hP hD hS 0 rfl rfl 19 (by decide) (htg _ k_493) (fun _ h9 => h9) rfl (by decide +kernel) rfl rfl (Nat.le_of_ble_eq_true rfl) d_Mo_next_31 (fun H locs hP hD hS => ?_)
    have hP : va_P (dC, dI) vwCl [(o0, .inr (7, [.int (iZ 0), .int (iZ nb), .int (iZ nr), .ref oK, .ref oF, .ref oS, .ref oE, .int (iZ us), .int (iZ fi), .ref oY, .ref oH, .int (iZ nh), .int (iZ bb), .int (iZ ee), .int (iZ fd), .int (iZ ww), .int (iZ le), .ref oW, .ref oT, .int (iZ (rd + 1))])), (oK, .inl (cI, 800, .inl (fun j => iZ (kd j))))] H := hP
    have hD : va_D A [(o0, .inr (7, [.int (iZ 0), .int (iZ nb), .int (iZ nr), .ref oK, .ref oF, .ref oS, .ref oE, .int (iZ us), .int (iZ fi), .ref oY, .ref oH, .int (iZ nh), .int (iZ bb), .int (iZ ee), .int (iZ fd), .int (iZ ww), .int (iZ le), .ref oW, .ref oT, .int (iZ (rd + 1))])), (oK, .inl (cI, 800, .inl (fun j => iZ (kd j))))] := hD
    refine lv_aload_n hx hb d_Mo_next_34 rfl (lv_at hl 0 rfl) ?_
    refine va_get (D := (dC, dI)) (ci := 7) (v := .ref oK) (C := "LogDeskModel") (T := F_Mo) (N := 20) hx hb htg hin_Mo hown hK hP 0 rfl rfl 3 (by decide) (htg _ k_477) (fun _ h9 => h9) rfl d_Mo_next_35 ?_
    refine lv_aload_n hx hb d_Mo_next_38 rfl (lv_at hl 0 rfl) ?_
    refine va_get (D := (dC, dI)) (ci := 7) (v := .int (iZ (rd + 1))) (C := "LogDeskModel") (T := F_Mo) (N := 20) hx hb htg hin_Mo hown hK hP 0 rfl rfl 19 (by decide) (htg _ k_493) (fun _ h9 => h9) rfl d_Mo_next_39 ?_
    refine zz_iald hx hb hK hP 1 1 rfl rfl (by omega) (by omega) (by omega) d_Mo_next_42 ?_
    have eW : ∀ (x0 y0 : Int) (x1 y1 : Int), x0 = y0 → x1 = y1 → ([(o0, .inr (7, [.int (iZ x0), .int (iZ nb), .int (iZ nr), .ref oK, .ref oF, .ref oS, .ref oE, .int (iZ us), .int (iZ fi), .ref oY, .ref oH, .int (iZ nh), .int (iZ bb), .int (iZ ee), .int (iZ fd), .int (iZ ww), .int (iZ le), .ref oW, .ref oT, .int (iZ x1)])), (oK, .inl (cI, 800, .inl (fun j => iZ (kd j))))] : va_W) = [(o0, .inr (7, [.int (iZ y0), .int (iZ nb), .int (iZ nr), .ref oK, .ref oF, .ref oS, .ref oE, .int (iZ us), .int (iZ fi), .ref oY, .ref oH, .int (iZ nh), .int (iZ bb), .int (iZ ee), .int (iZ fd), .int (iZ ww), .int (iZ le), .ref oW, .ref oT, .int (iZ y1)])), (oK, .inl (cI, 800, .inl (fun j => iZ (kd j))))] := by intros; subst_vars; rfl
    have eW := eW 0 (if rd + 1 < nr then 0 else 1) (rd + 1) (if rd + 1 < nr then rd + 1 else rd) (by omega) (by omega)
    have hP : va_P (dC, dI) vwCl [(o0, .inr (7, [.int (iZ (if rd + 1 < nr then 0 else 1)), .int (iZ nb), .int (iZ nr), .ref oK, .ref oF, .ref oS, .ref oE, .int (iZ us), .int (iZ fi), .ref oY, .ref oH, .int (iZ nh), .int (iZ bb), .int (iZ ee), .int (iZ fd), .int (iZ ww), .int (iZ le), .ref oW, .ref oT, .int (iZ (if rd + 1 < nr then rd + 1 else rd))])), (oK, .inl (cI, 800, .inl (fun j => iZ (kd j))))] H := eW ▸ hP
    have hD : va_D A [(o0, .inr (7, [.int (iZ (if rd + 1 < nr then 0 else 1)), .int (iZ nb), .int (iZ nr), .ref oK, .ref oF, .ref oS, .ref oE, .int (iZ us), .int (iZ fi), .ref oY, .ref oH, .int (iZ nh), .int (iZ bb), .int (iZ ee), .int (iZ fd), .int (iZ ww), .int (iZ le), .ref oW, .ref oT, .int (iZ (if rd + 1 < nr then rd + 1 else rd))])), (oK, .inl (cI, 800, .inl (fun j => iZ (kd j))))] := eW ▸ hD
    exact W.iret (v := (iZ (kd ((rd + 1)).toNat))) hx hb hr (fun t ht hW => ⟨⟨_, (), rfl, (congrArg iZ (by omega)), by rw [ht]; exact hP, va_K.moved hW.alike hK, hAe ▸ hD⟩, hAe ▸ hS.F ht⟩) (hAe ▸ hS.2.2) d_Mo_next_43
  · refine lv_aload_n hx hb d_Mo_next_18 rfl (lv_at hl 0 rfl) ?_
    refine lv_iconst (v := iZ 1) hx hb d_Mo_next_19 rfl ?_
    refine z_i (wr := [(oK, .inl (cI, 800, .inl (fun j => iZ (kd j))))]) (va_runV (As := [.int (iZ 1)]) (rest := []) ⟨hx, hb, hml, hown, htg⟩ (c_Mo_fails l dC dI cB cI cJ cZ cQ o0 oK oF oS oE oY oH oW oT H.size 0 nb nr us fi nh bb ee fd ww le rd 1) (cwV 1 htg (gw_V k_553 k_555 k_p8 k_7 k_556) rfl rfl rfl (by decide +kernel) ⟨Nat.le_of_ble_eq_true rfl, Nat.le_of_ble_eq_true rfl⟩) (zPreV hK hP hD hZ [0] rfl (by decide) 0 (ci := 7) rfl rfl) rfl rfl hl.1 rfl (lv_room (Nat.le_of_ble_eq_true rfl)) d_Mo_next_20 ⟨by omega, by omega⟩) hP hD hS hA [0] [1] rfl rfl (by decide) (by decide) (fun H locs hP hD hS => ?_)
    have hP : va_P (dC, dI) vwCl [(oK, .inl (cI, 800, .inl (fun j => iZ (kd j)))), (o0, .inr (7, [.int (iZ 1), .int (iZ nb), .int (iZ nr), .ref oK, .ref oF, .ref oS, .ref oE, .int (iZ us), .int (iZ fi), .ref oY, .ref oH, .int (iZ nh), .int (iZ bb), .int (iZ ee), .int (iZ fd), .int (iZ ww), .int (iZ le), .ref oW, .ref oT, .int (iZ rd)]))] H := hP
    have hD : va_D A [(oK, .inl (cI, 800, .inl (fun j => iZ (kd j)))), (o0, .inr (7, [.int (iZ 1), .int (iZ nb), .int (iZ nr), .ref oK, .ref oF, .ref oS, .ref oE, .int (iZ us), .int (iZ fi), .ref oY, .ref oH, .int (iZ nh), .int (iZ bb), .int (iZ ee), .int (iZ fd), .int (iZ ww), .int (iZ le), .ref oW, .ref oT, .int (iZ rd)]))] := hD
    have hP := hP.sub (ws' := [(o0, .inr (7, [.int (iZ 1), .int (iZ nb), .int (iZ nr), .ref oK, .ref oF, .ref oS, .ref oE, .int (iZ us), .int (iZ fi), .ref oY, .ref oH, .int (iZ nh), .int (iZ bb), .int (iZ ee), .int (iZ fd), .int (iZ ww), .int (iZ le), .ref oW, .ref oT, .int (iZ rd)])), (oK, .inl (cI, 800, .inl (fun j => iZ (kd j))))]) [1, 0] rfl
    have hD := hD.sub (ws' := [(o0, .inr (7, [.int (iZ 1), .int (iZ nb), .int (iZ nr), .ref oK, .ref oF, .ref oS, .ref oE, .int (iZ us), .int (iZ fi), .ref oY, .ref oH, .int (iZ nh), .int (iZ bb), .int (iZ ee), .int (iZ fd), .int (iZ ww), .int (iZ le), .ref oW, .ref oT, .int (iZ rd)])), (oK, .inl (cI, 800, .inl (fun j => iZ (kd j))))]) [1, 0] (by decide) rfl
    have eW : ∀ (x0 y0 : Int) (x1 y1 : Int), x0 = y0 → x1 = y1 → ([(o0, .inr (7, [.int (iZ x0), .int (iZ nb), .int (iZ nr), .ref oK, .ref oF, .ref oS, .ref oE, .int (iZ us), .int (iZ fi), .ref oY, .ref oH, .int (iZ nh), .int (iZ bb), .int (iZ ee), .int (iZ fd), .int (iZ ww), .int (iZ le), .ref oW, .ref oT, .int (iZ x1)])), (oK, .inl (cI, 800, .inl (fun j => iZ (kd j))))] : va_W) = [(o0, .inr (7, [.int (iZ y0), .int (iZ nb), .int (iZ nr), .ref oK, .ref oF, .ref oS, .ref oE, .int (iZ us), .int (iZ fi), .ref oY, .ref oH, .int (iZ nh), .int (iZ bb), .int (iZ ee), .int (iZ fd), .int (iZ ww), .int (iZ le), .ref oW, .ref oT, .int (iZ y1)])), (oK, .inl (cI, 800, .inl (fun j => iZ (kd j))))] := by intros; subst_vars; rfl
    have eW := eW 1 (if rd + 1 < nr then 0 else 1) rd (if rd + 1 < nr then rd + 1 else rd) (by omega) (by omega)
    have hP : va_P (dC, dI) vwCl [(o0, .inr (7, [.int (iZ (if rd + 1 < nr then 0 else 1)), .int (iZ nb), .int (iZ nr), .ref oK, .ref oF, .ref oS, .ref oE, .int (iZ us), .int (iZ fi), .ref oY, .ref oH, .int (iZ nh), .int (iZ bb), .int (iZ ee), .int (iZ fd), .int (iZ ww), .int (iZ le), .ref oW, .ref oT, .int (iZ (if rd + 1 < nr then rd + 1 else rd))])), (oK, .inl (cI, 800, .inl (fun j => iZ (kd j))))] H := eW ▸ hP
    have hD : va_D A [(o0, .inr (7, [.int (iZ (if rd + 1 < nr then 0 else 1)), .int (iZ nb), .int (iZ nr), .ref oK, .ref oF, .ref oS, .ref oE, .int (iZ us), .int (iZ fi), .ref oY, .ref oH, .int (iZ nh), .int (iZ bb), .int (iZ ee), .int (iZ fd), .int (iZ ww), .int (iZ le), .ref oW, .ref oT, .int (iZ (if rd + 1 < nr then rd + 1 else rd))])), (oK, .inl (cI, 800, .inl (fun j => iZ (kd j))))] := eW ▸ hD
    exact W.iret (v := (iZ 0)) hx hb hr (fun t ht hW => ⟨⟨_, (), rfl, (congrArg iZ (by omega)), by rw [ht]; exact hP, va_K.moved hW.alike hK, hAe ▸ hD⟩, hAe ▸ hS.F ht⟩) (hAe ▸ hS.2.2) d_Mo_next_23
set_option maxHeartbeats 4000000 in
set_option maxRecDepth 100000 in
theorem c_Mo_length (l : Launch) (dC : Nat → ClassId) (dI : Nat → Nat → Nat) (cB : ClassId) (cI : ClassId) (cJ : ClassId) (cZ : ClassId) (cQ : ClassId) (o0 oK oF oS oE oY oH oW oT : Nat) (sz : Nat) (th : Int) (nb : Int) (nr : Int) (us : Int) (fi : Int) (nh : Int) (bb : Int) (ee : Int) (fd : Int) (ww : Int) (le : Int) (rd : Int) (siz : Nat → Int) (hrd : -1 ≤ rd ∧ rd < 800) (hfi : 0 ≤ fi ∧ fi ≤ 800) : Met l y_Mo_length ((Cond.code y_Mo_length prog_9_method_21_code 1 (some .int)) :: gw) ({ frames := 0, cells := 0, slots := 0, locals := 0 } : Room) (zPc (dC, dI) [(cB, .byte), (cI, .int), (cJ, .long), (cZ, .boolean), (cQ, .object "LogDesk$Block")] [.ref o0] [(o0, .inr (7, [.int (iZ th), .int (iZ nb), .int (iZ nr), .ref oK, .ref oF, .ref oS, .ref oE, .int (iZ us), .int (iZ fi), .ref oY, .ref oH, .int (iZ nh), .int (iZ bb), .int (iZ ee), .int (iZ fd), .int (iZ ww), .int (iZ le), .ref oW, .ref oT, .int (iZ rd)])), (oS, .inl (cI, 800, .inl (fun j => iZ (siz j))))] sz) (va_Qi (fun (r : Int32) (_ : Unit) => r = iZ (if rd < fi then -1 else siz rd.toNat)) (zB (dC, dI) [(cB, .byte), (cI, .int), (cJ, .long), (cZ, .boolean), (cQ, .object "LogDesk$Block")] (va_A [(o0, .inr (7, [.int (iZ th), .int (iZ nb), .int (iZ nr), .ref oK, .ref oF, .ref oS, .ref oE, .int (iZ us), .int (iZ fi), .ref oY, .ref oH, .int (iZ nh), .int (iZ bb), .int (iZ ee), .int (iZ fd), .int (iZ ww), .int (iZ le), .ref oW, .ref oT, .int (iZ rd)])), (oS, .inl (cI, 800, .inl (fun j => iZ (siz j))))] sz) [(o0, .inr (7, [.int (iZ 0), .int (iZ nb), .int (iZ nr), .ref oK, .ref oF, .ref oS, .ref oE, .int (iZ us), .int (iZ fi), .ref oY, .ref oH, .int (iZ nh), .int (iZ bb), .int (iZ ee), .int (iZ fd), .int (iZ ww), .int (iZ le), .ref oW, .ref oT, .int (iZ rd)])), (oS, .inl (cI, 800, .inl (fun j => iZ (siz j))))]) (va_A [(o0, .inr (7, [.int (iZ th), .int (iZ nb), .int (iZ nr), .ref oK, .ref oF, .ref oS, .ref oE, .int (iZ us), .int (iZ fi), .ref oY, .ref oH, .int (iZ nh), .int (iZ bb), .int (iZ ee), .int (iZ fd), .int (iZ ww), .int (iZ le), .ref oW, .ref oT, .int (iZ rd)])), (oS, .inl (cI, 800, .inl (fun j => iZ (siz j))))] sz)) 0 0 (va_A [(o0, .inr (7, [.int (iZ th), .int (iZ nb), .int (iZ nr), .ref oK, .ref oF, .ref oS, .ref oE, .int (iZ us), .int (iZ fi), .ref oY, .ref oH, .int (iZ nh), .int (iZ bb), .int (iZ ee), .int (iZ fd), .int (iZ ww), .int (iZ le), .ref oW, .ref oT, .int (iZ rd)])), (oS, .inl (cI, 800, .inl (fun j => iZ (siz j))))] sz) := by
  refine Met.ofW (cc := prog_9_method_21_code) (maxL := 1) (ret := (some .int)) (by decide) rfl ?_
  intro p e s m args below meth c s₁ B hml hv
  obtain ⟨rfl, hsz, hP, hK, hD0, hZ⟩ := hv
  have hx := B.exec
  have hb := B.bytes
  have hr := B.returns
  have hts := atoms_spec (ws := (Cond.code y_Mo_length prog_9_method_21_code 1 (some .int)) :: gw) B.pre
  have htg : ∀ w ∈ gw, w.before _ s = true := fun w h => hts w (List.mem_cons_of_mem _ h)
  have hown : s.vm.findClass "LogDeskModel" = some m.cls := findClass_of_methodNamed B.named
  have hlocks := B.notSynchronized
  subst hsz
  have hD := hD0.self (sz := s.heap.size)
  generalize hAe : va_A [(o0, .inr (7, [.int (iZ th), .int (iZ nb), .int (iZ nr), .ref oK, .ref oF, .ref oS, .ref oE, .int (iZ us), .int (iZ fi), .ref oY, .ref oH, .int (iZ nh), .int (iZ bb), .int (iZ ee), .int (iZ fd), .int (iZ ww), .int (iZ le), .ref oW, .ref oT, .int (iZ rd)])), (oS, .inl (cI, 800, .inl (fun j => iZ (siz j))))] s.heap.size = A at hD ⊢
  have hRc : (headSpec ((Cond.code y_Mo_length prog_9_method_21_code 1 (some .int)) :: gw) ({ frames := 0, cells := 0, slots := 0, locals := 0 } : Room)).room.cells = 0 := rfl
  have hRs : (headSpec ((Cond.code y_Mo_length prog_9_method_21_code 1 (some .int)) :: gw) ({ frames := 0, cells := 0, slots := 0, locals := 0 } : Room)).room.slots = 0 := rfl
  have hA : ∀ q : Nat, s.heap.size ≤ q → A q := fun q h => by rw [← hAe]; exact Or.inr h
  have hS : va_S A s.heap s.heap [] := va_S.rf
  have hP : va_P (dC, dI) vwCl [(o0, .inr (7, [.int (iZ th), .int (iZ nb), .int (iZ nr), .ref oK, .ref oF, .ref oS, .ref oE, .int (iZ us), .int (iZ fi), .ref oY, .ref oH, .int (iZ nh), .int (iZ bb), .int (iZ ee), .int (iZ fd), .int (iZ ww), .int (iZ le), .ref oW, .ref oT, .int (iZ rd)])), (oS, .inl (cI, 800, .inl (fun j => iZ (siz j))))] s.heap := hP
  have hl := lv_entry ([.ref o0]) (n := 1) (Nat.le_of_ble_eq_true rfl)
  rw [lg_entry_eq]
  generalize (lg_sl ([.ref o0]) ++ List.replicate (1 - (lg_sl ([.ref o0])).length) Slot.unset).toArray = ls at hl ⊢
  have hl : lv_has ls 1 [(0, .ref o0)] := hl
  refine lv_aload_n hx hb d_Mo_length_0 rfl (lv_at hl 0 rfl) ?_
  refine lv_iconst (v := iZ 0) hx hb d_Mo_length_1 rfl ?_
  refine va_put (D := (dC, dI)) (ci := 7) (v := .int (iZ 0)) (ty := t_Mo 0) (C := "LogDeskModel") (T := F_Mo) (N := 20) hx hb htg hin_Mo t_Mo t_Mo_ok n_Mo hown hK hP hD hS 0 rfl rfl 0 (by decide) (htg _ k_474) (fun _ h9 => h9) rfl (by decide +kernel) rfl rfl (Nat.le_of_ble_eq_true rfl) d_Mo_length_2 (fun H locs hP hD hS => ?_)
  have hP : va_P (dC, dI) vwCl [(o0, .inr (7, [.int (iZ 0), .int (iZ nb), .int (iZ nr), .ref oK, .ref oF, .ref oS, .ref oE, .int (iZ us), .int (iZ fi), .ref oY, .ref oH, .int (iZ nh), .int (iZ bb), .int (iZ ee), .int (iZ fd), .int (iZ ww), .int (iZ le), .ref oW, .ref oT, .int (iZ rd)])), (oS, .inl (cI, 800, .inl (fun j => iZ (siz j))))] H := hP
  have hD : va_D A [(o0, .inr (7, [.int (iZ 0), .int (iZ nb), .int (iZ nr), .ref oK, .ref oF, .ref oS, .ref oE, .int (iZ us), .int (iZ fi), .ref oY, .ref oH, .int (iZ nh), .int (iZ bb), .int (iZ ee), .int (iZ fd), .int (iZ ww), .int (iZ le), .ref oW, .ref oT, .int (iZ rd)])), (oS, .inl (cI, 800, .inl (fun j => iZ (siz j))))] := hD
  refine lv_aload_n hx hb d_Mo_length_5 rfl (lv_at hl 0 rfl) ?_
  refine va_get (D := (dC, dI)) (ci := 7) (v := .int (iZ rd)) (C := "LogDeskModel") (T := F_Mo) (N := 20) hx hb htg hin_Mo hown hK hP 0 rfl rfl 19 (by decide) (htg _ k_493) (fun _ h9 => h9) rfl d_Mo_length_6 ?_
  refine lv_aload_n hx hb d_Mo_length_9 rfl (lv_at hl 0 rfl) ?_
  refine va_get (D := (dC, dI)) (ci := 7) (v := .int (iZ fi)) (C := "LogDeskModel") (T := F_Mo) (N := 20) hx hb htg hin_Mo hown hK hP 0 rfl rfl 8 (by decide) (htg _ k_482) (fun _ h9 => h9) rfl d_Mo_length_10 ?_
  refine zz_icmp_ge (tgt := 20) hx hb d_Mo_length_13 (by decide) ⟨by omega, by omega⟩ ⟨by omega, by omega⟩ (fun c_1 => ?_) (fun c_1 => ?_)
  · refine lv_aload_n hx hb d_Mo_length_20 rfl (lv_at hl 0 rfl) ?_
    refine va_get (D := (dC, dI)) (ci := 7) (v := .ref oS) (C := "LogDeskModel") (T := F_Mo) (N := 20) hx hb htg hin_Mo hown hK hP 0 rfl rfl 5 (by decide) (htg _ k_479) (fun _ h9 => h9) rfl d_Mo_length_21 ?_
    refine lv_aload_n hx hb d_Mo_length_24 rfl (lv_at hl 0 rfl) ?_
    refine va_get (D := (dC, dI)) (ci := 7) (v := .int (iZ rd)) (C := "LogDeskModel") (T := F_Mo) (N := 20) hx hb htg hin_Mo hown hK hP 0 rfl rfl 19 (by decide) (htg _ k_493) (fun _ h9 => h9) rfl d_Mo_length_25 ?_
    refine zz_iald hx hb hK hP 1 1 rfl rfl (by omega) (by omega) (by omega) d_Mo_length_28 ?_
    exact W.iret (v := (iZ (siz (rd).toNat))) hx hb hr (fun t ht hW => ⟨⟨_, (), rfl, (congrArg iZ (by omega)), by rw [ht]; exact hP, va_K.moved hW.alike hK, hAe ▸ hD⟩, hAe ▸ hS.F ht⟩) (hAe ▸ hS.2.2) d_Mo_length_29
  · refine lv_iconst (v := iZ (-1)) hx hb d_Mo_length_16 rfl ?_
    refine lv_goto (tgt := 29) hx hb d_Mo_length_17 (by decide) ?_
    exact W.iret (v := (iZ (-1))) hx hb hr (fun t ht hW => ⟨⟨_, (), rfl, (congrArg iZ (by omega)), by rw [ht]; exact hP, va_K.moved hW.alike hK, hAe ▸ hD⟩, hAe ▸ hS.F ht⟩) (hAe ▸ hS.2.2) d_Mo_length_29
set_option maxHeartbeats 4000000 in
set_option maxRecDepth 100000 in
theorem c_Mo_byteOf (l : Launch) (dC : Nat → ClassId) (dI : Nat → Nat → Nat) (cB : ClassId) (cI : ClassId) (cJ : ClassId) (cZ : ClassId) (cQ : ClassId) (o0 oK oF oS oE oY oH oW oT : Nat) (sz : Nat) (th : Int) (nb : Int) (nr : Int) (us : Int) (fi : Int) (nh : Int) (bb : Int) (ee : Int) (fd : Int) (ww : Int) (le : Int) (rd : Int) (fr : Nat → Int) (siz : Nat → Int) (yb : Nat → Int) (x : Int) (hrd : -1 ≤ rd ∧ rd < 800) (hfi : 0 ≤ fi ∧ fi ≤ 800) (hsz0 : ∀ j : Nat, 0 ≤ siz j ∧ siz j ≤ 600) (hfr : fi ≤ rd → 0 ≤ fr rd.toNat ∧ fr rd.toNat + siz rd.toNat ≤ 19000) (hx0 : iB x) : Met l y_Mo_byteOf ((Cond.code y_Mo_byteOf prog_9_method_22_code 2 (some .int)) :: gw) ({ frames := 0, cells := 0, slots := 0, locals := 0 } : Room) (zPc (dC, dI) [(cB, .byte), (cI, .int), (cJ, .long), (cZ, .boolean), (cQ, .object "LogDesk$Block")] [.ref o0, .int (iZ x)] [(o0, .inr (7, [.int (iZ th), .int (iZ nb), .int (iZ nr), .ref oK, .ref oF, .ref oS, .ref oE, .int (iZ us), .int (iZ fi), .ref oY, .ref oH, .int (iZ nh), .int (iZ bb), .int (iZ ee), .int (iZ fd), .int (iZ ww), .int (iZ le), .ref oW, .ref oT, .int (iZ rd)])), (oF, .inl (cI, 800, .inl (fun j => iZ (fr j)))), (oS, .inl (cI, 800, .inl (fun j => iZ (siz j)))), (oY, .inl (cB, 19000, .inl (fun j => iZ (Int.bmod (yb j) 256))))] sz) (va_Qi (fun (r : Int32) (_ : Unit) => r = iZ (if rd < fi ∨ x < 0 ∨ siz rd.toNat ≤ x then -1 else yb (fr rd.toNat + x).toNat % 256)) (zB (dC, dI) [(cB, .byte), (cI, .int), (cJ, .long), (cZ, .boolean), (cQ, .object "LogDesk$Block")] (va_A [(o0, .inr (7, [.int (iZ th), .int (iZ nb), .int (iZ nr), .ref oK, .ref oF, .ref oS, .ref oE, .int (iZ us), .int (iZ fi), .ref oY, .ref oH, .int (iZ nh), .int (iZ bb), .int (iZ ee), .int (iZ fd), .int (iZ ww), .int (iZ le), .ref oW, .ref oT, .int (iZ rd)])), (oF, .inl (cI, 800, .inl (fun j => iZ (fr j)))), (oS, .inl (cI, 800, .inl (fun j => iZ (siz j)))), (oY, .inl (cB, 19000, .inl (fun j => iZ (Int.bmod (yb j) 256))))] sz) [(o0, .inr (7, [.int (iZ 0), .int (iZ nb), .int (iZ nr), .ref oK, .ref oF, .ref oS, .ref oE, .int (iZ us), .int (iZ fi), .ref oY, .ref oH, .int (iZ nh), .int (iZ bb), .int (iZ ee), .int (iZ fd), .int (iZ ww), .int (iZ le), .ref oW, .ref oT, .int (iZ rd)])), (oF, .inl (cI, 800, .inl (fun j => iZ (fr j)))), (oS, .inl (cI, 800, .inl (fun j => iZ (siz j)))), (oY, .inl (cB, 19000, .inl (fun j => iZ (Int.bmod (yb j) 256))))]) (va_A [(o0, .inr (7, [.int (iZ th), .int (iZ nb), .int (iZ nr), .ref oK, .ref oF, .ref oS, .ref oE, .int (iZ us), .int (iZ fi), .ref oY, .ref oH, .int (iZ nh), .int (iZ bb), .int (iZ ee), .int (iZ fd), .int (iZ ww), .int (iZ le), .ref oW, .ref oT, .int (iZ rd)])), (oF, .inl (cI, 800, .inl (fun j => iZ (fr j)))), (oS, .inl (cI, 800, .inl (fun j => iZ (siz j)))), (oY, .inl (cB, 19000, .inl (fun j => iZ (Int.bmod (yb j) 256))))] sz)) 0 0 (va_A [(o0, .inr (7, [.int (iZ th), .int (iZ nb), .int (iZ nr), .ref oK, .ref oF, .ref oS, .ref oE, .int (iZ us), .int (iZ fi), .ref oY, .ref oH, .int (iZ nh), .int (iZ bb), .int (iZ ee), .int (iZ fd), .int (iZ ww), .int (iZ le), .ref oW, .ref oT, .int (iZ rd)])), (oF, .inl (cI, 800, .inl (fun j => iZ (fr j)))), (oS, .inl (cI, 800, .inl (fun j => iZ (siz j)))), (oY, .inl (cB, 19000, .inl (fun j => iZ (Int.bmod (yb j) 256))))] sz) := by
  refine Met.ofW (cc := prog_9_method_22_code) (maxL := 2) (ret := (some .int)) (by decide) rfl ?_
  intro p e s m args below meth c s₁ B hml hv
  obtain ⟨rfl, hsz, hP, hK, hD0, hZ⟩ := hv
  have hx := B.exec
  have hb := B.bytes
  have hr := B.returns
  have hts := atoms_spec (ws := (Cond.code y_Mo_byteOf prog_9_method_22_code 2 (some .int)) :: gw) B.pre
  have htg : ∀ w ∈ gw, w.before _ s = true := fun w h => hts w (List.mem_cons_of_mem _ h)
  have hown : s.vm.findClass "LogDeskModel" = some m.cls := findClass_of_methodNamed B.named
  have hlocks := B.notSynchronized
  subst hsz
  have hD := hD0.self (sz := s.heap.size)
  generalize hAe : va_A [(o0, .inr (7, [.int (iZ th), .int (iZ nb), .int (iZ nr), .ref oK, .ref oF, .ref oS, .ref oE, .int (iZ us), .int (iZ fi), .ref oY, .ref oH, .int (iZ nh), .int (iZ bb), .int (iZ ee), .int (iZ fd), .int (iZ ww), .int (iZ le), .ref oW, .ref oT, .int (iZ rd)])), (oF, .inl (cI, 800, .inl (fun j => iZ (fr j)))), (oS, .inl (cI, 800, .inl (fun j => iZ (siz j)))), (oY, .inl (cB, 19000, .inl (fun j => iZ (Int.bmod (yb j) 256))))] s.heap.size = A at hD ⊢
  have hRc : (headSpec ((Cond.code y_Mo_byteOf prog_9_method_22_code 2 (some .int)) :: gw) ({ frames := 0, cells := 0, slots := 0, locals := 0 } : Room)).room.cells = 0 := rfl
  have hRs : (headSpec ((Cond.code y_Mo_byteOf prog_9_method_22_code 2 (some .int)) :: gw) ({ frames := 0, cells := 0, slots := 0, locals := 0 } : Room)).room.slots = 0 := rfl
  have hA : ∀ q : Nat, s.heap.size ≤ q → A q := fun q h => by rw [← hAe]; exact Or.inr h
  have hS : va_S A s.heap s.heap [] := va_S.rf
  have hP : va_P (dC, dI) vwCl [(o0, .inr (7, [.int (iZ th), .int (iZ nb), .int (iZ nr), .ref oK, .ref oF, .ref oS, .ref oE, .int (iZ us), .int (iZ fi), .ref oY, .ref oH, .int (iZ nh), .int (iZ bb), .int (iZ ee), .int (iZ fd), .int (iZ ww), .int (iZ le), .ref oW, .ref oT, .int (iZ rd)])), (oF, .inl (cI, 800, .inl (fun j => iZ (fr j)))), (oS, .inl (cI, 800, .inl (fun j => iZ (siz j)))), (oY, .inl (cB, 19000, .inl (fun j => iZ (Int.bmod (yb j) 256))))] s.heap := hP
  have hl := lv_entry ([.ref o0, .int (iZ x)]) (n := 2) (Nat.le_of_ble_eq_true rfl)
  rw [lg_entry_eq]
  generalize (lg_sl ([.ref o0, .int (iZ x)]) ++ List.replicate (2 - (lg_sl ([.ref o0, .int (iZ x)])).length) Slot.unset).toArray = ls at hl ⊢
  have hl : lv_has ls 2 [(0, .ref o0), (1, .int (iZ x))] := hl
  obtain ⟨hx1, hx2⟩ := hx0
  have hs1 := hsz0 rd.toNat
  refine lv_aload_n hx hb d_Mo_byteOf_0 rfl (lv_at hl 0 rfl) ?_
  refine lv_iconst (v := iZ 0) hx hb d_Mo_byteOf_1 rfl ?_
  refine va_put (D := (dC, dI)) (ci := 7) (v := .int (iZ 0)) (ty := t_Mo 0) (C := "LogDeskModel") (T := F_Mo) (N := 20) hx hb htg hin_Mo t_Mo t_Mo_ok n_Mo hown hK hP hD hS 0 rfl rfl 0 (by decide) (htg _ k_474) (fun _ h9 => h9) rfl (by decide +kernel) rfl rfl (Nat.le_of_ble_eq_true rfl) d_Mo_byteOf_2 (fun H locs hP hD hS => ?_)
  have hP : va_P (dC, dI) vwCl [(o0, .inr (7, [.int (iZ 0), .int (iZ nb), .int (iZ nr), .ref oK, .ref oF, .ref oS, .ref oE, .int (iZ us), .int (iZ fi), .ref oY, .ref oH, .int (iZ nh), .int (iZ bb), .int (iZ ee), .int (iZ fd), .int (iZ ww), .int (iZ le), .ref oW, .ref oT, .int (iZ rd)])), (oF, .inl (cI, 800, .inl (fun j => iZ (fr j)))), (oS, .inl (cI, 800, .inl (fun j => iZ (siz j)))), (oY, .inl (cB, 19000, .inl (fun j => iZ (Int.bmod (yb j) 256))))] H := hP
  have hD : va_D A [(o0, .inr (7, [.int (iZ 0), .int (iZ nb), .int (iZ nr), .ref oK, .ref oF, .ref oS, .ref oE, .int (iZ us), .int (iZ fi), .ref oY, .ref oH, .int (iZ nh), .int (iZ bb), .int (iZ ee), .int (iZ fd), .int (iZ ww), .int (iZ le), .ref oW, .ref oT, .int (iZ rd)])), (oF, .inl (cI, 800, .inl (fun j => iZ (fr j)))), (oS, .inl (cI, 800, .inl (fun j => iZ (siz j)))), (oY, .inl (cB, 19000, .inl (fun j => iZ (Int.bmod (yb j) 256))))] := hD
  refine lv_aload_n hx hb d_Mo_byteOf_5 rfl (lv_at hl 0 rfl) ?_
  refine va_get (D := (dC, dI)) (ci := 7) (v := .int (iZ rd)) (C := "LogDeskModel") (T := F_Mo) (N := 20) hx hb htg hin_Mo hown hK hP 0 rfl rfl 19 (by decide) (htg _ k_493) (fun _ h9 => h9) rfl d_Mo_byteOf_6 ?_
  refine lv_aload_n hx hb d_Mo_byteOf_9 rfl (lv_at hl 0 rfl) ?_
  refine va_get (D := (dC, dI)) (ci := 7) (v := .int (iZ fi)) (C := "LogDeskModel") (T := F_Mo) (N := 20) hx hb htg hin_Mo hown hK hP 0 rfl rfl 8 (by decide) (htg _ k_482) (fun _ h9 => h9) rfl d_Mo_byteOf_10 ?_
  refine zz_icmp_lt (tgt := 33) hx hb d_Mo_byteOf_13 (by decide) ⟨by omega, by omega⟩ ⟨by omega, by omega⟩ (fun c_1 => ?_) (fun c_1 => ?_)
  · refine lv_iconst (v := iZ (-1)) hx hb d_Mo_byteOf_33 rfl ?_
    refine lv_goto (tgt := 57) hx hb d_Mo_byteOf_34 (by decide) ?_
    exact W.iret (v := (iZ (-1))) hx hb hr (fun t ht hW => ⟨⟨_, (), rfl, (congrArg iZ (by omega)), by rw [ht]; exact hP, va_K.moved hW.alike hK, hAe ▸ hD⟩, hAe ▸ hS.F ht⟩) (hAe ▸ hS.2.2) d_Mo_byteOf_57
  · refine lv_iload_n hx hb d_Mo_byteOf_16 rfl (lv_at hl 1 rfl) ?_
    refine zz_if_lt (tgt := 33) hx hb d_Mo_byteOf_17 (by decide) ⟨by omega, by omega⟩ (fun c_2 => ?_) (fun c_2 => ?_)
    · refine lv_iconst (v := iZ (-1)) hx hb d_Mo_byteOf_33 rfl ?_
      refine lv_goto (tgt := 57) hx hb d_Mo_byteOf_34 (by decide) ?_
      exact W.iret (v := (iZ (-1))) hx hb hr (fun t ht hW => ⟨⟨_, (), rfl, (congrArg iZ (by omega)), by rw [ht]; exact hP, va_K.moved hW.alike hK, hAe ▸ hD⟩, hAe ▸ hS.F ht⟩) (hAe ▸ hS.2.2) d_Mo_byteOf_57
    · refine lv_iload_n hx hb d_Mo_byteOf_20 rfl (lv_at hl 1 rfl) ?_
      refine lv_aload_n hx hb d_Mo_byteOf_21 rfl (lv_at hl 0 rfl) ?_
      refine va_get (D := (dC, dI)) (ci := 7) (v := .ref oS) (C := "LogDeskModel") (T := F_Mo) (N := 20) hx hb htg hin_Mo hown hK hP 0 rfl rfl 5 (by decide) (htg _ k_479) (fun _ h9 => h9) rfl d_Mo_byteOf_22 ?_
      refine lv_aload_n hx hb d_Mo_byteOf_25 rfl (lv_at hl 0 rfl) ?_
      refine va_get (D := (dC, dI)) (ci := 7) (v := .int (iZ rd)) (C := "LogDeskModel") (T := F_Mo) (N := 20) hx hb htg hin_Mo hown hK hP 0 rfl rfl 19 (by decide) (htg _ k_493) (fun _ h9 => h9) rfl d_Mo_byteOf_26 ?_
      refine zz_iald hx hb hK hP 2 1 rfl rfl (by omega) (by omega) (by omega) d_Mo_byteOf_29 ?_
      refine zz_icmp_lt (tgt := 37) hx hb d_Mo_byteOf_30 (by decide) ⟨by omega, by omega⟩ ⟨by omega, by omega⟩ (fun c_3 => ?_) (fun c_3 => ?_)
      · refine lv_aload_n hx hb d_Mo_byteOf_37 rfl (lv_at hl 0 rfl) ?_
        refine va_get (D := (dC, dI)) (ci := 7) (v := .ref oY) (C := "LogDeskModel") (T := F_Mo) (N := 20) hx hb htg hin_Mo hown hK hP 0 rfl rfl 9 (by decide) (htg _ k_483) (fun _ h9 => h9) rfl d_Mo_byteOf_38 ?_
        refine lv_aload_n hx hb d_Mo_byteOf_41 rfl (lv_at hl 0 rfl) ?_
        refine va_get (D := (dC, dI)) (ci := 7) (v := .ref oF) (C := "LogDeskModel") (T := F_Mo) (N := 20) hx hb htg hin_Mo hown hK hP 0 rfl rfl 4 (by decide) (htg _ k_478) (fun _ h9 => h9) rfl d_Mo_byteOf_42 ?_
        refine lv_aload_n hx hb d_Mo_byteOf_45 rfl (lv_at hl 0 rfl) ?_
        refine va_get (D := (dC, dI)) (ci := 7) (v := .int (iZ rd)) (C := "LogDeskModel") (T := F_Mo) (N := 20) hx hb htg hin_Mo hown hK hP 0 rfl rfl 19 (by decide) (htg _ k_493) (fun _ h9 => h9) rfl d_Mo_byteOf_46 ?_
        refine zz_iald hx hb hK hP 1 1 rfl rfl (by omega) (by omega) (by omega) d_Mo_byteOf_49 ?_
        refine lv_iload_n hx hb d_Mo_byteOf_50 rfl (lv_at hl 1 rfl) ?_
        refine zz_iadd hx hb d_Mo_byteOf_51 ?_
        refine zz_bald hx hb hK hP 3 0 rfl rfl (by omega) (by omega) (by omega) d_Mo_byteOf_52 ?_
        refine lv_sipush (v := iZ 255) hx hb d_Mo_byteOf_53 (by decide) ?_
        refine zz_and255b hx hb d_Mo_byteOf_56 ?_
        exact W.iret (v := (iZ ((yb ((fr (rd).toNat + x)).toNat) % 256))) hx hb hr (fun t ht hW => ⟨⟨_, (), rfl, (congrArg iZ (by omega)), by rw [ht]; exact hP, va_K.moved hW.alike hK, hAe ▸ hD⟩, hAe ▸ hS.F ht⟩) (hAe ▸ hS.2.2) d_Mo_byteOf_57
      · refine lv_iconst (v := iZ (-1)) hx hb d_Mo_byteOf_33 rfl ?_
        refine lv_goto (tgt := 57) hx hb d_Mo_byteOf_34 (by decide) ?_
        exact W.iret (v := (iZ (-1))) hx hb hr (fun t ht hW => ⟨⟨_, (), rfl, (congrArg iZ (by omega)), by rw [ht]; exact hP, va_K.moved hW.alike hK, hAe ▸ hD⟩, hAe ▸ hS.F ht⟩) (hAe ▸ hS.2.2) d_Mo_byteOf_57
