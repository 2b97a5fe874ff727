set_option maxHeartbeats 4000000 in
set_option maxRecDepth 100000 in
theorem c_Mo_thrown (l : Launch) (dC : Nat → ClassId) (dI : Nat → Nat → Nat) (cB : ClassId) (cI : ClassId) (cJ : ClassId) (cZ : ClassId) (cQ : ClassId) (o0 oK oF oS oE oY oH oW oT : Nat) (sz : Nat) (th : Int) (nb : Int) (nr : Int) (us : Int) (fi : Int) (nh : Int) (bb : Int) (ee : Int) (fd : Int) (ww : Int) (le : Int) (rd : Int) : Met l y_Mo_thrown ((Cond.code y_Mo_thrown prog_9_method_2_code 1 (some .int)) :: gw) ({ frames := 0, cells := 0, slots := 0, locals := 0 } : Room) (zPc (dC, dI) [(cB, .byte), (cI, .int), (cJ, .long), (cZ, .boolean), (cQ, .object "LogDesk$Block")] [.ref o0] [(o0, .inr (7, [.int (iZ th), .int (iZ nb), .int (iZ nr), .ref oK, .ref oF, .ref oS, .ref oE, .int (iZ us), .int (iZ fi), .ref oY, .ref oH, .int (iZ nh), .int (iZ bb), .int (iZ ee), .int (iZ fd), .int (iZ ww), .int (iZ le), .ref oW, .ref oT, .int (iZ rd)]))] sz) (va_Qi (fun (r : Int32) (_ : Unit) => r = iZ th) (zB (dC, dI) [(cB, .byte), (cI, .int), (cJ, .long), (cZ, .boolean), (cQ, .object "LogDesk$Block")] (va_A [(o0, .inr (7, [.int (iZ th), .int (iZ nb), .int (iZ nr), .ref oK, .ref oF, .ref oS, .ref oE, .int (iZ us), .int (iZ fi), .ref oY, .ref oH, .int (iZ nh), .int (iZ bb), .int (iZ ee), .int (iZ fd), .int (iZ ww), .int (iZ le), .ref oW, .ref oT, .int (iZ rd)]))] sz) [(o0, .inr (7, [.int (iZ th), .int (iZ nb), .int (iZ nr), .ref oK, .ref oF, .ref oS, .ref oE, .int (iZ us), .int (iZ fi), .ref oY, .ref oH, .int (iZ nh), .int (iZ bb), .int (iZ ee), .int (iZ fd), .int (iZ ww), .int (iZ le), .ref oW, .ref oT, .int (iZ rd)]))]) (va_A [(o0, .inr (7, [.int (iZ th), .int (iZ nb), .int (iZ nr), .ref oK, .ref oF, .ref oS, .ref oE, .int (iZ us), .int (iZ fi), .ref oY, .ref oH, .int (iZ nh), .int (iZ bb), .int (iZ ee), .int (iZ fd), .int (iZ ww), .int (iZ le), .ref oW, .ref oT, .int (iZ rd)]))] sz)) 0 0 (va_A [(o0, .inr (7, [.int (iZ th), .int (iZ nb), .int (iZ nr), .ref oK, .ref oF, .ref oS, .ref oE, .int (iZ us), .int (iZ fi), .ref oY, .ref oH, .int (iZ nh), .int (iZ bb), .int (iZ ee), .int (iZ fd), .int (iZ ww), .int (iZ le), .ref oW, .ref oT, .int (iZ rd)]))] sz) := by
  refine Met.ofW (cc := prog_9_method_2_code) (maxL := 1) (ret := (some .int)) (by decide) rfl ?_
  intro p e s m args below meth c s₁ B hml hv
  obtain ⟨rfl, hsz, hP, hK, hD0, hZ⟩ := hv
  have hx := B.exec
  have hb := B.bytes
  have hr := B.returns
  have hts := atoms_spec (ws := (Cond.code y_Mo_thrown prog_9_method_2_code 1 (some .int)) :: gw) B.pre
  have htg : ∀ w ∈ gw, w.before _ s = true := fun w h => hts w (List.mem_cons_of_mem _ h)
  have hown : s.vm.findClass "LogDeskModel" = some m.cls := findClass_of_methodNamed B.named
  have hlocks := B.notSynchronized
  subst hsz
  have hD := hD0.self (sz := s.heap.size)
  generalize hAe : va_A [(o0, .inr (7, [.int (iZ th), .int (iZ nb), .int (iZ nr), .ref oK, .ref oF, .ref oS, .ref oE, .int (iZ us), .int (iZ fi), .ref oY, .ref oH, .int (iZ nh), .int (iZ bb), .int (iZ ee), .int (iZ fd), .int (iZ ww), .int (iZ le), .ref oW, .ref oT, .int (iZ rd)]))] s.heap.size = A at hD ⊢
  have hRc : (headSpec ((Cond.code y_Mo_thrown prog_9_method_2_code 1 (some .int)) :: gw) ({ frames := 0, cells := 0, slots := 0, locals := 0 } : Room)).room.cells = 0 := rfl
  have hRs : (headSpec ((Cond.code y_Mo_thrown prog_9_method_2_code 1 (some .int)) :: gw) ({ frames := 0, cells := 0, slots := 0, locals := 0 } : Room)).room.slots = 0 := rfl
  have hA : ∀ q : Nat, s.heap.size ≤ q → A q := fun q h => by rw [← hAe]; exact Or.inr h
  have hS : va_S A s.heap s.heap [] := va_S.rf
  have hP : va_P (dC, dI) vwCl [(o0, .inr (7, [.int (iZ th), .int (iZ nb), .int (iZ nr), .ref oK, .ref oF, .ref oS, .ref oE, .int (iZ us), .int (iZ fi), .ref oY, .ref oH, .int (iZ nh), .int (iZ bb), .int (iZ ee), .int (iZ fd), .int (iZ ww), .int (iZ le), .ref oW, .ref oT, .int (iZ rd)]))] s.heap := hP
  have hl := lv_entry ([.ref o0]) (n := 1) (Nat.le_of_ble_eq_true rfl)
  rw [lg_entry_eq]
  generalize (lg_sl ([.ref o0]) ++ List.replicate (1 - (lg_sl ([.ref o0])).length) Slot.unset).toArray = ls at hl ⊢
  have hl : lv_has ls 1 [(0, .ref o0)] := hl
  refine lv_aload_n hx hb d_Mo_thrown_0 rfl (lv_at hl 0 rfl) ?_
  refine va_get (D := (dC, dI)) (ci := 7) (v := .int (iZ th)) (C := "LogDeskModel") (T := F_Mo) (N := 20) hx hb htg hin_Mo hown hK hP 0 rfl rfl 0 (by decide) (htg _ k_474) (fun _ h9 => h9) rfl d_Mo_thrown_1 ?_
  exact W.iret (v := (iZ th)) hx hb hr (fun t ht hW => ⟨⟨_, (), rfl, rfl, by rw [ht]; exact hP, va_K.moved hW.alike hK, hAe ▸ hD⟩, hAe ▸ hS.F ht⟩) (hAe ▸ hS.2.2) d_Mo_thrown_4
set_option maxHeartbeats 4000000 in
set_option maxRecDepth 100000 in
theorem c_Mo_fails (l : Launch) (dC : Nat → ClassId) (dI : Nat → Nat → Nat) (cB : ClassId) (cI : ClassId) (cJ : ClassId) (cZ : ClassId) (cQ : ClassId) (o0 oK oF oS oE oY oH oW oT : Nat) (sz : Nat) (th : Int) (nb : Int) (nr : Int) (us : Int) (fi : Int) (nh : Int) (bb : Int) (ee : Int) (fd : Int) (ww : Int) (le : Int) (rd : Int) (x : Int) : Met l y_Mo_fails ((Cond.code y_Mo_fails prog_9_method_3_code 2 (some .int)) :: gw) ({ frames := 0, cells := 0, slots := 0, locals := 0 } : Room) (zPc (dC, dI) [(cB, .byte), (cI, .int), (cJ, .long), (cZ, .boolean), (cQ, .object "LogDesk$Block")] [.ref o0, .int (iZ x)] [(o0, .inr (7, [.int (iZ th), .int (iZ nb), .int (iZ nr), .ref oK, .ref oF, .ref oS, .ref oE, .int (iZ us), .int (iZ fi), .ref oY, .ref oH, .int (iZ nh), .int (iZ bb), .int (iZ ee), .int (iZ fd), .int (iZ ww), .int (iZ le), .ref oW, .ref oT, .int (iZ rd)]))] sz) (va_Qi (fun (r : Int32) (_ : Unit) => r = iZ 0) (zB (dC, dI) [(cB, .byte), (cI, .int), (cJ, .long), (cZ, .boolean), (cQ, .object "LogDesk$Block")] (va_A [(o0, .inr (7, [.int (iZ th), .int (iZ nb), .int (iZ nr), .ref oK, .ref oF, .ref oS, .ref oE, .int (iZ us), .int (iZ fi), .ref oY, .ref oH, .int (iZ nh), .int (iZ bb), .int (iZ ee), .int (iZ fd), .int (iZ ww), .int (iZ le), .ref oW, .ref oT, .int (iZ rd)]))] sz) [(o0, .inr (7, [.int (iZ x), .int (iZ nb), .int (iZ nr), .ref oK, .ref oF, .ref oS, .ref oE, .int (iZ us), .int (iZ fi), .ref oY, .ref oH, .int (iZ nh), .int (iZ bb), .int (iZ ee), .int (iZ fd), .int (iZ ww), .int (iZ le), .ref oW, .ref oT, .int (iZ rd)]))]) (va_A [(o0, .inr (7, [.int (iZ th), .int (iZ nb), .int (iZ nr), .ref oK, .ref oF, .ref oS, .ref oE, .int (iZ us), .int (iZ fi), .ref oY, .ref oH, .int (iZ nh), .int (iZ bb), .int (iZ ee), .int (iZ fd), .int (iZ ww), .int (iZ le), .ref oW, .ref oT, .int (iZ rd)]))] sz)) 0 0 (va_A [(o0, .inr (7, [.int (iZ th), .int (iZ nb), .int (iZ nr), .ref oK, .ref oF, .ref oS, .ref oE, .int (iZ us), .int (iZ fi), .ref oY, .ref oH, .int (iZ nh), .int (iZ bb), .int (iZ ee), .int (iZ fd), .int (iZ ww), .int (iZ le), .ref oW, .ref oT, .int (iZ rd)]))] sz) := by
  refine Met.ofW (cc := prog_9_method_3_code) (maxL := 2) (ret := (some .int)) (by decide) rfl ?_
  intro p e s m args below meth c s₁ B hml hv
  obtain ⟨rfl, hsz, hP, hK, hD0, hZ⟩ := hv
  have hx := B.exec
  have hb := B.bytes
  have hr := B.returns
  have hts := atoms_spec (ws := (Cond.code y_Mo_fails prog_9_method_3_code 2 (some .int)) :: gw) B.pre
  have htg : ∀ w ∈ gw, w.before _ s = true := fun w h => hts w (List.mem_cons_of_mem _ h)
  have hown : s.vm.findClass "LogDeskModel" = some m.cls := findClass_of_methodNamed B.named
  have hlocks := B.notSynchronized
  subst hsz
  have hD := hD0.self (sz := s.heap.size)
  generalize hAe : va_A [(o0, .inr (7, [.int (iZ th), .int (iZ nb), .int (iZ nr), .ref oK, .ref oF, .ref oS, .ref oE, .int (iZ us), .int (iZ fi), .ref oY, .ref oH, .int (iZ nh), .int (iZ bb), .int (iZ ee), .int (iZ fd), .int (iZ ww), .int (iZ le), .ref oW, .ref oT, .int (iZ rd)]))] s.heap.size = A at hD ⊢
  have hRc : (headSpec ((Cond.code y_Mo_fails prog_9_method_3_code 2 (some .int)) :: gw) ({ frames := 0, cells := 0, slots := 0, locals := 0 } : Room)).room.cells = 0 := rfl
  have hRs : (headSpec ((Cond.code y_Mo_fails prog_9_method_3_code 2 (some .int)) :: gw) ({ frames := 0, cells := 0, slots := 0, locals := 0 } : Room)).room.slots = 0 := rfl
  have hA : ∀ q : Nat, s.heap.size ≤ q → A q := fun q h => by rw [← hAe]; exact Or.inr h
  have hS : va_S A s.heap s.heap [] := va_S.rf
  have hP : va_P (dC, dI) vwCl [(o0, .inr (7, [.int (iZ th), .int (iZ nb), .int (iZ nr), .ref oK, .ref oF, .ref oS, .ref oE, .int (iZ us), .int (iZ fi), .ref oY, .ref oH, .int (iZ nh), .int (iZ bb), .int (iZ ee), .int (iZ fd), .int (iZ ww), .int (iZ le), .ref oW, .ref oT, .int (iZ rd)]))] s.heap := hP
  have hl := lv_entry ([.ref o0, .int (iZ x)]) (n := 2) (Nat.le_of_ble_eq_true rfl)
  rw [lg_entry_eq]
  generalize (lg_sl ([.ref o0, .int (iZ x)]) ++ List.replicate (2 - (lg_sl ([.ref o0, .int (iZ x)])).length) Slot.unset).toArray = ls at hl ⊢
  have hl : lv_has ls 2 [(0, .ref o0), (1, .int (iZ x))] := hl
  refine lv_aload_n hx hb d_Mo_fails_0 rfl (lv_at hl 0 rfl) ?_
  refine lv_iload_n hx hb d_Mo_fails_1 rfl (lv_at hl 1 rfl) ?_
  refine va_put (D := (dC, dI)) (ci := 7) (v := .int (iZ x)) (ty := t_Mo 0) (C := "LogDeskModel") (T := F_Mo) (N := 20) hx hb htg hin_Mo t_Mo t_Mo_ok n_Mo hown hK hP hD hS 0 rfl rfl 0 (by decide) (htg _ k_474) (fun _ h9 => h9) rfl (by decide +kernel) rfl rfl (Nat.le_of_ble_eq_true rfl) d_Mo_fails_2 (fun H locs hP hD hS => ?_)
  have hP : va_P (dC, dI) vwCl [(o0, .inr (7, [.int (iZ x), .int (iZ nb), .int (iZ nr), .ref oK, .ref oF, .ref oS, .ref oE, .int (iZ us), .int (iZ fi), .ref oY, .ref oH, .int (iZ nh), .int (iZ bb), .int (iZ ee), .int (iZ fd), .int (iZ ww), .int (iZ le), .ref oW, .ref oT, .int (iZ rd)]))] H := hP
  have hD : va_D A [(o0, .inr (7, [.int (iZ x), .int (iZ nb), .int (iZ nr), .ref oK, .ref oF, .ref oS, .ref oE, .int (iZ us), .int (iZ fi), .ref oY, .ref oH, .int (iZ nh), .int (iZ bb), .int (iZ ee), .int (iZ fd), .int (iZ ww), .int (iZ le), .ref oW, .ref oT, .int (iZ rd)]))] := hD
  refine lv_iconst (v := iZ 0) hx hb d_Mo_fails_5 rfl ?_
  exact W.iret (v := (iZ 0)) hx hb hr (fun t ht hW => ⟨⟨_, (), rfl, rfl, by rw [ht]; exact hP, va_K.moved hW.alike hK, hAe ▸ hD⟩, hAe ▸ hS.F ht⟩) (hAe ▸ hS.2.2) d_Mo_fails_6
set_option maxHeartbeats 4000000 in
set_option maxRecDepth 100000 in
theorem c_Mo_isFull (l : Launch) (dC : Nat → ClassId) (dI : Nat → Nat → Nat) (cB : ClassId) (cI : ClassId) (cJ : ClassId) (cZ : ClassId) (cQ : ClassId) (o0 oK oF oS oE oY oH oW oT : Nat) (sz : Nat) (th : Int) (nb : Int) (nr : Int) (us : Int) (fi : Int) (nh : Int) (bb : Int) (ee : Int) (fd : Int) (ww : Int) (le : Int) (rd : Int) (n : Int) (hn0 : 0 ≤ n ∧ n ≤ 600) (hpl : 0 ≤ bb ∧ bb ≤ ee ∧ ee ≤ 1000000000) (hnb : 3 ≤ nb ∧ nb ≤ 32) : Met l y_Mo_isFull ((Cond.code y_Mo_isFull prog_9_method_6_code 2 (some .boolean)) :: gw) ({ frames := 0, cells := 0, slots := 0, locals := 0 } : Room) (zPc (dC, dI) [(cB, .byte), (cI, .int), (cJ, .long), (cZ, .boolean), (cQ, .object "LogDesk$Block")] [.ref o0, .int (iZ n)] [(o0, .inr (7, [.int (iZ th), .int (iZ nb), .int (iZ nr), .ref oK, .ref oF, .ref oS, .ref oE, .int (iZ us), .int (iZ fi), .ref oY, .ref oH, .int (iZ nh), .int (iZ bb), .int (iZ ee), .int (iZ fd), .int (iZ ww), .int (iZ le), .ref oW, .ref oT, .int (iZ rd)]))] sz) (va_Qi (fun (r : Int32) (_ : Unit) => r = iZ (if nb ≤ (ee + 3 + n - 1) / 500 - bb / 500 then 1 else 0)) (zB (dC, dI) [(cB, .byte), (cI, .int), (cJ, .long), (cZ, .boolean), (cQ, .object "LogDesk$Block")] (va_A [(o0, .inr (7, [.int (iZ th), .int (iZ nb), .int (iZ nr), .ref oK, .ref oF, .ref oS, .ref oE, .int (iZ us), .int (iZ fi), .ref oY, .ref oH, .int (iZ nh), .int (iZ bb), .int (iZ ee), .int (iZ fd), .int (iZ ww), .int (iZ le), .ref oW, .ref oT, .int (iZ rd)]))] sz) [(o0, .inr (7, [.int (iZ th), .int (iZ nb), .int (iZ nr), .ref oK, .ref oF, .ref oS, .ref oE, .int (iZ us), .int (iZ fi), .ref oY, .ref oH, .int (iZ nh), .int (iZ bb), .int (iZ ee), .int (iZ fd), .int (iZ ww), .int (iZ le), .ref oW, .ref oT, .int (iZ rd)]))]) (va_A [(o0, .inr (7, [.int (iZ th), .int (iZ nb), .int (iZ nr), .ref oK, .ref oF, .ref oS, .ref oE, .int (iZ us), .int (iZ fi), .ref oY, .ref oH, .int (iZ nh), .int (iZ bb), .int (iZ ee), .int (iZ fd), .int (iZ ww), .int (iZ le), .ref oW, .ref oT, .int (iZ rd)]))] sz)) 0 0 (va_A [(o0, .inr (7, [.int (iZ th), .int (iZ nb), .int (iZ nr), .ref oK, .ref oF, .ref oS, .ref oE, .int (iZ us), .int (iZ fi), .ref oY, .ref oH, .int (iZ nh), .int (iZ bb), .int (iZ ee), .int (iZ fd), .int (iZ ww), .int (iZ le), .ref oW, .ref oT, .int (iZ rd)]))] sz) := by
  refine Met.ofW (cc := prog_9_method_6_code) (maxL := 2) (ret := (some .boolean)) (by decide) rfl ?_
  intro p e s m args below meth c s₁ B hml hv
  obtain ⟨rfl, hsz, hP, hK, hD0, hZ⟩ := hv
  have hx := B.exec
  have hb := B.bytes
  have hr := B.returns
  have hts := atoms_spec (ws := (Cond.code y_Mo_isFull prog_9_method_6_code 2 (some .boolean)) :: gw) B.pre
  have htg : ∀ w ∈ gw, w.before _ s = true := fun w h => hts w (List.mem_cons_of_mem _ h)
  have hown : s.vm.findClass "LogDeskModel" = some m.cls := findClass_of_methodNamed B.named
  have hlocks := B.notSynchronized
  subst hsz
  have hD := hD0.self (sz := s.heap.size)
  generalize hAe : va_A [(o0, .inr (7, [.int (iZ th), .int (iZ nb), .int (iZ nr), .ref oK, .ref oF, .ref oS, .ref oE, .int (iZ us), .int (iZ fi), .ref oY, .ref oH, .int (iZ nh), .int (iZ bb), .int (iZ ee), .int (iZ fd), .int (iZ ww), .int (iZ le), .ref oW, .ref oT, .int (iZ rd)]))] s.heap.size = A at hD ⊢
  have hRc : (headSpec ((Cond.code y_Mo_isFull prog_9_method_6_code 2 (some .boolean)) :: gw) ({ frames := 0, cells := 0, slots := 0, locals := 0 } : Room)).room.cells = 0 := rfl
  have hRs : (headSpec ((Cond.code y_Mo_isFull prog_9_method_6_code 2 (some .boolean)) :: gw) ({ frames := 0, cells := 0, slots := 0, locals := 0 } : Room)).room.slots = 0 := rfl
  have hA : ∀ q : Nat, s.heap.size ≤ q → A q := fun q h => by rw [← hAe]; exact Or.inr h
  have hS : va_S A s.heap s.heap [] := va_S.rf
  have hP : va_P (dC, dI) vwCl [(o0, .inr (7, [.int (iZ th), .int (iZ nb), .int (iZ nr), .ref oK, .ref oF, .ref oS, .ref oE, .int (iZ us), .int (iZ fi), .ref oY, .ref oH, .int (iZ nh), .int (iZ bb), .int (iZ ee), .int (iZ fd), .int (iZ ww), .int (iZ le), .ref oW, .ref oT, .int (iZ rd)]))] s.heap := hP
  have hl := lv_entry ([.ref o0, .int (iZ n)]) (n := 2) (Nat.le_of_ble_eq_true rfl)
  rw [lg_entry_eq]
  generalize (lg_sl ([.ref o0, .int (iZ n)]) ++ List.replicate (2 - (lg_sl ([.ref o0, .int (iZ n)])).length) Slot.unset).toArray = ls at hl ⊢
  have hl : lv_has ls 2 [(0, .ref o0), (1, .int (iZ n))] := hl
  refine lv_aload_n hx hb d_Mo_isFull_0 rfl (lv_at hl 0 rfl) ?_
  refine va_get (D := (dC, dI)) (ci := 7) (v := .int (iZ ee)) (C := "LogDeskModel") (T := F_Mo) (N := 20) hx hb htg hin_Mo hown hK hP 0 rfl rfl 13 (by decide) (htg _ k_487) (fun _ h9 => h9) rfl d_Mo_isFull_1 ?_
  refine lv_iconst (v := iZ 3) hx hb d_Mo_isFull_4 rfl ?_
  refine zz_iadd hx hb d_Mo_isFull_5 ?_
  refine lv_iload_n hx hb d_Mo_isFull_6 rfl (lv_at hl 1 rfl) ?_
  refine zz_iadd hx hb d_Mo_isFull_7 ?_
  refine lv_iconst (v := iZ 1) hx hb d_Mo_isFull_8 rfl ?_
  refine zz_isub hx hb d_Mo_isFull_9 ?_
  refine lv_sipush (v := iZ 500) hx hb d_Mo_isFull_10 (by decide) ?_
  refine zz_idiv hx hb (by omega) (by omega) (by omega) (by omega) d_Mo_isFull_13 ?_
  refine lv_aload_n hx hb d_Mo_isFull_14 rfl (lv_at hl 0 rfl) ?_
  refine va_get (D := (dC, dI)) (ci := 7) (v := .int (iZ bb)) (C := "LogDeskModel") (T := F_Mo) (N := 20) hx hb htg hin_Mo hown hK hP 0 rfl rfl 12 (by decide) (htg _ k_486) (fun _ h9 => h9) rfl d_Mo_isFull_15 ?_
  refine lv_sipush (v := iZ 500) hx hb d_Mo_isFull_18 (by decide) ?_
  refine zz_idiv hx hb (by omega) (by omega) (by omega) (by omega) d_Mo_isFull_21 ?_
  refine zz_isub hx hb d_Mo_isFull_22 ?_
  refine lv_aload_n hx hb d_Mo_isFull_23 rfl (lv_at hl 0 rfl) ?_
  refine va_get (D := (dC, dI)) (ci := 7) (v := .int (iZ nb)) (C := "LogDeskModel") (T := F_Mo) (N := 20) hx hb htg hin_Mo hown hK hP 0 rfl rfl 1 (by decide) (htg _ k_475) (fun _ h9 => h9) rfl d_Mo_isFull_24 ?_
  refine zz_icmp_lt (tgt := 34) hx hb d_Mo_isFull_27 (by decide) ⟨by omega, by omega⟩ ⟨by omega, by omega⟩ (fun c_1 => ?_) (fun c_1 => ?_)
  · refine lv_iconst (v := iZ 0) hx hb d_Mo_isFull_34 rfl ?_
    exact W.zret (v := (iZ 0)) hx hb hr rfl (fun t ht hW => ⟨⟨_, (), rfl, (congrArg iZ (by omega)), by rw [ht]; exact hP, va_K.moved hW.alike hK, hAe ▸ hD⟩, hAe ▸ hS.F ht⟩) (hAe ▸ hS.2.2) d_Mo_isFull_35
  · refine lv_iconst (v := iZ 1) hx hb d_Mo_isFull_30 rfl ?_
    refine lv_goto (tgt := 35) hx hb d_Mo_isFull_31 (by decide) ?_
    exact W.zret (v := (iZ 1)) hx hb hr rfl (fun t ht hW => ⟨⟨_, (), rfl, (congrArg iZ (by omega)), by rw [ht]; exact hP, va_K.moved hW.alike hK, hAe ▸ hD⟩, hAe ▸ hS.F ht⟩) (hAe ▸ hS.2.2) d_Mo_isFull_35
set_option maxHeartbeats 4000000 in
set_option maxRecDepth 100000 in
theorem c_Mo_put (l : Launch) (dC : Nat → ClassId) (dI : Nat → Nat → Nat) (cB : ClassId) (cI : ClassId) (cJ : ClassId) (cZ : ClassId) (cQ : ClassId) (o0 oK oF oS oE oY oH oW oT : Nat) (sz : Nat) (th : Int) (nb : Int) (nr : Int) (us : Int) (fi : Int) (nh : Int) (bb : Int) (ee : Int) (fd : Int) (ww : Int) (le : Int) (rd : Int) (hd : Nat → Int) (v : Int64) (n : Int) (hih : 0 ≤ nh ∧ nh ≤ 600) (hn0 : iB n) : Met l y_Mo_put ((Cond.code y_Mo_put prog_9_method_4_code 5 (some .boolean)) :: gw) ({ frames := 0, cells := 0, slots := 0, locals := 0 } : Room) (zPc (dC, dI) [(cB, .byte), (cI, .int), (cJ, .long), (cZ, .boolean), (cQ, .object "LogDesk$Block")] [.ref o0, .long v, .int (iZ n)] [(o0, .inr (7, [.int (iZ th), .int (iZ nb), .int (iZ nr), .ref oK, .ref oF, .ref oS, .ref oE, .int (iZ us), .int (iZ fi), .ref oY, .ref oH, .int (iZ nh), .int (iZ bb), .int (iZ ee), .int (iZ fd), .int (iZ ww), .int (iZ le), .ref oW, .ref oT, .int (iZ rd)])), (oH, .inl (cI, 600, .inl (fun j => iZ (hd j))))] sz) (va_Qi (fun (r : Int32) (_ : Unit) => r = iZ (if ((1 ≤ n ∧ n ≤ 8) ∧ nh + n ≤ 600) then 1 else 0)) (zB (dC, dI) [(cB, .byte), (cI, .int), (cJ, .long), (cZ, .boolean), (cQ, .object "LogDesk$Block")] (va_A [(o0, .inr (7, [.int (iZ th), .int (iZ nb), .int (iZ nr), .ref oK, .ref oF, .ref oS, .ref oE, .int (iZ us), .int (iZ fi), .ref oY, .ref oH, .int (iZ nh), .int (iZ bb), .int (iZ ee), .int (iZ fd), .int (iZ ww), .int (iZ le), .ref oW, .ref oT, .int (iZ rd)])), (oH, .inl (cI, 600, .inl (fun j => iZ (hd j))))] sz) [(o0, .inr (7, [.int (iZ 0), .int (iZ nb), .int (iZ nr), .ref oK, .ref oF, .ref oS, .ref oE, .int (iZ us), .int (iZ fi), .ref oY, .ref oH, .int (iZ (if ((1 ≤ n ∧ n ≤ 8) ∧ nh + n ≤ 600) then nh + n else nh)), .int (iZ bb), .int (iZ ee), .int (iZ fd), .int (iZ ww), .int (iZ le), .ref oW, .ref oT, .int (iZ rd)])), (oH, .inl (cI, 600, .inl (fun j => iZ ((if ((1 ≤ n ∧ n ≤ 8) ∧ nh + n ≤ 600) then mpU v n.toNat nh hd else hd) j))))]) (va_A [(o0, .inr (7, [.int (iZ th), .int (iZ nb), .int (iZ nr), .ref oK, .ref oF, .ref oS, .ref oE, .int (iZ us), .int (iZ fi), .ref oY, .ref oH, .int (iZ nh), .int (iZ bb), .int (iZ ee), .int (iZ fd), .int (iZ ww), .int (iZ le), .ref oW, .ref oT, .int (iZ rd)])), (oH, .inl (cI, 600, .inl (fun j => iZ (hd j))))] sz)) 0 0 (va_A [(o0, .inr (7, [.int (iZ th), .int (iZ nb), .int (iZ nr), .ref oK, .ref oF, .ref oS, .ref oE, .int (iZ us), .int (iZ fi), .ref oY, .ref oH, .int (iZ nh), .int (iZ bb), .int (iZ ee), .int (iZ fd), .int (iZ ww), .int (iZ le), .ref oW, .ref oT, .int (iZ rd)])), (oH, .inl (cI, 600, .inl (fun j => iZ (hd j))))] sz) := by
  refine Met.ofW (cc := prog_9_method_4_code) (maxL := 5) (ret := (some .boolean)) (by decide) rfl ?_
  intro p e s m args below meth c s₁ B hml hv
  obtain ⟨rfl, hsz, hP, hK, hD0, hZ⟩ := hv
  have hx := B.exec
  have hb := B.bytes
  have hr := B.returns
  have hts := atoms_spec (ws := (Cond.code y_Mo_put prog_9_method_4_code 5 (some .boolean)) :: gw) B.pre
  have htg : ∀ w ∈ gw, w.before _ s = true := fun w h => hts w (List.mem_cons_of_mem _ h)
  have hown : s.vm.findClass "LogDeskModel" = some m.cls := findClass_of_methodNamed B.named
  have hlocks := B.notSynchronized
  subst hsz
  have hD := hD0.self (sz := s.heap.size)
  generalize hAe : va_A [(o0, .inr (7, [.int (iZ th), .int (iZ nb), .int (iZ nr), .ref oK, .ref oF, .ref oS, .ref oE, .int (iZ us), .int (iZ fi), .ref oY, .ref oH, .int (iZ nh), .int (iZ bb), .int (iZ ee), .int (iZ fd), .int (iZ ww), .int (iZ le), .ref oW, .ref oT, .int (iZ rd)])), (oH, .inl (cI, 600, .inl (fun j => iZ (hd j))))] s.heap.size = A at hD ⊢
  have hRc : (headSpec ((Cond.code y_Mo_put prog_9_method_4_code 5 (some .boolean)) :: gw) ({ frames := 0, cells := 0, slots := 0, locals := 0 } : Room)).room.cells = 0 := rfl
  have hRs : (headSpec ((Cond.code y_Mo_put prog_9_method_4_code 5 (some .boolean)) :: gw) ({ frames := 0, cells := 0, slots := 0, locals := 0 } : Room)).room.slots = 0 := rfl
  generalize hQ : MQ below (va_Qi (fun (r : Int32) (_ : Unit) => r = iZ (if ((1 ≤ n ∧ n ≤ 8) ∧ nh + n ≤ 600) then 1 else 0)) (zB (dC, dI) [(cB, .byte), (cI, .int), (cJ, .long), (cZ, .boolean), (cQ, .object "LogDesk$Block")] A [(o0, .inr (7, [.int (iZ 0), .int (iZ nb), .int (iZ nr), .ref oK, .ref oF, .ref oS, .ref oE, .int (iZ us), .int (iZ fi), .ref oY, .ref oH, .int (iZ (if ((1 ≤ n ∧ n ≤ 8) ∧ nh + n ≤ 600) then nh + n else nh)), .int (iZ bb), .int (iZ ee), .int (iZ fd), .int (iZ ww), .int (iZ le), .ref oW, .ref oT, .int (iZ rd)])), (oH, .inl (cI, 600, .inl (fun j => iZ ((if ((1 ≤ n ∧ n ≤ 8) ∧ nh + n ≤ 600) then mpU v n.toNat nh hd else hd) j))))]) A) [.ref o0, .long v, .int (iZ n)].toArray s 0 0 A = QQ
  have hA : ∀ q : Nat, s.heap.size ≤ q → A q := fun q h => by rw [← hAe]; exact Or.inr h
  have hS : va_S A s.heap s.heap [] := va_S.rf
  have hP : va_P (dC, dI) vwCl [(o0, .inr (7, [.int (iZ th), .int (iZ nb), .int (iZ nr), .ref oK, .ref oF, .ref oS, .ref oE, .int (iZ us), .int (iZ fi), .ref oY, .ref oH, .int (iZ nh), .int (iZ bb), .int (iZ ee), .int (iZ fd), .int (iZ ww), .int (iZ le), .ref oW, .ref oT, .int (iZ rd)])), (oH, .inl (cI, 600, .inl (fun j => iZ (hd j))))] s.heap := hP
  have hl := lv_entry ([.ref o0, .long v, .int (iZ n)]) (n := 5) (Nat.le_of_ble_eq_true rfl)
  rw [lg_entry_eq]
  generalize (lg_sl ([.ref o0, .long v, .int (iZ n)]) ++ List.replicate (5 - (lg_sl ([.ref o0, .long v, .int (iZ n)])).length) Slot.unset).toArray = ls at hl ⊢
  have hl : lv_has ls 5 [(0, .ref o0), (1, .long v), (3, .int (iZ n))] := hl
  obtain ⟨hn1, hn2⟩ := hn0
  refine lv_aload_n hx hb d_Mo_put_0 rfl (lv_at hl 0 rfl) ?_
  refine lv_iconst (v := iZ 0) hx hb d_Mo_put_1 rfl ?_
  refine va_put (D := (dC, dI)) (ci := 7) (v := .int (iZ 0)) (ty := t_Mo 0) (C := "LogDeskModel") (T := F_Mo) (N := 20) hx hb htg hin_Mo t_Mo t_Mo_ok n_Mo hown hK hP hD hS 0 rfl rfl 0 (by decide) (htg _ k_474) (fun _ h9 => h9) rfl (by decide +kernel) rfl rfl (Nat.le_of_ble_eq_true rfl) d_Mo_put_2 (fun H locs hP hD hS => ?_)
  have hP : va_P (dC, dI) vwCl [(o0, .inr (7, [.int (iZ 0), .int (iZ nb), .int (iZ nr), .ref oK, .ref oF, .ref oS, .ref oE, .int (iZ us), .int (iZ fi), .ref oY, .ref oH, .int (iZ nh), .int (iZ bb), .int (iZ ee), .int (iZ fd), .int (iZ ww), .int (iZ le), .ref oW, .ref oT, .int (iZ rd)])), (oH, .inl (cI, 600, .inl (fun j => iZ (hd j))))] H := hP
  have hD : va_D A [(o0, .inr (7, [.int (iZ 0), .int (iZ nb), .int (iZ nr), .ref oK, .ref oF, .ref oS, .ref oE, .int (iZ us), .int (iZ fi), .ref oY, .ref oH, .int (iZ nh), .int (iZ bb), .int (iZ ee), .int (iZ fd), .int (iZ ww), .int (iZ le), .ref oW, .ref oT, .int (iZ rd)])), (oH, .inl (cI, 600, .inl (fun j => iZ (hd j))))] := hD
  refine lv_iload_n hx hb d_Mo_put_5 rfl (lv_at hl 2 rfl) ?_
  refine lv_iconst (v := iZ 1) hx hb d_Mo_put_6 rfl ?_
  refine zz_icmp_lt (tgt := 28) hx hb d_Mo_put_7 (by decide) ⟨by omega, by omega⟩ ⟨by omega, by omega⟩ (fun c_1 => ?_) (fun c_1 => ?_)
  · refine lv_iconst (v := iZ 0) hx hb d_Mo_put_28 rfl ?_
    have eW : ∀ (x0 y0 : Int) (x1 y1 : Nat → Int), x0 = y0 → x1 = y1 → ([(o0, .inr (7, [.int (iZ 0), .int (iZ nb), .int (iZ nr), .ref oK, .ref oF, .ref oS, .ref oE, .int (iZ us), .int (iZ fi), .ref oY, .ref oH, .int (iZ x0), .int (iZ bb), .int (iZ ee), .int (iZ fd), .int (iZ ww), .int (iZ le), .ref oW, .ref oT, .int (iZ rd)])), (oH, .inl (cI, 600, .inl (fun j => iZ (x1 j))))] : va_W) = [(o0, .inr (7, [.int (iZ 0), .int (iZ nb), .int (iZ nr), .ref oK, .ref oF, .ref oS, .ref oE, .int (iZ us), .int (iZ fi), .ref oY, .ref oH, .int (iZ y0), .int (iZ bb), .int (iZ ee), .int (iZ fd), .int (iZ ww), .int (iZ le), .ref oW, .ref oT, .int (iZ rd)])), (oH, .inl (cI, 600, .inl (fun j => iZ (y1 j))))] := by intros; subst_vars; rfl
    have eW := eW nh (if ((1 ≤ n ∧ n ≤ 8) ∧ nh + n ≤ 600) then nh + n else nh) hd (if ((1 ≤ n ∧ n ≤ 8) ∧ nh + n ≤ 600) then mpU v n.toNat nh hd else hd) (by omega) (by first | rfl | exact (if_pos (by omega)).symm | exact (if_neg (by omega)).symm)
    have hP : va_P (dC, dI) vwCl [(o0, .inr (7, [.int (iZ 0), .int (iZ nb), .int (iZ nr), .ref oK, .ref oF, .ref oS, .ref oE, .int (iZ us), .int (iZ fi), .ref oY, .ref oH, .int (iZ (if ((1 ≤ n ∧ n ≤ 8) ∧ nh + n ≤ 600) then nh + n else nh)), .int (iZ bb), .int (iZ ee), .int (iZ fd), .int (iZ ww), .int (iZ le), .ref oW, .ref oT, .int (iZ rd)])), (oH, .inl (cI, 600, .inl (fun j => iZ ((if ((1 ≤ n ∧ n ≤ 8) ∧ nh + n ≤ 600) then mpU v n.toNat nh hd else hd) j))))] H := eW ▸ hP
    have hD : va_D A [(o0, .inr (7, [.int (iZ 0), .int (iZ nb), .int (iZ nr), .ref oK, .ref oF, .ref oS, .ref oE, .int (iZ us), .int (iZ fi), .ref oY, .ref oH, .int (iZ (if ((1 ≤ n ∧ n ≤ 8) ∧ nh + n ≤ 600) then nh + n else nh)), .int (iZ bb), .int (iZ ee), .int (iZ fd), .int (iZ ww), .int (iZ le), .ref oW, .ref oT, .int (iZ rd)])), (oH, .inl (cI, 600, .inl (fun j => iZ ((if ((1 ≤ n ∧ n ≤ 8) ∧ nh + n ≤ 600) then mpU v n.toNat nh hd else hd) j))))] := eW ▸ hD
    subst hQ
    exact W.zret (v := (iZ 0)) hx hb hr rfl (fun t ht hW => ⟨⟨_, (), rfl, (congrArg iZ (by omega)), by rw [ht]; exact hP, va_K.moved hW.alike hK, hAe ▸ hD⟩, hAe ▸ hS.F ht⟩) (hAe ▸ hS.2.2) d_Mo_put_29
  · refine lv_iload_n hx hb d_Mo_put_10 rfl (lv_at hl 2 rfl) ?_
    refine lv_bipush (v := iZ 8) hx hb d_Mo_put_11 (by decide) ?_
    refine zz_icmp_gt (tgt := 28) hx hb d_Mo_put_13 (by decide) ⟨by omega, by omega⟩ ⟨by omega, by omega⟩ (fun c_2 => ?_) (fun c_2 => ?_)
    · refine lv_iconst (v := iZ 0) hx hb d_Mo_put_28 rfl ?_
      have eW : ∀ (x0 y0 : Int) (x1 y1 : Nat → Int), x0 = y0 → x1 = y1 → ([(o0, .inr (7, [.int (iZ 0), .int (iZ nb), .int (iZ nr), .ref oK, .ref oF, .ref oS, .ref oE, .int (iZ us), .int (iZ fi), .ref oY, .ref oH, .int (iZ x0), .int (iZ bb), .int (iZ ee), .int (iZ fd), .int (iZ ww), .int (iZ le), .ref oW, .ref oT, .int (iZ rd)])), (oH, .inl (cI, 600, .inl (fun j => iZ (x1 j))))] : va_W) = [(o0, .inr (7, [.int (iZ 0), .int (iZ nb), .int (iZ nr), .ref oK, .ref oF, .ref oS, .ref oE, .int (iZ us), .int (iZ fi), .ref oY, .ref oH, .int (iZ y0), .int (iZ bb), .int (iZ ee), .int (iZ fd), .int (iZ ww), .int (iZ le), .ref oW, .ref oT, .int (iZ rd)])), (oH, .inl (cI, 600, .inl (fun j => iZ (y1 j))))] := by intros; subst_vars; rfl
      have eW := eW nh (if ((1 ≤ n ∧ n ≤ 8) ∧ nh + n ≤ 600) then nh + n else nh) hd (if ((1 ≤ n ∧ n ≤ 8) ∧ nh + n ≤ 600) then mpU v n.toNat nh hd else hd) (by omega) (by first | rfl | exact (if_pos (by omega)).symm | exact (if_neg (by omega)).symm)
      have hP : va_P (dC, dI) vwCl [(o0, .inr (7, [.int (iZ 0), .int (iZ nb), .int (iZ nr), .ref oK, .ref oF, .ref oS, .ref oE, .int (iZ us), .int (iZ fi), .ref oY, .ref oH, .int (iZ (if ((1 ≤ n ∧ n ≤ 8) ∧ nh + n ≤ 600) then nh + n else nh)), .int (iZ bb), .int (iZ ee), .int (iZ fd), .int (iZ ww), .int (iZ le), .ref oW, .ref oT, .int (iZ rd)])), (oH, .inl (cI, 600, .inl (fun j => iZ ((if ((1 ≤ n ∧ n ≤ 8) ∧ nh + n ≤ 600) then mpU v n.toNat nh hd else hd) j))))] H := eW ▸ hP
      have hD : va_D A [(o0, .inr (7, [.int (iZ 0), .int (iZ nb), .int (iZ nr), .ref oK, .ref oF, .ref oS, .ref oE, .int (iZ us), .int (iZ fi), .ref oY, .ref oH, .int (iZ (if ((1 ≤ n ∧ n ≤ 8) ∧ nh + n ≤ 600) then nh + n else nh)), .int (iZ bb), .int (iZ ee), .int (iZ fd), .int (iZ ww), .int (iZ le), .ref oW, .ref oT, .int (iZ rd)])), (oH, .inl (cI, 600, .inl (fun j => iZ ((if ((1 ≤ n ∧ n ≤ 8) ∧ nh + n ≤ 600) then mpU v n.toNat nh hd else hd) j))))] := eW ▸ hD
      subst hQ
      exact W.zret (v := (iZ 0)) hx hb hr rfl (fun t ht hW => ⟨⟨_, (), rfl, (congrArg iZ (by omega)), by rw [ht]; exact hP, va_K.moved hW.alike hK, hAe ▸ hD⟩, hAe ▸ hS.F ht⟩) (hAe ▸ hS.2.2) d_Mo_put_29
    · refine lv_aload_n hx hb d_Mo_put_16 rfl (lv_at hl 0 rfl) ?_
      refine va_get (D := (dC, dI)) (ci := 7) (v := .int (iZ nh)) (C := "LogDeskModel") (T := F_Mo) (N := 20) hx hb htg hin_Mo hown hK hP 0 rfl rfl 11 (by decide) (htg _ k_485) (fun _ h9 => h9) rfl d_Mo_put_17 ?_
      refine lv_iload_n hx hb d_Mo_put_20 rfl (lv_at hl 2 rfl) ?_
      refine zz_iadd hx hb d_Mo_put_21 ?_
      refine lv_sipush (v := iZ 600) hx hb d_Mo_put_22 (by decide) ?_
      refine zz_icmp_le (tgt := 30) hx hb d_Mo_put_25 (by decide) ⟨by omega, by omega⟩ ⟨by omega, by omega⟩ (fun c_3 => ?_) (fun c_3 => ?_)
      · refine lv_iload_n hx hb d_Mo_put_30 rfl (lv_at hl 2 rfl) ?_
        refine lv_iconst (v := iZ 1) hx hb d_Mo_put_31 rfl ?_
        refine zz_isub hx hb d_Mo_put_32 ?_
        refine lv_istore (lv' := [(4, .int (iZ (n - 1))), (0, .ref o0), (1, .long v), (3, .int (iZ n))]) hx hb d_Mo_put_33 hl (by decide) rfl (fun ls hl => ?_)
        have loop35 : ∀ (nn : Nat) (i : Int) (k : Int) (w : Nat → Int) (H : Heap) (locs : List Loc) (ls : Array Slot), (-1 ≤ i ∧ i < n) → (k = nh + (n - 1 - i)) → (mpU v (i + 1).toNat k w = mpU v n.toNat nh hd) → (i + 1 < (nn : Int)) → va_P (dC, dI) vwCl [(o0, .inr (7, [.int (iZ 0), .int (iZ nb), .int (iZ nr), .ref oK, .ref oF, .ref oS, .ref oE, .int (iZ us), .int (iZ fi), .ref oY, .ref oH, .int (iZ k), .int (iZ bb), .int (iZ ee), .int (iZ fd), .int (iZ ww), .int (iZ le), .ref oW, .ref oT, .int (iZ rd)])), (oH, .inl (cI, 600, .inl (fun j => iZ (w j))))] H → va_D A [(o0, .inr (7, [.int (iZ 0), .int (iZ nb), .int (iZ nr), .ref oK, .ref oF, .ref oS, .ref oE, .int (iZ us), .int (iZ fi), .ref oY, .ref oH, .int (iZ k), .int (iZ bb), .int (iZ ee), .int (iZ fd), .int (iZ ww), .int (iZ le), .ref oW, .ref oT, .int (iZ rd)])), (oH, .inl (cI, 600, .inl (fun j => iZ (w j))))] → va_S A s.heap H locs → lv_has ls 5 [(0, .ref o0), (1, .long v), (3, .int (iZ n)), (4, .int (iZ i))] → W p l e (headSpec ((Cond.code y_Mo_put prog_9_method_4_code 5 (some .boolean)) :: gw) ({ frames := 0, cells := 0, slots := 0, locals := 0 } : Room)).room s m [.ref o0, .long v, .int (iZ n)].toArray below meth c H locs 0 0 QQ (F0 m 35 ls []) := by
          intro nn
          induction nn with
          | zero => intro i k w H locs ls hi hk hw hm hP hD hS hl; exfalso; omega
          | succ nn ih =>
            intro i k w H locs ls hi hk hw hm hP hD hS hl
            refine lv_iload hx hb d_Mo_put_35 (lv_at hl 3 rfl) ?_
            refine zz_if_lt (tgt := 77) hx hb d_Mo_put_37 (by decide) ⟨by omega, by omega⟩ (fun c_4 => ?_) (fun c_4 => ?_)
            · refine lv_iconst (v := iZ 1) hx hb d_Mo_put_77 rfl ?_
              have eW : ∀ (x0 y0 : Int) (x1 y1 : Nat → Int), x0 = y0 → x1 = y1 → ([(o0, .inr (7, [.int (iZ 0), .int (iZ nb), .int (iZ nr), .ref oK, .ref oF, .ref oS, .ref oE, .int (iZ us), .int (iZ fi), .ref oY, .ref oH, .int (iZ x0), .int (iZ bb), .int (iZ ee), .int (iZ fd), .int (iZ ww), .int (iZ le), .ref oW, .ref oT, .int (iZ rd)])), (oH, .inl (cI, 600, .inl (fun j => iZ (x1 j))))] : va_W) = [(o0, .inr (7, [.int (iZ 0), .int (iZ nb), .int (iZ nr), .ref oK, .ref oF, .ref oS, .ref oE, .int (iZ us), .int (iZ fi), .ref oY, .ref oH, .int (iZ y0), .int (iZ bb), .int (iZ ee), .int (iZ fd), .int (iZ ww), .int (iZ le), .ref oW, .ref oT, .int (iZ rd)])), (oH, .inl (cI, 600, .inl (fun j => iZ (y1 j))))] := by intros; subst_vars; rfl
              have eW := eW k (if ((1 ≤ n ∧ n ≤ 8) ∧ nh + n ≤ 600) then nh + n else nh) w (if ((1 ≤ n ∧ n ≤ 8) ∧ nh + n ≤ 600) then mpU v n.toNat nh hd else hd) (by omega) (by rw [if_pos (by omega), ← hw, show (i + 1).toNat = 0 by omega]; rfl)
              have hP : va_P (dC, dI) vwCl [(o0, .inr (7, [.int (iZ 0), .int (iZ nb), .int (iZ nr), .ref oK, .ref oF, .ref oS, .ref oE, .int (iZ us), .int (iZ fi), .ref oY, .ref oH, .int (iZ (if ((1 ≤ n ∧ n ≤ 8) ∧ nh + n ≤ 600) then nh + n else nh)), .int (iZ bb), .int (iZ ee), .int (iZ fd), .int (iZ ww), .int (iZ le), .ref oW, .ref oT, .int (iZ rd)])), (oH, .inl (cI, 600, .inl (fun j => iZ ((if ((1 ≤ n ∧ n ≤ 8) ∧ nh + n ≤ 600) then mpU v n.toNat nh hd else hd) j))))] H := eW ▸ hP
              have hD : va_D A [(o0, .inr (7, [.int (iZ 0), .int (iZ nb), .int (iZ nr), .ref oK, .ref oF, .ref oS, .ref oE, .int (iZ us), .int (iZ fi), .ref oY, .ref oH, .int (iZ (if ((1 ≤ n ∧ n ≤ 8) ∧ nh + n ≤ 600) then nh + n else nh)), .int (iZ bb), .int (iZ ee), .int (iZ fd), .int (iZ ww), .int (iZ le), .ref oW, .ref oT, .int (iZ rd)])), (oH, .inl (cI, 600, .inl (fun j => iZ ((if ((1 ≤ n ∧ n ≤ 8) ∧ nh + n ≤ 600) then mpU v n.toNat nh hd else hd) j))))] := eW ▸ hD
              subst hQ
              exact W.zret (v := (iZ 1)) hx hb hr rfl (fun t ht hW => ⟨⟨_, (), rfl, (congrArg iZ (by omega)), by rw [ht]; exact hP, va_K.moved hW.alike hK, hAe ▸ hD⟩, hAe ▸ hS.F ht⟩) (hAe ▸ hS.2.2) d_Mo_put_78
            · refine lv_aload_n hx hb d_Mo_put_40 rfl (lv_at hl 0 rfl) ?_
              refine va_get (D := (dC, dI)) (ci := 7) (v := .ref oH) (C := "LogDeskModel") (T := F_Mo) (N := 20) hx hb htg hin_Mo hown hK hP 0 rfl rfl 10 (by decide) (htg _ k_484) (fun _ h9 => h9) rfl d_Mo_put_41 ?_
              refine lv_aload_n hx hb d_Mo_put_44 rfl (lv_at hl 0 rfl) ?_
              refine va_get (D := (dC, dI)) (ci := 7) (v := .int (iZ k)) (C := "LogDeskModel") (T := F_Mo) (N := 20) hx hb htg hin_Mo hown hK hP 0 rfl rfl 11 (by decide) (htg _ k_485) (fun _ h9 => h9) rfl d_Mo_put_45 ?_
              refine lv_lload_n hx hb d_Mo_put_48 rfl (lv_at hl 1 rfl) ?_
              refine lv_bipush (v := iZ 8) hx hb d_Mo_put_49 (by decide) ?_
              refine lv_iload hx hb d_Mo_put_51 (lv_at hl 3 rfl) ?_
              refine zz_imul hx hb d_Mo_put_53 ?_
              refine lv_lshr hx hb d_Mo_put_54 rfl ?_
              refine lv_ldc2 hx hb hown (htg _ k_544) d_Mo_put_55 ?_
              refine lv_land hx hb d_Mo_put_58 ?_
              refine zz_l2i hx hb d_Mo_put_59 ?_
              refine zz_iast hx hb hK hP hD hS 1 1 rfl rfl (by omega) (by omega) (by omega) d_Mo_put_60 (fun H locs hP hD hS => ?_)
              have hP : va_P (dC, dI) vwCl [(o0, .inr (7, [.int (iZ 0), .int (iZ nb), .int (iZ nr), .ref oK, .ref oF, .ref oS, .ref oE, .int (iZ us), .int (iZ fi), .ref oY, .ref oH, .int (iZ k), .int (iZ bb), .int (iZ ee), .int (iZ fd), .int (iZ ww), .int (iZ le), .ref oW, .ref oT, .int (iZ rd)])), (oH, .inl (cI, 600, .inl (fun j => iZ ((va_up w (k).toNat ((((v >>> (((iZ (8 * i))).toInt64 &&& 63)) &&& (255 : Int64))).toInt32.toInt)) j))))] H := hP
              have hD : va_D A [(o0, .inr (7, [.int (iZ 0), .int (iZ nb), .int (iZ nr), .ref oK, .ref oF, .ref oS, .ref oE, .int (iZ us), .int (iZ fi), .ref oY, .ref oH, .int (iZ k), .int (iZ bb), .int (iZ ee), .int (iZ fd), .int (iZ ww), .int (iZ le), .ref oW, .ref oT, .int (iZ rd)])), (oH, .inl (cI, 600, .inl (fun j => iZ ((va_up w (k).toNat ((((v >>> (((iZ (8 * i))).toInt64 &&& 63)) &&& (255 : Int64))).toInt32.toInt)) j))))] := hD
              refine lv_aload_n hx hb d_Mo_put_61 rfl (lv_at hl 0 rfl) ?_
              refine lv_dup hx hb d_Mo_put_62 rfl ?_
              refine va_get (D := (dC, dI)) (ci := 7) (v := .int (iZ k)) (C := "LogDeskModel") (T := F_Mo) (N := 20) hx hb htg hin_Mo hown hK hP 0 rfl rfl 11 (by decide) (htg _ k_485) (fun _ h9 => h9) rfl d_Mo_put_63 ?_
              refine lv_iconst (v := iZ 1) hx hb d_Mo_put_66 rfl ?_
              refine zz_iadd hx hb d_Mo_put_67 ?_
              refine va_put (D := (dC, dI)) (ci := 7) (v := .int (iZ (k + 1))) (ty := t_Mo 11) (C := "LogDeskModel") (T := F_Mo) (N := 20) hx hb htg hin_Mo t_Mo t_Mo_ok n_Mo hown hK hP hD hS 0 rfl rfl 11 (by decide) (htg _ k_485) (fun _ h9 => h9) rfl (by decide +kernel) rfl rfl (Nat.le_of_ble_eq_true rfl) d_Mo_put_68 (fun H locs hP hD hS => ?_)
              have hP : va_P (dC, dI) vwCl [(o0, .inr (7, [.int (iZ 0), .int (iZ nb), .int (iZ nr), .ref oK, .ref oF, .ref oS, .ref oE, .int (iZ us), .int (iZ fi), .ref oY, .ref oH, .int (iZ (k + 1)), .int (iZ bb), .int (iZ ee), .int (iZ fd), .int (iZ ww), .int (iZ le), .ref oW, .ref oT, .int (iZ rd)])), (oH, .inl (cI, 600, .inl (fun j => iZ ((va_up w (k).toNat ((((v >>> (((iZ (8 * i))).toInt64 &&& 63)) &&& (255 : Int64))).toInt32.toInt)) j))))] H := hP
              have hD : va_D A [(o0, .inr (7, [.int (iZ 0), .int (iZ nb), .int (iZ nr), .ref oK, .ref oF, .ref oS, .ref oE, .int (iZ us), .int (iZ fi), .ref oY, .ref oH, .int (iZ (k + 1)), .int (iZ bb), .int (iZ ee), .int (iZ fd), .int (iZ ww), .int (iZ le), .ref oW, .ref oT, .int (iZ rd)])), (oH, .inl (cI, 600, .inl (fun j => iZ ((va_up w (k).toNat ((((v >>> (((iZ (8 * i))).toInt64 &&& 63)) &&& (255 : Int64))).toInt32.toInt)) j))))] := hD
              refine lv_iinc (v := iZ (i + (-1))) (lv' := [(4, .int (iZ (i + (-1)))), (0, .ref o0), (1, .long v), (3, .int (iZ n))]) hx hb d_Mo_put_71 hl (k := 3) rfl (iZ_add _ _) (by decide) rfl (fun ls hl => ?_)
              refine lv_goto (tgt := 35) hx hb d_Mo_put_74 (by decide) ?_
              exact ih (i + (-1)) (k + 1) (va_up w (k).toNat ((((v >>> (((iZ (8 * i))).toInt64 &&& 63)) &&& (255 : Int64))).toInt32.toInt)) H _ ls (by omega) (by omega) (by rw [← hw, mpU_succ (i := i) (k := k) (w := w) (by omega), show (i + -1 + 1).toNat = i.toNat by omega]; rfl) (by omega) hP hD hS (lv_sub hl [1, 2, 3, 0] rfl)
        exact loop35 (Int.toNat ((n - 1) + 1) + 1) (n - 1) nh hd H _ ls (by omega) (by omega) (by congr 1; omega) (by omega) hP hD hS (lv_sub hl [1, 2, 3, 0] rfl)
      · refine lv_iconst (v := iZ 0) hx hb d_Mo_put_28 rfl ?_
        have eW : ∀ (x0 y0 : Int) (x1 y1 : Nat → Int), x0 = y0 → x1 = y1 → ([(o0, .inr (7, [.int (iZ 0), .int (iZ nb), .int (iZ nr), .ref oK, .ref oF, .ref oS, .ref oE, .int (iZ us), .int (iZ fi), .ref oY, .ref oH, .int (iZ x0), .int (iZ bb), .int (iZ ee), .int (iZ fd), .int (iZ ww), .int (iZ le), .ref oW, .ref oT, .int (iZ rd)])), (oH, .inl (cI, 600, .inl (fun j => iZ (x1 j))))] : va_W) = [(o0, .inr (7, [.int (iZ 0), .int (iZ nb), .int (iZ nr), .ref oK, .ref oF, .ref oS, .ref oE, .int (iZ us), .int (iZ fi), .ref oY, .ref oH, .int (iZ y0), .int (iZ bb), .int (iZ ee), .int (iZ fd), .int (iZ ww), .int (iZ le), .ref oW, .ref oT, .int (iZ rd)])), (oH, .inl (cI, 600, .inl (fun j => iZ (y1 j))))] := by intros; subst_vars; rfl
        have eW := eW nh (if ((1 ≤ n ∧ n ≤ 8) ∧ nh + n ≤ 600) then nh + n else nh) hd (if ((1 ≤ n ∧ n ≤ 8) ∧ nh + n ≤ 600) then mpU v n.toNat nh hd else hd) (by omega) (by first | rfl | exact (if_pos (by omega)).symm | exact (if_neg (by omega)).symm)
        have hP : va_P (dC, dI) vwCl [(o0, .inr (7, [.int (iZ 0), .int (iZ nb), .int (iZ nr), .ref oK, .ref oF, .ref oS, .ref oE, .int (iZ us), .int (iZ fi), .ref oY, .ref oH, .int (iZ (if ((1 ≤ n ∧ n ≤ 8) ∧ nh + n ≤ 600) then nh + n else nh)), .int (iZ bb), .int (iZ ee), .int (iZ fd), .int (iZ ww), .int (iZ le), .ref oW, .ref oT, .int (iZ rd)])), (oH, .inl (cI, 600, .inl (fun j => iZ ((if ((1 ≤ n ∧ n ≤ 8) ∧ nh + n ≤ 600) then mpU v n.toNat nh hd else hd) j))))] H := eW ▸ hP
        have hD : va_D A [(o0, .inr (7, [.int (iZ 0), .int (iZ nb), .int (iZ nr), .ref oK, .ref oF, .ref oS, .ref oE, .int (iZ us), .int (iZ fi), .ref oY, .ref oH, .int (iZ (if ((1 ≤ n ∧ n ≤ 8) ∧ nh + n ≤ 600) then nh + n else nh)), .int (iZ bb), .int (iZ ee), .int (iZ fd), .int (iZ ww), .int (iZ le), .ref oW, .ref oT, .int (iZ rd)])), (oH, .inl (cI, 600, .inl (fun j => iZ ((if ((1 ≤ n ∧ n ≤ 8) ∧ nh + n ≤ 600) then mpU v n.toNat nh hd else hd) j))))] := eW ▸ hD
        subst hQ
        exact W.zret (v := (iZ 0)) hx hb hr rfl (fun t ht hW => ⟨⟨_, (), rfl, (congrArg iZ (by omega)), by rw [ht]; exact hP, va_K.moved hW.alike hK, hAe ▸ hD⟩, hAe ▸ hS.F ht⟩) (hAe ▸ hS.2.2) d_Mo_put_29
set_option maxHeartbeats 4000000 in
set_option maxRecDepth 100000 in
theorem c_Mo_fill (l : Launch) (dC : Nat → ClassId) (dI : Nat → Nat → Nat) (cB : ClassId) (cI : ClassId) (cJ : ClassId) (cZ : ClassId) (cQ : ClassId) (o0 oK oF oS oE oY oH oW oT : Nat) (sz : Nat) (th : Int) (nb : Int) (nr : Int) (us : Int) (fi : Int) (nh : Int) (bb : Int) (ee : Int) (fd : Int) (ww : Int) (le : Int) (rd : Int) (hd : Nat → Int) (v : Int) (n : Int) (hih : 0 ≤ nh ∧ nh ≤ 600) (hn0 : iB n) : Met l y_Mo_fill ((Cond.code y_Mo_fill prog_9_method_5_code 4 (some .boolean)) :: gw) ({ frames := 0, cells := 0, slots := 0, locals := 0 } : Room) (zPc (dC, dI) [(cB, .byte), (cI, .int), (cJ, .long), (cZ, .boolean), (cQ, .object "LogDesk$Block")] [.ref o0, .int (iZ v), .int (iZ n)] [(o0, .inr (7, [.int (iZ th), .int (iZ nb), .int (iZ nr), .ref oK, .ref oF, .ref oS, .ref oE, .int (iZ us), .int (iZ fi), .ref oY, .ref oH, .int (iZ nh), .int (iZ bb), .int (iZ ee), .int (iZ fd), .int (iZ ww), .int (iZ le), .ref oW, .ref oT, .int (iZ rd)])), (oH, .inl (cI, 600, .inl (fun j => iZ (hd j))))] sz) (va_Qi (fun (r : Int32) (_ : Unit) => r = iZ (if ((1 ≤ n ∧ n ≤ 600) ∧ nh + n ≤ 600) then 1 else 0)) (zB (dC, dI) [(cB, .byte), (cI, .int), (cJ, .long), (cZ, .boolean), (cQ, .object "LogDesk$Block")] (va_A [(o0, .inr (7, [.int (iZ th), .int (iZ nb), .int (iZ nr), .ref oK, .ref oF, .ref oS, .ref oE, .int (iZ us), .int (iZ fi), .ref oY, .ref oH, .int (iZ nh), .int (iZ bb), .int (iZ ee), .int (iZ fd), .int (iZ ww), .int (iZ le), .ref oW, .ref oT, .int (iZ rd)])), (oH, .inl (cI, 600, .inl (fun j => iZ (hd j))))] sz) [(o0, .inr (7, [.int (iZ 0), .int (iZ nb), .int (iZ nr), .ref oK, .ref oF, .ref oS, .ref oE, .int (iZ us), .int (iZ fi), .ref oY, .ref oH, .int (iZ (if ((1 ≤ n ∧ n ≤ 600) ∧ nh + n ≤ 600) then nh + n else nh)), .int (iZ bb), .int (iZ ee), .int (iZ fd), .int (iZ ww), .int (iZ le), .ref oW, .ref oT, .int (iZ rd)])), (oH, .inl (cI, 600, .inl (fun j => iZ ((if ((1 ≤ n ∧ n ≤ 600) ∧ nh + n ≤ 600) then (fun j : Nat => if nh ≤ (j : Int) ∧ (j : Int) < nh + n then v % 256 else hd j) else hd) j))))]) (va_A [(o0, .inr (7, [.int (iZ th), .int (iZ nb), .int (iZ nr), .ref oK, .ref oF, .ref oS, .ref oE, .int (iZ us), .int (iZ fi), .ref oY, .ref oH, .int (iZ nh), .int (iZ bb), .int (iZ ee), .int (iZ fd), .int (iZ ww), .int (iZ le), .ref oW, .ref oT, .int (iZ rd)])), (oH, .inl (cI, 600, .inl (fun j => iZ (hd j))))] sz)) 0 0 (va_A [(o0, .inr (7, [.int (iZ th), .int (iZ nb), .int (iZ nr), .ref oK, .ref oF, .ref oS, .ref oE, .int (iZ us), .int (iZ fi), .ref oY, .ref oH, .int (iZ nh), .int (iZ bb), .int (iZ ee), .int (iZ fd), .int (iZ ww), .int (iZ le), .ref oW, .ref oT, .int (iZ rd)])), (oH, .inl (cI, 600, .inl (fun j => iZ (hd j))))] sz) := by
  refine Met.ofW (cc := prog_9_method_5_code) (maxL := 4) (ret := (some .boolean)) (by decide) rfl ?_
  intro p e s m args below meth c s₁ B hml hv
  obtain ⟨rfl, hsz, hP, hK, hD0, hZ⟩ := hv
  have hx := B.exec
  have hb := B.bytes
  have hr := B.returns
  have hts := atoms_spec (ws := (Cond.code y_Mo_fill prog_9_method_5_code 4 (some .boolean)) :: gw) B.pre
  have htg : ∀ w ∈ gw, w.before _ s = true := fun w h => hts w (List.mem_cons_of_mem _ h)
  have hown : s.vm.findClass "LogDeskModel" = some m.cls := findClass_of_methodNamed B.named
  have hlocks := B.notSynchronized
  subst hsz
  have hD := hD0.self (sz := s.heap.size)
  generalize hAe : va_A [(o0, .inr (7, [.int (iZ th), .int (iZ nb), .int (iZ nr), .ref oK, .ref oF, .ref oS, .ref oE, .int (iZ us), .int (iZ fi), .ref oY, .ref oH, .int (iZ nh), .int (iZ bb), .int (iZ ee), .int (iZ fd), .int (iZ ww), .int (iZ le), .ref oW, .ref oT, .int (iZ rd)])), (oH, .inl (cI, 600, .inl (fun j => iZ (hd j))))] s.heap.size = A at hD ⊢
  have hRc : (headSpec ((Cond.code y_Mo_fill prog_9_method_5_code 4 (some .boolean)) :: gw) ({ frames := 0, cells := 0, slots := 0, locals := 0 } : Room)).room.cells = 0 := rfl
  have hRs : (headSpec ((Cond.code y_Mo_fill prog_9_method_5_code 4 (some .boolean)) :: gw) ({ frames := 0, cells := 0, slots := 0, locals := 0 } : Room)).room.slots = 0 := rfl
  generalize hQ : MQ below (va_Qi (fun (r : Int32) (_ : Unit) => r = iZ (if ((1 ≤ n ∧ n ≤ 600) ∧ nh + n ≤ 600) then 1 else 0)) (zB (dC, dI) [(cB, .byte), (cI, .int), (cJ, .long), (cZ, .boolean), (cQ, .object "LogDesk$Block")] A [(o0, .inr (7, [.int (iZ 0), .int (iZ nb), .int (iZ nr), .ref oK, .ref oF, .ref oS, .ref oE, .int (iZ us), .int (iZ fi), .ref oY, .ref oH, .int (iZ (if ((1 ≤ n ∧ n ≤ 600) ∧ nh + n ≤ 600) then nh + n else nh)), .int (iZ bb), .int (iZ ee), .int (iZ fd), .int (iZ ww), .int (iZ le), .ref oW, .ref oT, .int (iZ rd)])), (oH, .inl (cI, 600, .inl (fun j => iZ ((if ((1 ≤ n ∧ n ≤ 600) ∧ nh + n ≤ 600) then (fun j : Nat => if nh ≤ (j : Int) ∧ (j : Int) < nh + n then v % 256 else hd j) else hd) j))))]) A) [.ref o0, .int (iZ v), .int (iZ n)].toArray s 0 0 A = QQ
  have hA : ∀ q : Nat, s.heap.size ≤ q → A q := fun q h => by rw [← hAe]; exact Or.inr h
  have hS : va_S A s.heap s.heap [] := va_S.rf
  have hP : va_P (dC, dI) vwCl [(o0, .inr (7, [.int (iZ th), .int (iZ nb), .int (iZ nr), .ref oK, .ref oF, .ref oS, .ref oE, .int (iZ us), .int (iZ fi), .ref oY, .ref oH, .int (iZ nh), .int (iZ bb), .int (iZ ee), .int (iZ fd), .int (iZ ww), .int (iZ le), .ref oW, .ref oT, .int (iZ rd)])), (oH, .inl (cI, 600, .inl (fun j => iZ (hd j))))] s.heap := hP
  have hl := lv_entry ([.ref o0, .int (iZ v), .int (iZ n)]) (n := 4) (Nat.le_of_ble_eq_true rfl)
  rw [lg_entry_eq]
  generalize (lg_sl ([.ref o0, .int (iZ v), .int (iZ n)]) ++ List.replicate (4 - (lg_sl ([.ref o0, .int (iZ v), .int (iZ n)])).length) Slot.unset).toArray = ls at hl ⊢
  have hl : lv_has ls 4 [(0, .ref o0), (1, .int (iZ v)), (2, .int (iZ n))] := hl
  obtain ⟨hn1, hn2⟩ := hn0
  refine lv_aload_n hx hb d_Mo_fill_0 rfl (lv_at hl 0 rfl) ?_
  refine lv_iconst (v := iZ 0) hx hb d_Mo_fill_1 rfl ?_
  refine va_put (D := (dC, dI)) (ci := 7) (v := .int (iZ 0)) (ty := t_Mo 0) (C := "LogDeskModel") (T := F_Mo) (N := 20) hx hb htg hin_Mo t_Mo t_Mo_ok n_Mo hown hK hP hD hS 0 rfl rfl 0 (by decide) (htg _ k_474) (fun _ h9 => h9) rfl (by decide +kernel) rfl rfl (Nat.le_of_ble_eq_true rfl) d_Mo_fill_2 (fun H locs hP hD hS => ?_)
  have hP : va_P (dC, dI) vwCl [(o0, .inr (7, [.int (iZ 0), .int (iZ nb), .int (iZ nr), .ref oK, .ref oF, .ref oS, .ref oE, .int (iZ us), .int (iZ fi), .ref oY, .ref oH, .int (iZ nh), .int (iZ bb), .int (iZ ee), .int (iZ fd), .int (iZ ww), .int (iZ le), .ref oW, .ref oT, .int (iZ rd)])), (oH, .inl (cI, 600, .inl (fun j => iZ (hd j))))] H := hP
  have hD : va_D A [(o0, .inr (7, [.int (iZ 0), .int (iZ nb), .int (iZ nr), .ref oK, .ref oF, .ref oS, .ref oE, .int (iZ us), .int (iZ fi), .ref oY, .ref oH, .int (iZ nh), .int (iZ bb), .int (iZ ee), .int (iZ fd), .int (iZ ww), .int (iZ le), .ref oW, .ref oT, .int (iZ rd)])), (oH, .inl (cI, 600, .inl (fun j => iZ (hd j))))] := hD
  refine lv_iload_n hx hb d_Mo_fill_5 rfl (lv_at hl 2 rfl) ?_
  refine lv_iconst (v := iZ 1) hx hb d_Mo_fill_6 rfl ?_
  refine zz_icmp_lt (tgt := 29) hx hb d_Mo_fill_7 (by decide) ⟨by omega, by omega⟩ ⟨by omega, by omega⟩ (fun c_1 => ?_) (fun c_1 => ?_)
  · refine lv_iconst (v := iZ 0) hx hb d_Mo_fill_29 rfl ?_
    have eW : ∀ (x0 y0 : Int) (x1 y1 : Nat → Int), x0 = y0 → x1 = y1 → ([(o0, .inr (7, [.int (iZ 0), .int (iZ nb), .int (iZ nr), .ref oK, .ref oF, .ref oS, .ref oE, .int (iZ us), .int (iZ fi), .ref oY, .ref oH, .int (iZ x0), .int (iZ bb), .int (iZ ee), .int (iZ fd), .int (iZ ww), .int (iZ le), .ref oW, .ref oT, .int (iZ rd)])), (oH, .inl (cI, 600, .inl (fun j => iZ (x1 j))))] : va_W) = [(o0, .inr (7, [.int (iZ 0), .int (iZ nb), .int (iZ nr), .ref oK, .ref oF, .ref oS, .ref oE, .int (iZ us), .int (iZ fi), .ref oY, .ref oH, .int (iZ y0), .int (iZ bb), .int (iZ ee), .int (iZ fd), .int (iZ ww), .int (iZ le), .ref oW, .ref oT, .int (iZ rd)])), (oH, .inl (cI, 600, .inl (fun j => iZ (y1 j))))] := by intros; subst_vars; rfl
    have eW := eW nh (if ((1 ≤ n ∧ n ≤ 600) ∧ nh + n ≤ 600) then nh + n else nh) hd (if ((1 ≤ n ∧ n ≤ 600) ∧ nh + n ≤ 600) then (fun j : Nat => if nh ≤ (j : Int) ∧ (j : Int) < nh + n then v % 256 else hd j) else hd) (by omega) (by first | rfl | exact (if_pos (by omega)).symm | exact (if_neg (by omega)).symm)
    have hP : va_P (dC, dI) vwCl [(o0, .inr (7, [.int (iZ 0), .int (iZ nb), .int (iZ nr), .ref oK, .ref oF, .ref oS, .ref oE, .int (iZ us), .int (iZ fi), .ref oY, .ref oH, .int (iZ (if ((1 ≤ n ∧ n ≤ 600) ∧ nh + n ≤ 600) then nh + n else nh)), .int (iZ bb), .int (iZ ee), .int (iZ fd), .int (iZ ww), .int (iZ le), .ref oW, .ref oT, .int (iZ rd)])), (oH, .inl (cI, 600, .inl (fun j => iZ ((if ((1 ≤ n ∧ n ≤ 600) ∧ nh + n ≤ 600) then (fun j : Nat => if nh ≤ (j : Int) ∧ (j : Int) < nh + n then v % 256 else hd j) else hd) j))))] H := eW ▸ hP
    have hD : va_D A [(o0, .inr (7, [.int (iZ 0), .int (iZ nb), .int (iZ nr), .ref oK, .ref oF, .ref oS, .ref oE, .int (iZ us), .int (iZ fi), .ref oY, .ref oH, .int (iZ (if ((1 ≤ n ∧ n ≤ 600) ∧ nh + n ≤ 600) then nh + n else nh)), .int (iZ bb), .int (iZ ee), .int (iZ fd), .int (iZ ww), .int (iZ le), .ref oW, .ref oT, .int (iZ rd)])), (oH, .inl (cI, 600, .inl (fun j => iZ ((if ((1 ≤ n ∧ n ≤ 600) ∧ nh + n ≤ 600) then (fun j : Nat => if nh ≤ (j : Int) ∧ (j : Int) < nh + n then v % 256 else hd j) else hd) j))))] := eW ▸ hD
    subst hQ
    exact W.zret (v := (iZ 0)) hx hb hr rfl (fun t ht hW => ⟨⟨_, (), rfl, (congrArg iZ (by omega)), by rw [ht]; exact hP, va_K.moved hW.alike hK, hAe ▸ hD⟩, hAe ▸ hS.F ht⟩) (hAe ▸ hS.2.2) d_Mo_fill_30
  · refine lv_iload_n hx hb d_Mo_fill_10 rfl (lv_at hl 2 rfl) ?_
    refine lv_sipush (v := iZ 600) hx hb d_Mo_fill_11 (by decide) ?_
    refine zz_icmp_gt (tgt := 29) hx hb d_Mo_fill_14 (by decide) ⟨by omega, by omega⟩ ⟨by omega, by omega⟩ (fun c_2 => ?_) (fun c_2 => ?_)
    · refine lv_iconst (v := iZ 0) hx hb d_Mo_fill_29 rfl ?_
      have eW : ∀ (x0 y0 : Int) (x1 y1 : Nat → Int), x0 = y0 → x1 = y1 → ([(o0, .inr (7, [.int (iZ 0), .int (iZ nb), .int (iZ nr), .ref oK, .ref oF, .ref oS, .ref oE, .int (iZ us), .int (iZ fi), .ref oY, .ref oH, .int (iZ x0), .int (iZ bb), .int (iZ ee), .int (iZ fd), .int (iZ ww), .int (iZ le), .ref oW, .ref oT, .int (iZ rd)])), (oH, .inl (cI, 600, .inl (fun j => iZ (x1 j))))] : va_W) = [(o0, .inr (7, [.int (iZ 0), .int (iZ nb), .int (iZ nr), .ref oK, .ref oF, .ref oS, .ref oE, .int (iZ us), .int (iZ fi), .ref oY, .ref oH, .int (iZ y0), .int (iZ bb), .int (iZ ee), .int (iZ fd), .int (iZ ww), .int (iZ le), .ref oW, .ref oT, .int (iZ rd)])), (oH, .inl (cI, 600, .inl (fun j => iZ (y1 j))))] := by intros; subst_vars; rfl
      have eW := eW nh (if ((1 ≤ n ∧ n ≤ 600) ∧ nh + n ≤ 600) then nh + n else nh) hd (if ((1 ≤ n ∧ n ≤ 600) ∧ nh + n ≤ 600) then (fun j : Nat => if nh ≤ (j : Int) ∧ (j : Int) < nh + n then v % 256 else hd j) else hd) (by omega) (by first | rfl | exact (if_pos (by omega)).symm | exact (if_neg (by omega)).symm)
      have hP : va_P (dC, dI) vwCl [(o0, .inr (7, [.int (iZ 0), .int (iZ nb), .int (iZ nr), .ref oK, .ref oF, .ref oS, .ref oE, .int (iZ us), .int (iZ fi), .ref oY, .ref oH, .int (iZ (if ((1 ≤ n ∧ n ≤ 600) ∧ nh + n ≤ 600) then nh + n else nh)), .int (iZ bb), .int (iZ ee), .int (iZ fd), .int (iZ ww), .int (iZ le), .ref oW, .ref oT, .int (iZ rd)])), (oH, .inl (cI, 600, .inl (fun j => iZ ((if ((1 ≤ n ∧ n ≤ 600) ∧ nh + n ≤ 600) then (fun j : Nat => if nh ≤ (j : Int) ∧ (j : Int) < nh + n then v % 256 else hd j) else hd) j))))] H := eW ▸ hP
      have hD : va_D A [(o0, .inr (7, [.int (iZ 0), .int (iZ nb), .int (iZ nr), .ref oK, .ref oF, .ref oS, .ref oE, .int (iZ us), .int (iZ fi), .ref oY, .ref oH, .int (iZ (if ((1 ≤ n ∧ n ≤ 600) ∧ nh + n ≤ 600) then nh + n else nh)), .int (iZ bb), .int (iZ ee), .int (iZ fd), .int (iZ ww), .int (iZ le), .ref oW, .ref oT, .int (iZ rd)])), (oH, .inl (cI, 600, .inl (fun j => iZ ((if ((1 ≤ n ∧ n ≤ 600) ∧ nh + n ≤ 600) then (fun j : Nat => if nh ≤ (j : Int) ∧ (j : Int) < nh + n then v % 256 else hd j) else hd) j))))] := eW ▸ hD
      subst hQ
      exact W.zret (v := (iZ 0)) hx hb hr rfl (fun t ht hW => ⟨⟨_, (), rfl, (congrArg iZ (by omega)), by rw [ht]; exact hP, va_K.moved hW.alike hK, hAe ▸ hD⟩, hAe ▸ hS.F ht⟩) (hAe ▸ hS.2.2) d_Mo_fill_30
    · refine lv_aload_n hx hb d_Mo_fill_17 rfl (lv_at hl 0 rfl) ?_
      refine va_get (D := (dC, dI)) (ci := 7) (v := .int (iZ nh)) (C := "LogDeskModel") (T := F_Mo) (N := 20) hx hb htg hin_Mo hown hK hP 0 rfl rfl 11 (by decide) (htg _ k_485) (fun _ h9 => h9) rfl d_Mo_fill_18 ?_
      refine lv_iload_n hx hb d_Mo_fill_21 rfl (lv_at hl 2 rfl) ?_
      refine zz_iadd hx hb d_Mo_fill_22 ?_
      refine lv_sipush (v := iZ 600) hx hb d_Mo_fill_23 (by decide) ?_
      refine zz_icmp_le (tgt := 31) hx hb d_Mo_fill_26 (by decide) ⟨by omega, by omega⟩ ⟨by omega, by omega⟩ (fun c_3 => ?_) (fun c_3 => ?_)
      · refine lv_iconst (v := iZ 0) hx hb d_Mo_fill_31 rfl ?_
        refine lv_istore_n (lv' := [(3, .int (iZ 0)), (0, .ref o0), (1, .int (iZ v)), (2, .int (iZ n))]) hx hb d_Mo_fill_32 rfl hl (by decide) rfl (fun ls hl => ?_)
        have loop33 : ∀ (nn : Nat) (i : Int) (k : Int) (w : Nat → Int) (H : Heap) (locs : List Loc) (ls : Array Slot), (0 ≤ i ∧ i ≤ n) → (k = nh + i) → (∀ j : Nat, w j = if nh ≤ (j : Int) ∧ (j : Int) < k then v % 256 else hd j) → (n - i < (nn : Int)) → va_P (dC, dI) vwCl [(o0, .inr (7, [.int (iZ 0), .int (iZ nb), .int (iZ nr), .ref oK, .ref oF, .ref oS, .ref oE, .int (iZ us), .int (iZ fi), .ref oY, .ref oH, .int (iZ k), .int (iZ bb), .int (iZ ee), .int (iZ fd), .int (iZ ww), .int (iZ le), .ref oW, .ref oT, .int (iZ rd)])), (oH, .inl (cI, 600, .inl (fun j => iZ (w j))))] H → va_D A [(o0, .inr (7, [.int (iZ 0), .int (iZ nb), .int (iZ nr), .ref oK, .ref oF, .ref oS, .ref oE, .int (iZ us), .int (iZ fi), .ref oY, .ref oH, .int (iZ k), .int (iZ bb), .int (iZ ee), .int (iZ fd), .int (iZ ww), .int (iZ le), .ref oW, .ref oT, .int (iZ rd)])), (oH, .inl (cI, 600, .inl (fun j => iZ (w j))))] → va_S A s.heap H locs → lv_has ls 4 [(0, .ref o0), (1, .int (iZ v)), (2, .int (iZ n)), (3, .int (iZ i))] → W p l e (headSpec ((Cond.code y_Mo_fill prog_9_method_5_code 4 (some .boolean)) :: gw) ({ frames := 0, cells := 0, slots := 0, locals := 0 } : Room)).room s m [.ref o0, .int (iZ v), .int (iZ n)].toArray below meth c H locs 0 0 QQ (F0 m 33 ls []) := by
          intro nn
          induction nn with
          | zero => intro i k w H locs ls hi hk hw hm hP hD hS hl; exfalso; omega
          | succ nn ih =>
            intro i k w H locs ls hi hk hw hm hP hD hS hl
            refine lv_iload_n hx hb d_Mo_fill_33 rfl (lv_at hl 3 rfl) ?_
            refine lv_iload_n hx hb d_Mo_fill_34 rfl (lv_at hl 2 rfl) ?_
            refine zz_icmp_ge (tgt := 68) hx hb d_Mo_fill_35 (by decide) ⟨by omega, by omega⟩ ⟨by omega, by omega⟩ (fun c_4 => ?_) (fun c_4 => ?_)
            · refine lv_iconst (v := iZ 1) hx hb d_Mo_fill_68 rfl ?_
              have eW : ∀ (x0 y0 : Int) (x1 y1 : Nat → Int), x0 = y0 → x1 = y1 → ([(o0, .inr (7, [.int (iZ 0), .int (iZ nb), .int (iZ nr), .ref oK, .ref oF, .ref oS, .ref oE, .int (iZ us), .int (iZ fi), .ref oY, .ref oH, .int (iZ x0), .int (iZ bb), .int (iZ ee), .int (iZ fd), .int (iZ ww), .int (iZ le), .ref oW, .ref oT, .int (iZ rd)])), (oH, .inl (cI, 600, .inl (fun j => iZ (x1 j))))] : va_W) = [(o0, .inr (7, [.int (iZ 0), .int (iZ nb), .int (iZ nr), .ref oK, .ref oF, .ref oS, .ref oE, .int (iZ us), .int (iZ fi), .ref oY, .ref oH, .int (iZ y0), .int (iZ bb), .int (iZ ee), .int (iZ fd), .int (iZ ww), .int (iZ le), .ref oW, .ref oT, .int (iZ rd)])), (oH, .inl (cI, 600, .inl (fun j => iZ (y1 j))))] := by intros; subst_vars; rfl
              have eW := eW k (if ((1 ≤ n ∧ n ≤ 600) ∧ nh + n ≤ 600) then nh + n else nh) w (if ((1 ≤ n ∧ n ≤ 600) ∧ nh + n ≤ 600) then (fun j : Nat => if nh ≤ (j : Int) ∧ (j : Int) < nh + n then v % 256 else hd j) else hd) (by omega) (by rw [if_pos (by omega)]; funext j; rw [hw j, show k = nh + n by omega])
              have hP : va_P (dC, dI) vwCl [(o0, .inr (7, [.int (iZ 0), .int (iZ nb), .int (iZ nr), .ref oK, .ref oF, .ref oS, .ref oE, .int (iZ us), .int (iZ fi), .ref oY, .ref oH, .int (iZ (if ((1 ≤ n ∧ n ≤ 600) ∧ nh + n ≤ 600) then nh + n else nh)), .int (iZ bb), .int (iZ ee), .int (iZ fd), .int (iZ ww), .int (iZ le), .ref oW, .ref oT, .int (iZ rd)])), (oH, .inl (cI, 600, .inl (fun j => iZ ((if ((1 ≤ n ∧ n ≤ 600) ∧ nh + n ≤ 600) then (fun j : Nat => if nh ≤ (j : Int) ∧ (j : Int) < nh + n then v % 256 else hd j) else hd) j))))] H := eW ▸ hP
              have hD : va_D A [(o0, .inr (7, [.int (iZ 0), .int (iZ nb), .int (iZ nr), .ref oK, .ref oF, .ref oS, .ref oE, .int (iZ us), .int (iZ fi), .ref oY, .ref oH, .int (iZ (if ((1 ≤ n ∧ n ≤ 600) ∧ nh + n ≤ 600) then nh + n else nh)), .int (iZ bb), .int (iZ ee), .int (iZ fd), .int (iZ ww), .int (iZ le), .ref oW, .ref oT, .int (iZ rd)])), (oH, .inl (cI, 600, .inl (fun j => iZ ((if ((1 ≤ n ∧ n ≤ 600) ∧ nh + n ≤ 600) then (fun j : Nat => if nh ≤ (j : Int) ∧ (j : Int) < nh + n then v % 256 else hd j) else hd) j))))] := eW ▸ hD
              subst hQ
              exact W.zret (v := (iZ 1)) hx hb hr rfl (fun t ht hW => ⟨⟨_, (), rfl, (congrArg iZ (by omega)), by rw [ht]; exact hP, va_K.moved hW.alike hK, hAe ▸ hD⟩, hAe ▸ hS.F ht⟩) (hAe ▸ hS.2.2) d_Mo_fill_69
            · refine lv_aload_n hx hb d_Mo_fill_38 rfl (lv_at hl 0 rfl) ?_
              refine va_get (D := (dC, dI)) (ci := 7) (v := .ref oH) (C := "LogDeskModel") (T := F_Mo) (N := 20) hx hb htg hin_Mo hown hK hP 0 rfl rfl 10 (by decide) (htg _ k_484) (fun _ h9 => h9) rfl d_Mo_fill_39 ?_
              refine lv_aload_n hx hb d_Mo_fill_42 rfl (lv_at hl 0 rfl) ?_
              refine va_get (D := (dC, dI)) (ci := 7) (v := .int (iZ k)) (C := "LogDeskModel") (T := F_Mo) (N := 20) hx hb htg hin_Mo hown hK hP 0 rfl rfl 11 (by decide) (htg _ k_485) (fun _ h9 => h9) rfl d_Mo_fill_43 ?_
              refine lv_iload_n hx hb d_Mo_fill_46 rfl (lv_at hl 1 rfl) ?_
              refine lv_sipush (v := iZ 255) hx hb d_Mo_fill_47 (by decide) ?_
              refine zz_and255 hx hb d_Mo_fill_50 ?_
              refine zz_iast hx hb hK hP hD hS 1 1 rfl rfl (by omega) (by omega) (by omega) d_Mo_fill_51 (fun H locs hP hD hS => ?_)
              have hP : va_P (dC, dI) vwCl [(o0, .inr (7, [.int (iZ 0), .int (iZ nb), .int (iZ nr), .ref oK, .ref oF, .ref oS, .ref oE, .int (iZ us), .int (iZ fi), .ref oY, .ref oH, .int (iZ k), .int (iZ bb), .int (iZ ee), .int (iZ fd), .int (iZ ww), .int (iZ le), .ref oW, .ref oT, .int (iZ rd)])), (oH, .inl (cI, 600, .inl (fun j => iZ ((va_up w (k).toNat (v % 256)) j))))] H := hP
              have hD : va_D A [(o0, .inr (7, [.int (iZ 0), .int (iZ nb), .int (iZ nr), .ref oK, .ref oF, .ref oS, .ref oE, .int (iZ us), .int (iZ fi), .ref oY, .ref oH, .int (iZ k), .int (iZ bb), .int (iZ ee), .int (iZ fd), .int (iZ ww), .int (iZ le), .ref oW, .ref oT, .int (iZ rd)])), (oH, .inl (cI, 600, .inl (fun j => iZ ((va_up w (k).toNat (v % 256)) j))))] := hD
              refine lv_aload_n hx hb d_Mo_fill_52 rfl (lv_at hl 0 rfl) ?_
              refine lv_dup hx hb d_Mo_fill_53 rfl ?_
              refine va_get (D := (dC, dI)) (ci := 7) (v := .int (iZ k)) (C := "LogDeskModel") (T := F_Mo) (N := 20) hx hb htg hin_Mo hown hK hP 0 rfl rfl 11 (by decide) (htg _ k_485) (fun _ h9 => h9) rfl d_Mo_fill_54 ?_
              refine lv_iconst (v := iZ 1) hx hb d_Mo_fill_57 rfl ?_
              refine zz_iadd hx hb d_Mo_fill_58 ?_
              refine va_put (D := (dC, dI)) (ci := 7) (v := .int (iZ (k + 1))) (ty := t_Mo 11) (C := "LogDeskModel") (T := F_Mo) (N := 20) hx hb htg hin_Mo t_Mo t_Mo_ok n_Mo hown hK hP hD hS 0 rfl rfl 11 (by decide) (htg _ k_485) (fun _ h9 => h9) rfl (by decide +kernel) rfl rfl (Nat.le_of_ble_eq_true rfl) d_Mo_fill_59 (fun H locs hP hD hS => ?_)
              have hP : va_P (dC, dI) vwCl [(o0, .inr (7, [.int (iZ 0), .int (iZ nb), .int (iZ nr), .ref oK, .ref oF, .ref oS, .ref oE, .int (iZ us), .int (iZ fi), .ref oY, .ref oH, .int (iZ (k + 1)), .int (iZ bb), .int (iZ ee), .int (iZ fd), .int (iZ ww), .int (iZ le), .ref oW, .ref oT, .int (iZ rd)])), (oH, .inl (cI, 600, .inl (fun j => iZ ((va_up w (k).toNat (v % 256)) j))))] H := hP
              have hD : va_D A [(o0, .inr (7, [.int (iZ 0), .int (iZ nb), .int (iZ nr), .ref oK, .ref oF, .ref oS, .ref oE, .int (iZ us), .int (iZ fi), .ref oY, .ref oH, .int (iZ (k + 1)), .int (iZ bb), .int (iZ ee), .int (iZ fd), .int (iZ ww), .int (iZ le), .ref oW, .ref oT, .int (iZ rd)])), (oH, .inl (cI, 600, .inl (fun j => iZ ((va_up w (k).toNat (v % 256)) j))))] := hD
              refine lv_iinc (v := iZ (i + 1)) (lv' := [(3, .int (iZ (i + 1))), (0, .ref o0), (1, .int (iZ v)), (2, .int (iZ n))]) hx hb d_Mo_fill_62 hl (k := 3) rfl (iZ_add _ _) (by decide) rfl (fun ls hl => ?_)
              refine lv_goto (tgt := 33) hx hb d_Mo_fill_65 (by decide) ?_
              exact ih (i + 1) (k + 1) (va_up w (k).toNat (v % 256)) H _ ls (by omega) (by omega) (mfU_step (by omega) (by omega) hw) (by omega) hP hD hS (lv_sub hl [1, 2, 3, 0] rfl)
        exact loop33 (Int.toNat (n - 0) + 1) 0 nh hd H _ ls (by omega) (by omega) (fun j => (if_neg (by omega)).symm) (by omega) hP hD hS (lv_sub hl [1, 2, 3, 0] rfl)
      · refine lv_iconst (v := iZ 0) hx hb d_Mo_fill_29 rfl ?_
        have eW : ∀ (x0 y0 : Int) (x1 y1 : Nat → Int), x0 = y0 → x1 = y1 → ([(o0, .inr (7, [.int (iZ 0), .int (iZ nb), .int (iZ nr), .ref oK, .ref oF, .ref oS, .ref oE, .int (iZ us), .int (iZ fi), .ref oY, .ref oH, .int (iZ x0), .int (iZ bb), .int (iZ ee), .int (iZ fd), .int (iZ ww), .int (iZ le), .ref oW, .ref oT, .int (iZ rd)])), (oH, .inl (cI, 600, .inl (fun j => iZ (x1 j))))] : va_W) = [(o0, .inr (7, [.int (iZ 0), .int (iZ nb), .int (iZ nr), .ref oK, .ref oF, .ref oS, .ref oE, .int (iZ us), .int (iZ fi), .ref oY, .ref oH, .int (iZ y0), .int (iZ bb), .int (iZ ee), .int (iZ fd), .int (iZ ww), .int (iZ le), .ref oW, .ref oT, .int (iZ rd)])), (oH, .inl (cI, 600, .inl (fun j => iZ (y1 j))))] := by intros; subst_vars; rfl
        have eW := eW nh (if ((1 ≤ n ∧ n ≤ 600) ∧ nh + n ≤ 600) then nh + n else nh) hd (if ((1 ≤ n ∧ n ≤ 600) ∧ nh + n ≤ 600) then (fun j : Nat => if nh ≤ (j : Int) ∧ (j : Int) < nh + n then v % 256 else hd j) else hd) (by omega) (by first | rfl | exact (if_pos (by omega)).symm | exact (if_neg (by omega)).symm)
        have hP : va_P (dC, dI) vwCl [(o0, .inr (7, [.int (iZ 0), .int (iZ nb), .int (iZ nr), .ref oK, .ref oF, .ref oS, .ref oE, .int (iZ us), .int (iZ fi), .ref oY, .ref oH, .int (iZ (if ((1 ≤ n ∧ n ≤ 600) ∧ nh + n ≤ 600) then nh + n else nh)), .int (iZ bb), .int (iZ ee), .int (iZ fd), .int (iZ ww), .int (iZ le), .ref oW, .ref oT, .int (iZ rd)])), (oH, .inl (cI, 600, .inl (fun j => iZ ((if ((1 ≤ n ∧ n ≤ 600) ∧ nh + n ≤ 600) then (fun j : Nat => if nh ≤ (j : Int) ∧ (j : Int) < nh + n then v % 256 else hd j) else hd) j))))] H := eW ▸ hP
        have hD : va_D A [(o0, .inr (7, [.int (iZ 0), .int (iZ nb), .int (iZ nr), .ref oK, .ref oF, .ref oS, .ref oE, .int (iZ us), .int (iZ fi), .ref oY, .ref oH, .int (iZ (if ((1 ≤ n ∧ n ≤ 600) ∧ nh + n ≤ 600) then nh + n else nh)), .int (iZ bb), .int (iZ ee), .int (iZ fd), .int (iZ ww), .int (iZ le), .ref oW, .ref oT, .int (iZ rd)])), (oH, .inl (cI, 600, .inl (fun j => iZ ((if ((1 ≤ n ∧ n ≤ 600) ∧ nh + n ≤ 600) then (fun j : Nat => if nh ≤ (j : Int) ∧ (j : Int) < nh + n then v % 256 else hd j) else hd) j))))] := eW ▸ hD
        subst hQ
        exact W.zret (v := (iZ 0)) hx hb hr rfl (fun t ht hW => ⟨⟨_, (), rfl, (congrArg iZ (by omega)), by rw [ht]; exact hP, va_K.moved hW.alike hK, hAe ▸ hD⟩, hAe ▸ hS.F ht⟩) (hAe ▸ hS.2.2) d_Mo_fill_30
set_option maxHeartbeats 4000000 in
set_option maxRecDepth 100000 in
theorem c_Mo_charge (l : Launch) (dC : Nat → ClassId) (dI : Nat → Nat → Nat) (cB : ClassId) (cI : ClassId) (cJ : ClassId) (cZ : ClassId) (cQ : ClassId) (o0 oK oF oS oE oY oH oW oT : Nat) (sz : Nat) (th : Int) (nb : Int) (nr : Int) (us : Int) (fi : Int) (nh : Int) (bb : Int) (ee : Int) (fd : Int) (ww : Int) (le : Int) (rd : Int) (x : Int) (hx0 : iB x) : Met l y_Mo_charge ((Cond.code y_Mo_charge prog_9_method_23_code 2 none) :: gw) ({ frames := 0, cells := 0, slots := 0, locals := 0 } : Room) (zPc (dC, dI) [(cB, .byte), (cI, .int), (cJ, .long), (cZ, .boolean), (cQ, .object "LogDesk$Block")] [.ref o0, .int (iZ x)] [(o0, .inr (7, [.int (iZ th), .int (iZ nb), .int (iZ nr), .ref oK, .ref oF, .ref oS, .ref oE, .int (iZ us), .int (iZ fi), .ref oY, .ref oH, .int (iZ nh), .int (iZ bb), .int (iZ ee), .int (iZ fd), .int (iZ ww), .int (iZ le), .ref oW, .ref oT, .int (iZ rd)]))] sz) (va_Qv (fun (_ : Unit) => True) (zB (dC, dI) [(cB, .byte), (cI, .int), (cJ, .long), (cZ, .boolean), (cQ, .object "LogDesk$Block")] (va_A [(o0, .inr (7, [.int (iZ th), .int (iZ nb), .int (iZ nr), .ref oK, .ref oF, .ref oS, .ref oE, .int (iZ us), .int (iZ fi), .ref oY, .ref oH, .int (iZ nh), .int (iZ bb), .int (iZ ee), .int (iZ fd), .int (iZ ww), .int (iZ le), .ref oW, .ref oT, .int (iZ rd)]))] sz) [(o0, .inr (7, [.int (iZ (if 0 ≤ x ∧ x ≤ 999 then 0 else 1)), .int (iZ nb), .int (iZ nr), .ref oK, .ref oF, .ref oS, .ref oE, .int (iZ us), .int (iZ fi), .ref oY, .ref oH, .int (iZ nh), .int (iZ bb), .int (iZ ee), .int (iZ fd), .int (iZ ww), .int (iZ (if 0 ≤ x ∧ x ≤ 999 then x else le)), .ref oW, .ref oT, .int (iZ rd)]))]) (va_A [(o0, .inr (7, [.int (iZ th), .int (iZ nb), .int (iZ nr), .ref oK, .ref oF, .ref oS, .ref oE, .int (iZ us), .int (iZ fi), .ref oY, .ref oH, .int (iZ nh), .int (iZ bb), .int (iZ ee), .int (iZ fd), .int (iZ ww), .int (iZ le), .ref oW, .ref oT, .int (iZ rd)]))] sz)) 0 0 (va_A [(o0, .inr (7, [.int (iZ th), .int (iZ nb), .int (iZ nr), .ref oK, .ref oF, .ref oS, .ref oE, .int (iZ us), .int (iZ fi), .ref oY, .ref oH, .int (iZ nh), .int (iZ bb), .int (iZ ee), .int (iZ fd), .int (iZ ww), .int (iZ le), .ref oW, .ref oT, .int (iZ rd)]))] sz) := by
  refine Met.ofW (cc := prog_9_method_23_code) (maxL := 2) (ret := none) (by decide) rfl ?_
  intro p e s m args below meth c s₁ B hml hv
  obtain ⟨rfl, hsz, hP, hK, hD0, hZ⟩ := hv
  have hx := B.exec
  have hb := B.bytes
  have hr := B.returns
  have hts := atoms_spec (ws := (Cond.code y_Mo_charge prog_9_method_23_code 2 none) :: gw) B.pre
  have htg : ∀ w ∈ gw, w.before _ s = true := fun w h => hts w (List.mem_cons_of_mem _ h)
  have hown : s.vm.findClass "LogDeskModel" = some m.cls := findClass_of_methodNamed B.named
  have hlocks := B.notSynchronized
  subst hsz
  have hD := hD0.self (sz := s.heap.size)
  generalize hAe : va_A [(o0, .inr (7, [.int (iZ th), .int (iZ nb), .int (iZ nr), .ref oK, .ref oF, .ref oS, .ref oE, .int (iZ us), .int (iZ fi), .ref oY, .ref oH, .int (iZ nh), .int (iZ bb), .int (iZ ee), .int (iZ fd), .int (iZ ww), .int (iZ le), .ref oW, .ref oT, .int (iZ rd)]))] s.heap.size = A at hD ⊢
  have hRc : (headSpec ((Cond.code y_Mo_charge prog_9_method_23_code 2 none) :: gw) ({ frames := 0, cells := 0, slots := 0, locals := 0 } : Room)).room.cells = 0 := rfl
  have hRs : (headSpec ((Cond.code y_Mo_charge prog_9_method_23_code 2 none) :: gw) ({ frames := 0, cells := 0, slots := 0, locals := 0 } : Room)).room.slots = 0 := rfl
  have hA : ∀ q : Nat, s.heap.size ≤ q → A q := fun q h => by rw [← hAe]; exact Or.inr h
  have hS : va_S A s.heap s.heap [] := va_S.rf
  have hP : va_P (dC, dI) vwCl [(o0, .inr (7, [.int (iZ th), .int (iZ nb), .int (iZ nr), .ref oK, .ref oF, .ref oS, .ref oE, .int (iZ us), .int (iZ fi), .ref oY, .ref oH, .int (iZ nh), .int (iZ bb), .int (iZ ee), .int (iZ fd), .int (iZ ww), .int (iZ le), .ref oW, .ref oT, .int (iZ rd)]))] s.heap := hP
  have hl := lv_entry ([.ref o0, .int (iZ x)]) (n := 2) (Nat.le_of_ble_eq_true rfl)
  rw [lg_entry_eq]
  generalize (lg_sl ([.ref o0, .int (iZ x)]) ++ List.replicate (2 - (lg_sl ([.ref o0, .int (iZ x)])).length) Slot.unset).toArray = ls at hl ⊢
  have hl : lv_has ls 2 [(0, .ref o0), (1, .int (iZ x))] := hl
  obtain ⟨hx1, hx2⟩ := hx0
  refine lv_aload_n hx hb d_Mo_charge_0 rfl (lv_at hl 0 rfl) ?_
  refine lv_iload_n hx hb d_Mo_charge_1 rfl (lv_at hl 1 rfl) ?_
  refine zz_if_lt (tgt := 12) hx hb d_Mo_charge_2 (by decide) ⟨by omega, by omega⟩ (fun c_1 => ?_) (fun c_1 => ?_)
  · refine lv_iconst (v := iZ 1) hx hb d_Mo_charge_12 rfl ?_
    refine lv_goto (tgt := 17) hx hb d_Mo_charge_13 (by decide) ?_
    refine va_put (D := (dC, dI)) (ci := 7) (v := .int (iZ 1)) (ty := t_Mo 0) (C := "LogDeskModel") (T := F_Mo) (N := 20) hx hb htg hin_Mo t_Mo t_Mo_ok n_Mo hown hK hP hD hS 0 rfl rfl 0 (by decide) (htg _ k_474) (fun _ h9 => h9) rfl (by decide +kernel) rfl rfl (Nat.le_of_ble_eq_true rfl) d_Mo_charge_17 (fun H locs hP hD hS => ?_)
    have hP : va_P (dC, dI) vwCl [(o0, .inr (7, [.int (iZ 1), .int (iZ nb), .int (iZ nr), .ref oK, .ref oF, .ref oS, .ref oE, .int (iZ us), .int (iZ fi), .ref oY, .ref oH, .int (iZ nh), .int (iZ bb), .int (iZ ee), .int (iZ fd), .int (iZ ww), .int (iZ le), .ref oW, .ref oT, .int (iZ rd)]))] H := hP
    have hD : va_D A [(o0, .inr (7, [.int (iZ 1), .int (iZ nb), .int (iZ nr), .ref oK, .ref oF, .ref oS, .ref oE, .int (iZ us), .int (iZ fi), .ref oY, .ref oH, .int (iZ nh), .int (iZ bb), .int (iZ ee), .int (iZ fd), .int (iZ ww), .int (iZ le), .ref oW, .ref oT, .int (iZ rd)]))] := hD
    refine lv_aload_n hx hb d_Mo_charge_20 rfl (lv_at hl 0 rfl) ?_
    refine lv_aload_n hx hb d_Mo_charge_21 rfl (lv_at hl 0 rfl) ?_
    refine va_get (D := (dC, dI)) (ci := 7) (v := .int (iZ 1)) (C := "LogDeskModel") (T := F_Mo) (N := 20) hx hb htg hin_Mo hown hK hP 0 rfl rfl 0 (by decide) (htg _ k_474) (fun _ h9 => h9) rfl d_Mo_charge_22 ?_
    refine zz_if_ne (tgt := 32) hx hb d_Mo_charge_25 (by decide) ⟨by omega, by omega⟩ (fun c_2 => ?_) (fun c_2 => ?_)
    · refine lv_aload_n hx hb d_Mo_charge_32 rfl (lv_at hl 0 rfl) ?_
      refine va_get (D := (dC, dI)) (ci := 7) (v := .int (iZ le)) (C := "LogDeskModel") (T := F_Mo) (N := 20) hx hb htg hin_Mo hown hK hP 0 rfl rfl 16 (by decide) (htg _ k_490) (fun _ h9 => h9) rfl d_Mo_charge_33 ?_
      refine va_put (D := (dC, dI)) (ci := 7) (v := .int (iZ le)) (ty := t_Mo 16) (C := "LogDeskModel") (T := F_Mo) (N := 20) hx hb htg hin_Mo t_Mo t_Mo_ok n_Mo hown hK hP hD hS 0 rfl rfl 16 (by decide) (htg _ k_490) (fun _ h9 => h9) rfl (by decide +kernel) rfl rfl (Nat.le_of_ble_eq_true rfl) d_Mo_charge_36 (fun H locs hP hD hS => ?_)
      have hP : va_P (dC, dI) vwCl [(o0, .inr (7, [.int (iZ 1), .int (iZ nb), .int (iZ nr), .ref oK, .ref oF, .ref oS, .ref oE, .int (iZ us), .int (iZ fi), .ref oY, .ref oH, .int (iZ nh), .int (iZ bb), .int (iZ ee), .int (iZ fd), .int (iZ ww), .int (iZ le), .ref oW, .ref oT, .int (iZ rd)]))] H := hP
      have hD : va_D A [(o0, .inr (7, [.int (iZ 1), .int (iZ nb), .int (iZ nr), .ref oK, .ref oF, .ref oS, .ref oE, .int (iZ us), .int (iZ fi), .ref oY, .ref oH, .int (iZ nh), .int (iZ bb), .int (iZ ee), .int (iZ fd), .int (iZ ww), .int (iZ le), .ref oW, .ref oT, .int (iZ rd)]))] := hD
      have eW : ∀ (x0 y0 : Int) (x1 y1 : Int), x0 = y0 → x1 = y1 → ([(o0, .inr (7, [.int (iZ x0), .int (iZ nb), .int (iZ nr), .ref oK, .ref oF, .ref oS, .ref oE, .int (iZ us), .int (iZ fi), .ref oY, .ref oH, .int (iZ nh), .int (iZ bb), .int (iZ ee), .int (iZ fd), .int (iZ ww), .int (iZ x1), .ref oW, .ref oT, .int (iZ rd)]))] : va_W) = [(o0, .inr (7, [.int (iZ y0), .int (iZ nb), .int (iZ nr), .ref oK, .ref oF, .ref oS, .ref oE, .int (iZ us), .int (iZ fi), .ref oY, .ref oH, .int (iZ nh), .int (iZ bb), .int (iZ ee), .int (iZ fd), .int (iZ ww), .int (iZ y1), .ref oW, .ref oT, .int (iZ rd)]))] := by intros; subst_vars; rfl
      have eW := eW 1 (if 0 ≤ x ∧ x ≤ 999 then 0 else 1) le (if 0 ≤ x ∧ x ≤ 999 then x else le) (by omega) (by omega)
      have hP : va_P (dC, dI) vwCl [(o0, .inr (7, [.int (iZ (if 0 ≤ x ∧ x ≤ 999 then 0 else 1)), .int (iZ nb), .int (iZ nr), .ref oK, .ref oF, .ref oS, .ref oE, .int (iZ us), .int (iZ fi), .ref oY, .ref oH, .int (iZ nh), .int (iZ bb), .int (iZ ee), .int (iZ fd), .int (iZ ww), .int (iZ (if 0 ≤ x ∧ x ≤ 999 then x else le)), .ref oW, .ref oT, .int (iZ rd)]))] H := eW ▸ hP
      have hD : va_D A [(o0, .inr (7, [.int (iZ (if 0 ≤ x ∧ x ≤ 999 then 0 else 1)), .int (iZ nb), .int (iZ nr), .ref oK, .ref oF, .ref oS, .ref oE, .int (iZ us), .int (iZ fi), .ref oY, .ref oH, .int (iZ nh), .int (iZ bb), .int (iZ ee), .int (iZ fd), .int (iZ ww), .int (iZ (if 0 ≤ x ∧ x ≤ 999 then x else le)), .ref oW, .ref oT, .int (iZ rd)]))] := eW ▸ hD
      exact W.vret hx hb hr (fun t ht hW => ⟨⟨(), rfl, trivial, by rw [ht]; exact hP, va_K.moved hW.alike hK, hAe ▸ hD⟩, hAe ▸ hS.F ht⟩) (hAe ▸ hS.2.2) d_Mo_charge_39
    · exfalso; omega
  · refine lv_iload_n hx hb d_Mo_charge_5 rfl (lv_at hl 1 rfl) ?_
    refine lv_sipush (v := iZ 999) hx hb d_Mo_charge_6 (by decide) ?_
    refine zz_icmp_le (tgt := 16) hx hb d_Mo_charge_9 (by decide) ⟨by omega, by omega⟩ ⟨by omega, by omega⟩ (fun c_3 => ?_) (fun c_3 => ?_)
    · refine lv_iconst (v := iZ 0) hx hb d_Mo_charge_16 rfl ?_
      refine va_put (D := (dC, dI)) (ci := 7) (v := .int (iZ 0)) (ty := t_Mo 0) (C := "LogDeskModel") (T := F_Mo) (N := 20) hx hb htg hin_Mo t_Mo t_Mo_ok n_Mo hown hK hP hD hS 0 rfl rfl 0 (by decide) (htg _ k_474) (fun _ h9 => h9) rfl (by decide +kernel) rfl rfl (Nat.le_of_ble_eq_true rfl) d_Mo_charge_17 (fun H locs hP hD hS => ?_)
      have hP : va_P (dC, dI) vwCl [(o0, .inr (7, [.int (iZ 0), .int (iZ nb), .int (iZ nr), .ref oK, .ref oF, .ref oS, .ref oE, .int (iZ us), .int (iZ fi), .ref oY, .ref oH, .int (iZ nh), .int (iZ bb), .int (iZ ee), .int (iZ fd), .int (iZ ww), .int (iZ le), .ref oW, .ref oT, .int (iZ rd)]))] H := hP
      have hD : va_D A [(o0, .inr (7, [.int (iZ 0), .int (iZ nb), .int (iZ nr), .ref oK, .ref oF, .ref oS, .ref oE, .int (iZ us), .int (iZ fi), .ref oY, .ref oH, .int (iZ nh), .int (iZ bb), .int (iZ ee), .int (iZ fd), .int (iZ ww), .int (iZ le), .ref oW, .ref oT, .int (iZ rd)]))] := hD
      refine lv_aload_n hx hb d_Mo_charge_20 rfl (lv_at hl 0 rfl) ?_
      refine lv_aload_n hx hb d_Mo_charge_21 rfl (lv_at hl 0 rfl) ?_
      refine va_get (D := (dC, dI)) (ci := 7) (v := .int (iZ 0)) (C := "LogDeskModel") (T := F_Mo) (N := 20) hx hb htg hin_Mo hown hK hP 0 rfl rfl 0 (by decide) (htg _ k_474) (fun _ h9 => h9) rfl d_Mo_charge_22 ?_
      refine zz_if_ne (tgt := 32) hx hb d_Mo_charge_25 (by decide) ⟨by omega, by omega⟩ (fun c_4 => ?_) (fun c_4 => ?_)
      · exfalso; omega
      · refine lv_iload_n hx hb d_Mo_charge_28 rfl (lv_at hl 1 rfl) ?_
        refine lv_goto (tgt := 36) hx hb d_Mo_charge_29 (by decide) ?_
        refine va_put (D := (dC, dI)) (ci := 7) (v := .int (iZ x)) (ty := t_Mo 16) (C := "LogDeskModel") (T := F_Mo) (N := 20) hx hb htg hin_Mo t_Mo t_Mo_ok n_Mo hown hK hP hD hS 0 rfl rfl 16 (by decide) (htg _ k_490) (fun _ h9 => h9) rfl (by decide +kernel) rfl rfl (Nat.le_of_ble_eq_true rfl) d_Mo_charge_36 (fun H locs hP hD hS => ?_)
        have hP : va_P (dC, dI) vwCl [(o0, .inr (7, [.int (iZ 0), .int (iZ nb), .int (iZ nr), .ref oK, .ref oF, .ref oS, .ref oE, .int (iZ us), .int (iZ fi), .ref oY, .ref oH, .int (iZ nh), .int (iZ bb), .int (iZ ee), .int (iZ fd), .int (iZ ww), .int (iZ x), .ref oW, .ref oT, .int (iZ rd)]))] H := hP
        have hD : va_D A [(o0, .inr (7, [.int (iZ 0), .int (iZ nb), .int (iZ nr), .ref oK, .ref oF, .ref oS, .ref oE, .int (iZ us), .int (iZ fi), .ref oY, .ref oH, .int (iZ nh), .int (iZ bb), .int (iZ ee), .int (iZ fd), .int (iZ ww), .int (iZ x), .ref oW, .ref oT, .int (iZ rd)]))] := hD
        have eW : ∀ (x0 y0 : Int) (x1 y1 : Int), x0 = y0 → x1 = y1 → ([(o0, .inr (7, [.int (iZ x0), .int (iZ nb), .int (iZ nr), .ref oK, .ref oF, .ref oS, .ref oE, .int (iZ us), .int (iZ fi), .ref oY, .ref oH, .int (iZ nh), .int (iZ bb), .int (iZ ee), .int (iZ fd), .int (iZ ww), .int (iZ x1), .ref oW, .ref oT, .int (iZ rd)]))] : va_W) = [(o0, .inr (7, [.int (iZ y0), .int (iZ nb), .int (iZ nr), .ref oK, .ref oF, .ref oS, .ref oE, .int (iZ us), .int (iZ fi), .ref oY, .ref oH, .int (iZ nh), .int (iZ bb), .int (iZ ee), .int (iZ fd), .int (iZ ww), .int (iZ y1), .ref oW, .ref oT, .int (iZ rd)]))] := by intros; subst_vars; rfl
        have eW := eW 0 (if 0 ≤ x ∧ x ≤ 999 then 0 else 1) x (if 0 ≤ x ∧ x ≤ 999 then x else le) (by omega) (by omega)
        have hP : va_P (dC, dI) vwCl [(o0, .inr (7, [.int (iZ (if 0 ≤ x ∧ x ≤ 999 then 0 else 1)), .int (iZ nb), .int (iZ nr), .ref oK, .ref oF, .ref oS, .ref oE, .int (iZ us), .int (iZ fi), .ref oY, .ref oH, .int (iZ nh), .int (iZ bb), .int (iZ ee), .int (iZ fd), .int (iZ ww), .int (iZ (if 0 ≤ x ∧ x ≤ 999 then x else le)), .ref oW, .ref oT, .int (iZ rd)]))] H := eW ▸ hP
        have hD : va_D A [(o0, .inr (7, [.int (iZ (if 0 ≤ x ∧ x ≤ 999 then 0 else 1)), .int (iZ nb), .int (iZ nr), .ref oK, .ref oF, .ref oS, .ref oE, .int (iZ us), .int (iZ fi), .ref oY, .ref oH, .int (iZ nh), .int (iZ bb), .int (iZ ee), .int (iZ fd), .int (iZ ww), .int (iZ (if 0 ≤ x ∧ x ≤ 999 then x else le)), .ref oW, .ref oT, .int (iZ rd)]))] := eW ▸ hD
        exact W.vret hx hb hr (fun t ht hW => ⟨⟨(), rfl, trivial, by rw [ht]; exact hP, va_K.moved hW.alike hK, hAe ▸ hD⟩, hAe ▸ hS.F ht⟩) (hAe ▸ hS.2.2) d_Mo_charge_39
    · refine lv_iconst (v := iZ 1) hx hb d_Mo_charge_12 rfl ?_
      refine lv_goto (tgt := 17) hx hb d_Mo_charge_13 (by decide) ?_
      refine va_put (D := (dC, dI)) (ci := 7) (v := .int (iZ 1)) (ty := t_Mo 0) (C := "LogDeskModel") (T := F_Mo) (N := 20) hx hb htg hin_Mo t_Mo t_Mo_ok n_Mo hown hK hP hD hS 0 rfl rfl 0 (by decide) (htg _ k_474) (fun _ h9 => h9) rfl (by decide +kernel) rfl rfl (Nat.le_of_ble_eq_true rfl) d_Mo_charge_17 (fun H locs hP hD hS => ?_)
      have hP : va_P (dC, dI) vwCl [(o0, .inr (7, [.int (iZ 1), .int (iZ nb), .int (iZ nr), .ref oK, .ref oF, .ref oS, .ref oE, .int (iZ us), .int (iZ fi), .ref oY, .ref oH, .int (iZ nh), .int (iZ bb), .int (iZ ee), .int (iZ fd), .int (iZ ww), .int (iZ le), .ref oW, .ref oT, .int (iZ rd)]))] H := hP
      have hD : va_D A [(o0, .inr (7, [.int (iZ 1), .int (iZ nb), .int (iZ nr), .ref oK, .ref oF, .ref oS, .ref oE, .int (iZ us), .int (iZ fi), .ref oY, .ref oH, .int (iZ nh), .int (iZ bb), .int (iZ ee), .int (iZ fd), .int (iZ ww), .int (iZ le), .ref oW, .ref oT, .int (iZ rd)]))] := hD
      refine lv_aload_n hx hb d_Mo_charge_20 rfl (lv_at hl 0 rfl) ?_
      refine lv_aload_n hx hb d_Mo_charge_21 rfl (lv_at hl 0 rfl) ?_
      refine va_get (D := (dC, dI)) (ci := 7) (v := .int (iZ 1)) (C := "LogDeskModel") (T := F_Mo) (N := 20) hx hb htg hin_Mo hown hK hP 0 rfl rfl 0 (by decide) (htg _ k_474) (fun _ h9 => h9) rfl d_Mo_charge_22 ?_
      refine zz_if_ne (tgt := 32) hx hb d_Mo_charge_25 (by decide) ⟨by omega, by omega⟩ (fun c_5 => ?_) (fun c_5 => ?_)
      · refine lv_aload_n hx hb d_Mo_charge_32 rfl (lv_at hl 0 rfl) ?_
        refine va_get (D := (dC, dI)) (ci := 7) (v := .int (iZ le)) (C := "LogDeskModel") (T := F_Mo) (N := 20) hx hb htg hin_Mo hown hK hP 0 rfl rfl 16 (by decide) (htg _ k_490) (fun _ h9 => h9) rfl d_Mo_charge_33 ?_
        refine va_put (D := (dC, dI)) (ci := 7) (v := .int (iZ le)) (ty := t_Mo 16) (C := "LogDeskModel") (T := F_Mo) (N := 20) hx hb htg hin_Mo t_Mo t_Mo_ok n_Mo hown hK hP hD hS 0 rfl rfl 16 (by decide) (htg _ k_490) (fun _ h9 => h9) rfl (by decide +kernel) rfl rfl (Nat.le_of_ble_eq_true rfl) d_Mo_charge_36 (fun H locs hP hD hS => ?_)
        have hP : va_P (dC, dI) vwCl [(o0, .inr (7, [.int (iZ 1), .int (iZ nb), .int (iZ nr), .ref oK, .ref oF, .ref oS, .ref oE, .int (iZ us), .int (iZ fi), .ref oY, .ref oH, .int (iZ nh), .int (iZ bb), .int (iZ ee), .int (iZ fd), .int (iZ ww), .int (iZ le), .ref oW, .ref oT, .int (iZ rd)]))] H := hP
        have hD : va_D A [(o0, .inr (7, [.int (iZ 1), .int (iZ nb), .int (iZ nr), .ref oK, .ref oF, .ref oS, .ref oE, .int (iZ us), .int (iZ fi), .ref oY, .ref oH, .int (iZ nh), .int (iZ bb), .int (iZ ee), .int (iZ fd), .int (iZ ww), .int (iZ le), .ref oW, .ref oT, .int (iZ rd)]))] := hD
        have eW : ∀ (x0 y0 : Int) (x1 y1 : Int), x0 = y0 → x1 = y1 → ([(o0, .inr (7, [.int (iZ x0), .int (iZ nb), .int (iZ nr), .ref oK, .ref oF, .ref oS, .ref oE, .int (iZ us), .int (iZ fi), .ref oY, .ref oH, .int (iZ nh), .int (iZ bb), .int (iZ ee), .int (iZ fd), .int (iZ ww), .int (iZ x1), .ref oW, .ref oT, .int (iZ rd)]))] : va_W) = [(o0, .inr (7, [.int (iZ y0), .int (iZ nb), .int (iZ nr), .ref oK, .ref oF, .ref oS, .ref oE, .int (iZ us), .int (iZ fi), .ref oY, .ref oH, .int (iZ nh), .int (iZ bb), .int (iZ ee), .int (iZ fd), .int (iZ ww), .int (iZ y1), .ref oW, .ref oT, .int (iZ rd)]))] := by intros; subst_vars; rfl
        have eW := eW 1 (if 0 ≤ x ∧ x ≤ 999 then 0 else 1) le (if 0 ≤ x ∧ x ≤ 999 then x else le) (by omega) (by omega)
        have hP : va_P (dC, dI) vwCl [(o0, .inr (7, [.int (iZ (if 0 ≤ x ∧ x ≤ 999 then 0 else 1)), .int (iZ nb), .int (iZ nr), .ref oK, .ref oF, .ref oS, .ref oE, .int (iZ us), .int (iZ fi), .ref oY, .ref oH, .int (iZ nh), .int (iZ bb), .int (iZ ee), .int (iZ fd), .int (iZ ww), .int (iZ (if 0 ≤ x ∧ x ≤ 999 then x else le)), .ref oW, .ref oT, .int (iZ rd)]))] H := eW ▸ hP
        have hD : va_D A [(o0, .inr (7, [.int (iZ (if 0 ≤ x ∧ x ≤ 999 then 0 else 1)), .int (iZ nb), .int (iZ nr), .ref oK, .ref oF, .ref oS, .ref oE, .int (iZ us), .int (iZ fi), .ref oY, .ref oH, .int (iZ nh), .int (iZ bb), .int (iZ ee), .int (iZ fd), .int (iZ ww), .int (iZ (if 0 ≤ x ∧ x ≤ 999 then x else le)), .ref oW, .ref oT, .int (iZ rd)]))] := eW ▸ hD
        exact W.vret hx hb hr (fun t ht hW => ⟨⟨(), rfl, trivial, by rw [ht]; exact hP, va_K.moved hW.alike hK, hAe ▸ hD⟩, hAe ▸ hS.F ht⟩) (hAe ▸ hS.2.2) d_Mo_charge_39
      · exfalso; omega
set_option maxHeartbeats 4000000 in
set_option maxRecDepth 100000 in
theorem c_Mo_touch (l : Launch) (dC : Nat → ClassId) (dI : Nat → Nat → Nat) (cB : ClassId) (cI : ClassId) (cJ : ClassId) (cZ : ClassId) (cQ : ClassId) (o0 oK oF oS oE oY oH oW oT : Nat) (sz : Nat) (th : Int) (nb : Int) (nr : Int) (us : Int) (fi : Int) (nh : Int) (bb : Int) (ee : Int) (fd : Int) (ww : Int) (le : Int) (rd : Int) (tc : Nat → Int) (x : Int) (htc : ∀ j : Nat, tc j = 0 ∨ tc j = 1) (hx0 : iB x) : Met l y_Mo_touch ((Cond.code y_Mo_touch prog_9_method_14_code 2 (some .boolean)) :: gw) ({ frames := 0, cells := 0, slots := 0, locals := 0 } : Room) (zPc (dC, dI) [(cB, .byte), (cI, .int), (cJ, .long), (cZ, .boolean), (cQ, .object "LogDesk$Block")] [.ref o0, .int (iZ x)] [(o0, .inr (7, [.int (iZ th), .int (iZ nb), .int (iZ nr), .ref oK, .ref oF, .ref oS, .ref oE, .int (iZ us), .int (iZ fi), .ref oY, .ref oH, .int (iZ nh), .int (iZ bb), .int (iZ ee), .int (iZ fd), .int (iZ ww), .int (iZ le), .ref oW, .ref oT, .int (iZ rd)])), (oT, .inl (cZ, 2048, .inl (fun j => iZ (tc j))))] sz) (va_Qi (fun (r : Int32) (_ : Unit) => r = iZ (if ((0 ≤ x ∧ x < 2048) ∧ tc x.toNat = 0) then 1 else 0)) (zB (dC, dI) [(cB, .byte), (cI, .int), (cJ, .long), (cZ, .boolean), (cQ, .object "LogDesk$Block")] (va_A [(o0, .inr (7, [.int (iZ th), .int (iZ nb), .int (iZ nr), .ref oK, .ref oF, .ref oS, .ref oE, .int (iZ us), .int (iZ fi), .ref oY, .ref oH, .int (iZ nh), .int (iZ bb), .int (iZ ee), .int (iZ fd), .int (iZ ww), .int (iZ le), .ref oW, .ref oT, .int (iZ rd)])), (oT, .inl (cZ, 2048, .inl (fun j => iZ (tc j))))] sz) [(o0, .inr (7, [.int (iZ 0), .int (iZ nb), .int (iZ nr), .ref oK, .ref oF, .ref oS, .ref oE, .int (iZ us), .int (iZ fi), .ref oY, .ref oH, .int (iZ nh), .int (iZ bb), .int (iZ ee), .int (iZ fd), .int (iZ ww), .int (iZ le), .ref oW, .ref oT, .int (iZ rd)])), (oT, .inl (cZ, 2048, .inl (fun j => iZ ((if ((0 ≤ x ∧ x < 2048) ∧ tc x.toNat = 0) then va_up tc x.toNat 1 else tc) j))))]) (va_A [(o0, .inr (7, [.int (iZ th), .int (iZ nb), .int (iZ nr), .ref oK, .ref oF, .ref oS, .ref oE, .int (iZ us), .int (iZ fi), .ref oY, .ref oH, .int (iZ nh), .int (iZ bb), .int (iZ ee), .int (iZ fd), .int (iZ ww), .int (iZ le), .ref oW, .ref oT, .int (iZ rd)])), (oT, .inl (cZ, 2048, .inl (fun j => iZ (tc j))))] sz)) 0 0 (va_A [(o0, .inr (7, [.int (iZ th), .int (iZ nb), .int (iZ nr), .ref oK, .ref oF, .ref oS, .ref oE, .int (iZ us), .int (iZ fi), .ref oY, .ref oH, .int (iZ nh), .int (iZ bb), .int (iZ ee), .int (iZ fd), .int (iZ ww), .int (iZ le), .ref oW, .ref oT, .int (iZ rd)])), (oT, .inl (cZ, 2048, .inl (fun j => iZ (tc j))))] sz) := by
  refine Met.ofW (cc := prog_9_method_14_code) (maxL := 2) (ret := (some .boolean)) (by decide) rfl ?_
  intro p e s m args below meth c s₁ B hml hv
  obtain ⟨rfl, hsz, hP, hK, hD0, hZ⟩ := hv
  have hx := B.exec
  have hb := B.bytes
  have hr := B.returns
  have hts := atoms_spec (ws := (Cond.code y_Mo_touch prog_9_method_14_code 2 (some .boolean)) :: gw) B.pre
  have htg : ∀ w ∈ gw, w.before _ s = true := fun w h => hts w (List.mem_cons_of_mem _ h)
  have hown : s.vm.findClass "LogDeskModel" = some m.cls := findClass_of_methodNamed B.named
  have hlocks := B.notSynchronized
  subst hsz
  have hD := hD0.self (sz := s.heap.size)
  generalize hAe : va_A [(o0, .inr (7, [.int (iZ th), .int (iZ nb), .int (iZ nr), .ref oK, .ref oF, .ref oS, .ref oE, .int (iZ us), .int (iZ fi), .ref oY, .ref oH, .int (iZ nh), .int (iZ bb), .int (iZ ee), .int (iZ fd), .int (iZ ww), .int (iZ le), .ref oW, .ref oT, .int (iZ rd)])), (oT, .inl (cZ, 2048, .inl (fun j => iZ (tc j))))] s.heap.size = A at hD ⊢
  have hRc : (headSpec ((Cond.code y_Mo_touch prog_9_method_14_code 2 (some .boolean)) :: gw) ({ frames := 0, cells := 0, slots := 0, locals := 0 } : Room)).room.cells = 0 := rfl
  have hRs : (headSpec ((Cond.code y_Mo_touch prog_9_method_14_code 2 (some .boolean)) :: gw) ({ frames := 0, cells := 0, slots := 0, locals := 0 } : Room)).room.slots = 0 := rfl
  have hA : ∀ q : Nat, s.heap.size ≤ q → A q := fun q h => by rw [← hAe]; exact Or.inr h
  have hS : va_S A s.heap s.heap [] := va_S.rf
  have hP : va_P (dC, dI) vwCl [(o0, .inr (7, [.int (iZ th), .int (iZ nb), .int (iZ nr), .ref oK, .ref oF, .ref oS, .ref oE, .int (iZ us), .int (iZ fi), .ref oY, .ref oH, .int (iZ nh), .int (iZ bb), .int (iZ ee), .int (iZ fd), .int (iZ ww), .int (iZ le), .ref oW, .ref oT, .int (iZ rd)])), (oT, .inl (cZ, 2048, .inl (fun j => iZ (tc j))))] s.heap := hP
  have hl := lv_entry ([.ref o0, .int (iZ x)]) (n := 2) (Nat.le_of_ble_eq_true rfl)
  rw [lg_entry_eq]
  generalize (lg_sl ([.ref o0, .int (iZ x)]) ++ List.replicate (2 - (lg_sl ([.ref o0, .int (iZ x)])).length) Slot.unset).toArray = ls at hl ⊢
  have hl : lv_has ls 2 [(0, .ref o0), (1, .int (iZ x))] := hl
  obtain ⟨hx1, hx2⟩ := hx0
  have ht1 := htc x.toNat
  refine lv_aload_n hx hb d_Mo_touch_0 rfl (lv_at hl 0 rfl) ?_
  refine lv_iconst (v := iZ 0) hx hb d_Mo_touch_1 rfl ?_
  refine va_put (D := (dC, dI)) (ci := 7) (v := .int (iZ 0)) (ty := t_Mo 0) (C := "LogDeskModel") (T := F_Mo) (N := 20) hx hb htg hin_Mo t_Mo t_Mo_ok n_Mo hown hK hP hD hS 0 rfl rfl 0 (by decide) (htg _ k_474) (fun _ h9 => h9) rfl (by decide +kernel) rfl rfl (Nat.le_of_ble_eq_true rfl) d_Mo_touch_2 (fun H locs hP hD hS => ?_)
  have hP : va_P (dC, dI) vwCl [(o0, .inr (7, [.int (iZ 0), .int (iZ nb), .int (iZ nr), .ref oK, .ref oF, .ref oS, .ref oE, .int (iZ us), .int (iZ fi), .ref oY, .ref oH, .int (iZ nh), .int (iZ bb), .int (iZ ee), .int (iZ fd), .int (iZ ww), .int (iZ le), .ref oW, .ref oT, .int (iZ rd)])), (oT, .inl (cZ, 2048, .inl (fun j => iZ (tc j))))] H := hP
  have hD : va_D A [(o0, .inr (7, [.int (iZ 0), .int (iZ nb), .int (iZ nr), .ref oK, .ref oF, .ref oS, .ref oE, .int (iZ us), .int (iZ fi), .ref oY, .ref oH, .int (iZ nh), .int (iZ bb), .int (iZ ee), .int (iZ fd), .int (iZ ww), .int (iZ le), .ref oW, .ref oT, .int (iZ rd)])), (oT, .inl (cZ, 2048, .inl (fun j => iZ (tc j))))] := hD
  refine lv_iload_n hx hb d_Mo_touch_5 rfl (lv_at hl 1 rfl) ?_
  refine zz_if_lt (tgt := 25) hx hb d_Mo_touch_6 (by decide) ⟨by omega, by omega⟩ (fun c_1 => ?_) (fun c_1 => ?_)
  · refine lv_iconst (v := iZ 0) hx hb d_Mo_touch_25 rfl ?_
    have eW : ∀ (x0 y0 : Nat → Int), x0 = y0 → ([(o0, .inr (7, [.int (iZ 0), .int (iZ nb), .int (iZ nr), .ref oK, .ref oF, .ref oS, .ref oE, .int (iZ us), .int (iZ fi), .ref oY, .ref oH, .int (iZ nh), .int (iZ bb), .int (iZ ee), .int (iZ fd), .int (iZ ww), .int (iZ le), .ref oW, .ref oT, .int (iZ rd)])), (oT, .inl (cZ, 2048, .inl (fun j => iZ (x0 j))))] : va_W) = [(o0, .inr (7, [.int (iZ 0), .int (iZ nb), .int (iZ nr), .ref oK, .ref oF, .ref oS, .ref oE, .int (iZ us), .int (iZ fi), .ref oY, .ref oH, .int (iZ nh), .int (iZ bb), .int (iZ ee), .int (iZ fd), .int (iZ ww), .int (iZ le), .ref oW, .ref oT, .int (iZ rd)])), (oT, .inl (cZ, 2048, .inl (fun j => iZ (y0 j))))] := by intros; subst_vars; rfl
    have eW := eW tc (if ((0 ≤ x ∧ x < 2048) ∧ tc x.toNat = 0) then va_up tc x.toNat 1 else tc) (by first | rfl | exact (if_pos (by omega)).symm | exact (if_neg (by omega)).symm)
    have hP : va_P (dC, dI) vwCl [(o0, .inr (7, [.int (iZ 0), .int (iZ nb), .int (iZ nr), .ref oK, .ref oF, .ref oS, .ref oE, .int (iZ us), .int (iZ fi), .ref oY, .ref oH, .int (iZ nh), .int (iZ bb), .int (iZ ee), .int (iZ fd), .int (iZ ww), .int (iZ le), .ref oW, .ref oT, .int (iZ rd)])), (oT, .inl (cZ, 2048, .inl (fun j => iZ ((if ((0 ≤ x ∧ x < 2048) ∧ tc x.toNat = 0) then va_up tc x.toNat 1 else tc) j))))] H := eW ▸ hP
    have hD : va_D A [(o0, .inr (7, [.int (iZ 0), .int (iZ nb), .int (iZ nr), .ref oK, .ref oF, .ref oS, .ref oE, .int (iZ us), .int (iZ fi), .ref oY, .ref oH, .int (iZ nh), .int (iZ bb), .int (iZ ee), .int (iZ fd), .int (iZ ww), .int (iZ le), .ref oW, .ref oT, .int (iZ rd)])), (oT, .inl (cZ, 2048, .inl (fun j => iZ ((if ((0 ≤ x ∧ x < 2048) ∧ tc x.toNat = 0) then va_up tc x.toNat 1 else tc) j))))] := eW ▸ hD
    exact W.zret (v := (iZ 0)) hx hb hr rfl (fun t ht hW => ⟨⟨_, (), rfl, (congrArg iZ (by omega)), by rw [ht]; exact hP, va_K.moved hW.alike hK, hAe ▸ hD⟩, hAe ▸ hS.F ht⟩) (hAe ▸ hS.2.2) d_Mo_touch_26
  · refine lv_iload_n hx hb d_Mo_touch_9 rfl (lv_at hl 1 rfl) ?_
    refine lv_sipush (v := iZ 2047) hx hb d_Mo_touch_10 (by decide) ?_
    refine zz_icmp_gt (tgt := 25) hx hb d_Mo_touch_13 (by decide) ⟨by omega, by omega⟩ ⟨by omega, by omega⟩ (fun c_2 => ?_) (fun c_2 => ?_)
    · refine lv_iconst (v := iZ 0) hx hb d_Mo_touch_25 rfl ?_
      have eW : ∀ (x0 y0 : Nat → Int), x0 = y0 → ([(o0, .inr (7, [.int (iZ 0), .int (iZ nb), .int (iZ nr), .ref oK, .ref oF, .ref oS, .ref oE, .int (iZ us), .int (iZ fi), .ref oY, .ref oH, .int (iZ nh), .int (iZ bb), .int (iZ ee), .int (iZ fd), .int (iZ ww), .int (iZ le), .ref oW, .ref oT, .int (iZ rd)])), (oT, .inl (cZ, 2048, .inl (fun j => iZ (x0 j))))] : va_W) = [(o0, .inr (7, [.int (iZ 0), .int (iZ nb), .int (iZ nr), .ref oK, .ref oF, .ref oS, .ref oE, .int (iZ us), .int (iZ fi), .ref oY, .ref oH, .int (iZ nh), .int (iZ bb), .int (iZ ee), .int (iZ fd), .int (iZ ww), .int (iZ le), .ref oW, .ref oT, .int (iZ rd)])), (oT, .inl (cZ, 2048, .inl (fun j => iZ (y0 j))))] := by intros; subst_vars; rfl
      have eW := eW tc (if ((0 ≤ x ∧ x < 2048) ∧ tc x.toNat = 0) then va_up tc x.toNat 1 else tc) (by first | rfl | exact (if_pos (by omega)).symm | exact (if_neg (by omega)).symm)
      have hP : va_P (dC, dI) vwCl [(o0, .inr (7, [.int (iZ 0), .int (iZ nb), .int (iZ nr), .ref oK, .ref oF, .ref oS, .ref oE, .int (iZ us), .int (iZ fi), .ref oY, .ref oH, .int (iZ nh), .int (iZ bb), .int (iZ ee), .int (iZ fd), .int (iZ ww), .int (iZ le), .ref oW, .ref oT, .int (iZ rd)])), (oT, .inl (cZ, 2048, .inl (fun j => iZ ((if ((0 ≤ x ∧ x < 2048) ∧ tc x.toNat = 0) then va_up tc x.toNat 1 else tc) j))))] H := eW ▸ hP
      have hD : va_D A [(o0, .inr (7, [.int (iZ 0), .int (iZ nb), .int (iZ nr), .ref oK, .ref oF, .ref oS, .ref oE, .int (iZ us), .int (iZ fi), .ref oY, .ref oH, .int (iZ nh), .int (iZ bb), .int (iZ ee), .int (iZ fd), .int (iZ ww), .int (iZ le), .ref oW, .ref oT, .int (iZ rd)])), (oT, .inl (cZ, 2048, .inl (fun j => iZ ((if ((0 ≤ x ∧ x < 2048) ∧ tc x.toNat = 0) then va_up tc x.toNat 1 else tc) j))))] := eW ▸ hD
      exact W.zret (v := (iZ 0)) hx hb hr rfl (fun t ht hW => ⟨⟨_, (), rfl, (congrArg iZ (by omega)), by rw [ht]; exact hP, va_K.moved hW.alike hK, hAe ▸ hD⟩, hAe ▸ hS.F ht⟩) (hAe ▸ hS.2.2) d_Mo_touch_26
    · refine lv_aload_n hx hb d_Mo_touch_16 rfl (lv_at hl 0 rfl) ?_
      refine va_get (D := (dC, dI)) (ci := 7) (v := .ref oT) (C := "LogDeskModel") (T := F_Mo) (N := 20) hx hb htg hin_Mo hown hK hP 0 rfl rfl 18 (by decide) (htg _ k_492) (fun _ h9 => h9) rfl d_Mo_touch_17 ?_
      refine lv_iload_n hx hb d_Mo_touch_20 rfl (lv_at hl 1 rfl) ?_
      refine zz_zald hx hb hK hP 1 3 rfl rfl (by omega) (by omega) (by omega) d_Mo_touch_21 ?_
      refine zz_if_eq (tgt := 27) hx hb d_Mo_touch_22 (by decide) ⟨by omega, by omega⟩ (fun c_3 => ?_) (fun c_3 => ?_)
      · refine lv_aload_n hx hb d_Mo_touch_27 rfl (lv_at hl 0 rfl) ?_
        refine va_get (D := (dC, dI)) (ci := 7) (v := .ref oT) (C := "LogDeskModel") (T := F_Mo) (N := 20) hx hb htg hin_Mo hown hK hP 0 rfl rfl 18 (by decide) (htg _ k_492) (fun _ h9 => h9) rfl d_Mo_touch_28 ?_
        refine lv_iload_n hx hb d_Mo_touch_31 rfl (lv_at hl 1 rfl) ?_
        refine lv_iconst (v := iZ 1) hx hb d_Mo_touch_32 rfl ?_
        refine zz_zast hx hb hK hP hD hS 1 3 rfl rfl (by omega) (by omega) (by omega) (by omega) d_Mo_touch_33 (fun H locs hP hD hS => ?_)
        have hP : va_P (dC, dI) vwCl [(o0, .inr (7, [.int (iZ 0), .int (iZ nb), .int (iZ nr), .ref oK, .ref oF, .ref oS, .ref oE, .int (iZ us), .int (iZ fi), .ref oY, .ref oH, .int (iZ nh), .int (iZ bb), .int (iZ ee), .int (iZ fd), .int (iZ ww), .int (iZ le), .ref oW, .ref oT, .int (iZ rd)])), (oT, .inl (cZ, 2048, .inl (fun j => iZ ((va_up tc (x).toNat 1) j))))] H := hP
        have hD : va_D A [(o0, .inr (7, [.int (iZ 0), .int (iZ nb), .int (iZ nr), .ref oK, .ref oF, .ref oS, .ref oE, .int (iZ us), .int (iZ fi), .ref oY, .ref oH, .int (iZ nh), .int (iZ bb), .int (iZ ee), .int (iZ fd), .int (iZ ww), .int (iZ le), .ref oW, .ref oT, .int (iZ rd)])), (oT, .inl (cZ, 2048, .inl (fun j => iZ ((va_up tc (x).toNat 1) j))))] := hD
        refine lv_iconst (v := iZ 1) hx hb d_Mo_touch_34 rfl ?_
        have eW : ∀ (x0 y0 : Nat → Int), x0 = y0 → ([(o0, .inr (7, [.int (iZ 0), .int (iZ nb), .int (iZ nr), .ref oK, .ref oF, .ref oS, .ref oE, .int (iZ us), .int (iZ fi), .ref oY, .ref oH, .int (iZ nh), .int (iZ bb), .int (iZ ee), .int (iZ fd), .int (iZ ww), .int (iZ le), .ref oW, .ref oT, .int (iZ rd)])), (oT, .inl (cZ, 2048, .inl (fun j => iZ (x0 j))))] : va_W) = [(o0, .inr (7, [.int (iZ 0), .int (iZ nb), .int (iZ nr), .ref oK, .ref oF, .ref oS, .ref oE, .int (iZ us), .int (iZ fi), .ref oY, .ref oH, .int (iZ nh), .int (iZ bb), .int (iZ ee), .int (iZ fd), .int (iZ ww), .int (iZ le), .ref oW, .ref oT, .int (iZ rd)])), (oT, .inl (cZ, 2048, .inl (fun j => iZ (y0 j))))] := by intros; subst_vars; rfl
        have eW := eW (va_up tc (x).toNat 1) (if ((0 ≤ x ∧ x < 2048) ∧ tc x.toNat = 0) then va_up tc x.toNat 1 else tc) (by first | rfl | exact (if_pos (by omega)).symm | exact (if_neg (by omega)).symm)
        have hP : va_P (dC, dI) vwCl [(o0, .inr (7, [.int (iZ 0), .int (iZ nb), .int (iZ nr), .ref oK, .ref oF, .ref oS, .ref oE, .int (iZ us), .int (iZ fi), .ref oY, .ref oH, .int (iZ nh), .int (iZ bb), .int (iZ ee), .int (iZ fd), .int (iZ ww), .int (iZ le), .ref oW, .ref oT, .int (iZ rd)])), (oT, .inl (cZ, 2048, .inl (fun j => iZ ((if ((0 ≤ x ∧ x < 2048) ∧ tc x.toNat = 0) then va_up tc x.toNat 1 else tc) j))))] H := eW ▸ hP
        have hD : va_D A [(o0, .inr (7, [.int (iZ 0), .int (iZ nb), .int (iZ nr), .ref oK, .ref oF, .ref oS, .ref oE, .int (iZ us), .int (iZ fi), .ref oY, .ref oH, .int (iZ nh), .int (iZ bb), .int (iZ ee), .int (iZ fd), .int (iZ ww), .int (iZ le), .ref oW, .ref oT, .int (iZ rd)])), (oT, .inl (cZ, 2048, .inl (fun j => iZ ((if ((0 ≤ x ∧ x < 2048) ∧ tc x.toNat = 0) then va_up tc x.toNat 1 else tc) j))))] := eW ▸ hD
        exact W.zret (v := (iZ 1)) hx hb hr rfl (fun t ht hW => ⟨⟨_, (), rfl, (congrArg iZ (by omega)), by rw [ht]; exact hP, va_K.moved hW.alike hK, hAe ▸ hD⟩, hAe ▸ hS.F ht⟩) (hAe ▸ hS.2.2) d_Mo_touch_35
      · refine lv_iconst (v := iZ 0) hx hb d_Mo_touch_25 rfl ?_
        have eW : ∀ (x0 y0 : Nat → Int), x0 = y0 → ([(o0, .inr (7, [.int (iZ 0), .int (iZ nb), .int (iZ nr), .ref oK, .ref oF, .ref oS, .ref oE, .int (iZ us), .int (iZ fi), .ref oY, .ref oH, .int (iZ nh), .int (iZ bb), .int (iZ ee), .int (iZ fd), .int (iZ ww), .int (iZ le), .ref oW, .ref oT, .int (iZ rd)])), (oT, .inl (cZ, 2048, .inl (fun j => iZ (x0 j))))] : va_W) = [(o0, .inr (7, [.int (iZ 0), .int (iZ nb), .int (iZ nr), .ref oK, .ref oF, .ref oS, .ref oE, .int (iZ us), .int (iZ fi), .ref oY, .ref oH, .int (iZ nh), .int (iZ bb), .int (iZ ee), .int (iZ fd), .int (iZ ww), .int (iZ le), .ref oW, .ref oT, .int (iZ rd)])), (oT, .inl (cZ, 2048, .inl (fun j => iZ (y0 j))))] := by intros; subst_vars; rfl
        have eW := eW tc (if ((0 ≤ x ∧ x < 2048) ∧ tc x.toNat = 0) then va_up tc x.toNat 1 else tc) (by first | rfl | exact (if_pos (by omega)).symm | exact (if_neg (by omega)).symm)
        have hP : va_P (dC, dI) vwCl [(o0, .inr (7, [.int (iZ 0), .int (iZ nb), .int (iZ nr), .ref oK, .ref oF, .ref oS, .ref oE, .int (iZ us), .int (iZ fi), .ref oY, .ref oH, .int (iZ nh), .int (iZ bb), .int (iZ ee), .int (iZ fd), .int (iZ ww), .int (iZ le), .ref oW, .ref oT, .int (iZ rd)])), (oT, .inl (cZ, 2048, .inl (fun j => iZ ((if ((0 ≤ x ∧ x < 2048) ∧ tc x.toNat = 0) then va_up tc x.toNat 1 else tc) j))))] H := eW ▸ hP
        have hD : va_D A [(o0, .inr (7, [.int (iZ 0), .int (iZ nb), .int (iZ nr), .ref oK, .ref oF, .ref oS, .ref oE, .int (iZ us), .int (iZ fi), .ref oY, .ref oH, .int (iZ nh), .int (iZ bb), .int (iZ ee), .int (iZ fd), .int (iZ ww), .int (iZ le), .ref oW, .ref oT, .int (iZ rd)])), (oT, .inl (cZ, 2048, .inl (fun j => iZ ((if ((0 ≤ x ∧ x < 2048) ∧ tc x.toNat = 0) then va_up tc x.toNat 1 else tc) j))))] := eW ▸ hD
        exact W.zret (v := (iZ 0)) hx hb hr rfl (fun t ht hW => ⟨⟨_, (), rfl, (congrArg iZ (by omega)), by rw [ht]; exact hP, va_K.moved hW.alike hK, hAe ▸ hD⟩, hAe ▸ hS.F ht⟩) (hAe ▸ hS.2.2) d_Mo_touch_26
set_option maxHeartbeats 4000000 in
set_option maxRecDepth 100000 in
theorem c_Mo_untouch (l : Launch) (dC : Nat → ClassId) (dI : Nat → Nat → Nat) (cB : ClassId) (cI : ClassId) (cJ : ClassId) (cZ : ClassId) (cQ : ClassId) (o0 oK oF oS oE oY oH oW oT : Nat) (sz : Nat) (th : Int) (nb : Int) (nr : Int) (us : Int) (fi : Int) (nh : Int) (bb : Int) (ee : Int) (fd : Int) (ww : Int) (le : Int) (rd : Int) (tc : Nat → Int) : Met l y_Mo_untouch ((Cond.code y_Mo_untouch prog_9_method_15_code 2 none) :: gw) ({ frames := 0, cells := 0, slots := 0, locals := 0 } : Room) (zPc (dC, dI) [(cB, .byte), (cI, .int), (cJ, .long), (cZ, .boolean), (cQ, .object "LogDesk$Block")] [.ref o0] [(o0, .inr (7, [.int (iZ th), .int (iZ nb), .int (iZ nr), .ref oK, .ref oF, .ref oS, .ref oE, .int (iZ us), .int (iZ fi), .ref oY, .ref oH, .int (iZ nh), .int (iZ bb), .int (iZ ee), .int (iZ fd), .int (iZ ww), .int (iZ le), .ref oW, .ref oT, .int (iZ rd)])), (oT, .inl (cZ, 2048, .inl (fun j => iZ (tc j))))] sz) (va_Qv (fun (_ : Unit) => True) (zB (dC, dI) [(cB, .byte), (cI, .int), (cJ, .long), (cZ, .boolean), (cQ, .object "LogDesk$Block")] (va_A [(o0, .inr (7, [.int (iZ th), .int (iZ nb), .int (iZ nr), .ref oK, .ref oF, .ref oS, .ref oE, .int (iZ us), .int (iZ fi), .ref oY, .ref oH, .int (iZ nh), .int (iZ bb), .int (iZ ee), .int (iZ fd), .int (iZ ww), .int (iZ le), .ref oW, .ref oT, .int (iZ rd)])), (oT, .inl (cZ, 2048, .inl (fun j => iZ (tc j))))] sz) [(o0, .inr (7, [.int (iZ th), .int (iZ nb), .int (iZ nr), .ref oK, .ref oF, .ref oS, .ref oE, .int (iZ us), .int (iZ fi), .ref oY, .ref oH, .int (iZ nh), .int (iZ bb), .int (iZ ee), .int (iZ fd), .int (iZ ww), .int (iZ le), .ref oW, .ref oT, .int (iZ rd)])), (oT, .inl (cZ, 2048, .inl (fun j => iZ ((fun j => if j < 2048 then 0 else tc j) j))))]) (va_A [(o0, .inr (7, [.int (iZ th), .int (iZ nb), .int (iZ nr), .ref oK, .ref oF, .ref oS, .ref oE, .int (iZ us), .int (iZ fi), .ref oY, .ref oH, .int (iZ nh), .int (iZ bb), .int (iZ ee), .int (iZ fd), .int (iZ ww), .int (iZ le), .ref oW, .ref oT, .int (iZ rd)])), (oT, .inl (cZ, 2048, .inl (fun j => iZ (tc j))))] sz)) 0 0 (va_A [(o0, .inr (7, [.int (iZ th), .int (iZ nb), .int (iZ nr), .ref oK, .ref oF, .ref oS, .ref oE, .int (iZ us), .int (iZ fi), .ref oY, .ref oH, .int (iZ nh), .int (iZ bb), .int (iZ ee), .int (iZ fd), .int (iZ ww), .int (iZ le), .ref oW, .ref oT, .int (iZ rd)])), (oT, .inl (cZ, 2048, .inl (fun j => iZ (tc j))))] sz) := by
  refine Met.ofW (cc := prog_9_method_15_code) (maxL := 2) (ret := none) (by decide) rfl ?_
  intro p e s m args below meth c s₁ B hml hv
  obtain ⟨rfl, hsz, hP, hK, hD0, hZ⟩ := hv
  have hx := B.exec
  have hb := B.bytes
  have hr := B.returns
  have hts := atoms_spec (ws := (Cond.code y_Mo_untouch prog_9_method_15_code 2 none) :: gw) B.pre
  have htg : ∀ w ∈ gw, w.before _ s = true := fun w h => hts w (List.mem_cons_of_mem _ h)
  have hown : s.vm.findClass "LogDeskModel" = some m.cls := findClass_of_methodNamed B.named
  have hlocks := B.notSynchronized
  subst hsz
  have hD := hD0.self (sz := s.heap.size)
  generalize hAe : va_A [(o0, .inr (7, [.int (iZ th), .int (iZ nb), .int (iZ nr), .ref oK, .ref oF, .ref oS, .ref oE, .int (iZ us), .int (iZ fi), .ref oY, .ref oH, .int (iZ nh), .int (iZ bb), .int (iZ ee), .int (iZ fd), .int (iZ ww), .int (iZ le), .ref oW, .ref oT, .int (iZ rd)])), (oT, .inl (cZ, 2048, .inl (fun j => iZ (tc j))))] s.heap.size = A at hD ⊢
  have hRc : (headSpec ((Cond.code y_Mo_untouch prog_9_method_15_code 2 none) :: gw) ({ frames := 0, cells := 0, slots := 0, locals := 0 } : Room)).room.cells = 0 := rfl
  have hRs : (headSpec ((Cond.code y_Mo_untouch prog_9_method_15_code 2 none) :: gw) ({ frames := 0, cells := 0, slots := 0, locals := 0 } : Room)).room.slots = 0 := rfl
  generalize hQ : MQ below (va_Qv (fun (_ : Unit) => True) (zB (dC, dI) [(cB, .byte), (cI, .int), (cJ, .long), (cZ, .boolean), (cQ, .object "LogDesk$Block")] A [(o0, .inr (7, [.int (iZ th), .int (iZ nb), .int (iZ nr), .ref oK, .ref oF, .ref oS, .ref oE, .int (iZ us), .int (iZ fi), .ref oY, .ref oH, .int (iZ nh), .int (iZ bb), .int (iZ ee), .int (iZ fd), .int (iZ ww), .int (iZ le), .ref oW, .ref oT, .int (iZ rd)])), (oT, .inl (cZ, 2048, .inl (fun j => iZ ((fun j => if j < 2048 then 0 else tc j) j))))]) A) [.ref o0].toArray s 0 0 A = QQ
  have hA : ∀ q : Nat, s.heap.size ≤ q → A q := fun q h => by rw [← hAe]; exact Or.inr h
  have hS : va_S A s.heap s.heap [] := va_S.rf
  have hP : va_P (dC, dI) vwCl [(o0, .inr (7, [.int (iZ th), .int (iZ nb), .int (iZ nr), .ref oK, .ref oF, .ref oS, .ref oE, .int (iZ us), .int (iZ fi), .ref oY, .ref oH, .int (iZ nh), .int (iZ bb), .int (iZ ee), .int (iZ fd), .int (iZ ww), .int (iZ le), .ref oW, .ref oT, .int (iZ rd)])), (oT, .inl (cZ, 2048, .inl (fun j => iZ (tc j))))] s.heap := hP
  have hl := lv_entry ([.ref o0]) (n := 2) (Nat.le_of_ble_eq_true rfl)
  rw [lg_entry_eq]
  generalize (lg_sl ([.ref o0]) ++ List.replicate (2 - (lg_sl ([.ref o0])).length) Slot.unset).toArray = ls at hl ⊢
  have hl : lv_has ls 2 [(0, .ref o0)] := hl
  refine lv_iconst (v := iZ 0) hx hb d_Mo_untouch_0 rfl ?_
  refine lv_istore_n (lv' := [(1, .int (iZ 0)), (0, .ref o0)]) hx hb d_Mo_untouch_1 rfl hl (by decide) rfl (fun ls hl => ?_)
  have loop2 : ∀ (nn : Nat) (i : Int) (w : Nat → Int) (H : Heap) (locs : List Loc) (ls : Array Slot), (0 ≤ i ∧ i ≤ 2048) → (∀ j : Nat, w j = if (j : Int) < i then 0 else tc j) → (2048 - i < (nn : Int)) → va_P (dC, dI) vwCl [(o0, .inr (7, [.int (iZ th), .int (iZ nb), .int (iZ nr), .ref oK, .ref oF, .ref oS, .ref oE, .int (iZ us), .int (iZ fi), .ref oY, .ref oH, .int (iZ nh), .int (iZ bb), .int (iZ ee), .int (iZ fd), .int (iZ ww), .int (iZ le), .ref oW, .ref oT, .int (iZ rd)])), (oT, .inl (cZ, 2048, .inl (fun j => iZ (w j))))] H → va_D A [(o0, .inr (7, [.int (iZ th), .int (iZ nb), .int (iZ nr), .ref oK, .ref oF, .ref oS, .ref oE, .int (iZ us), .int (iZ fi), .ref oY, .ref oH, .int (iZ nh), .int (iZ bb), .int (iZ ee), .int (iZ fd), .int (iZ ww), .int (iZ le), .ref oW, .ref oT, .int (iZ rd)])), (oT, .inl (cZ, 2048, .inl (fun j => iZ (w j))))] → va_S A s.heap H locs → lv_has ls 2 [(0, .ref o0), (1, .int (iZ i))] → W p l e (headSpec ((Cond.code y_Mo_untouch prog_9_method_15_code 2 none) :: gw) ({ frames := 0, cells := 0, slots := 0, locals := 0 } : Room)).room s m [.ref o0].toArray below meth c H locs 0 0 QQ (F0 m 2 ls []) := by
    intro nn
    induction nn with
    | zero => intro i w H locs ls hi hw hm hP hD hS hl; exfalso; omega
    | succ nn ih =>
      intro i w H locs ls hi hw hm hP hD hS hl
      refine lv_iload_n hx hb d_Mo_untouch_2 rfl (lv_at hl 1 rfl) ?_
      refine lv_sipush (v := iZ 2048) hx hb d_Mo_untouch_3 (by decide) ?_
      refine zz_icmp_ge (tgt := 22) hx hb d_Mo_untouch_6 (by decide) ⟨by omega, by omega⟩ ⟨by omega, by omega⟩ (fun c_1 => ?_) (fun c_1 => ?_)
      · have eW : ∀ (x0 y0 : Nat → Int), x0 = y0 → ([(o0, .inr (7, [.int (iZ th), .int (iZ nb), .int (iZ nr), .ref oK, .ref oF, .ref oS, .ref oE, .int (iZ us), .int (iZ fi), .ref oY, .ref oH, .int (iZ nh), .int (iZ bb), .int (iZ ee), .int (iZ fd), .int (iZ ww), .int (iZ le), .ref oW, .ref oT, .int (iZ rd)])), (oT, .inl (cZ, 2048, .inl (fun j => iZ (x0 j))))] : va_W) = [(o0, .inr (7, [.int (iZ th), .int (iZ nb), .int (iZ nr), .ref oK, .ref oF, .ref oS, .ref oE, .int (iZ us), .int (iZ fi), .ref oY, .ref oH, .int (iZ nh), .int (iZ bb), .int (iZ ee), .int (iZ fd), .int (iZ ww), .int (iZ le), .ref oW, .ref oT, .int (iZ rd)])), (oT, .inl (cZ, 2048, .inl (fun j => iZ (y0 j))))] := by intros; subst_vars; rfl
        have eW := eW w (fun j => if j < 2048 then 0 else tc j) (up_end (N := 2048) (by omega) hw)
        have hP : va_P (dC, dI) vwCl [(o0, .inr (7, [.int (iZ th), .int (iZ nb), .int (iZ nr), .ref oK, .ref oF, .ref oS, .ref oE, .int (iZ us), .int (iZ fi), .ref oY, .ref oH, .int (iZ nh), .int (iZ bb), .int (iZ ee), .int (iZ fd), .int (iZ ww), .int (iZ le), .ref oW, .ref oT, .int (iZ rd)])), (oT, .inl (cZ, 2048, .inl (fun j => iZ ((fun j => if j < 2048 then 0 else tc j) j))))] H := eW ▸ hP
        have hD : va_D A [(o0, .inr (7, [.int (iZ th), .int (iZ nb), .int (iZ nr), .ref oK, .ref oF, .ref oS, .ref oE, .int (iZ us), .int (iZ fi), .ref oY, .ref oH, .int (iZ nh), .int (iZ bb), .int (iZ ee), .int (iZ fd), .int (iZ ww), .int (iZ le), .ref oW, .ref oT, .int (iZ rd)])), (oT, .inl (cZ, 2048, .inl (fun j => iZ ((fun j => if j < 2048 then 0 else tc j) j))))] := eW ▸ hD
        subst hQ
        exact W.vret hx hb hr (fun t ht hW => ⟨⟨(), rfl, trivial, by rw [ht]; exact hP, va_K.moved hW.alike hK, hAe ▸ hD⟩, hAe ▸ hS.F ht⟩) (hAe ▸ hS.2.2) d_Mo_untouch_22
      · refine lv_aload_n hx hb d_Mo_untouch_9 rfl (lv_at hl 0 rfl) ?_
        refine va_get (D := (dC, dI)) (ci := 7) (v := .ref oT) (C := "LogDeskModel") (T := F_Mo) (N := 20) hx hb htg hin_Mo hown hK hP 0 rfl rfl 18 (by decide) (htg _ k_492) (fun _ h9 => h9) rfl d_Mo_untouch_10 ?_
        refine lv_iload_n hx hb d_Mo_untouch_13 rfl (lv_at hl 1 rfl) ?_
        refine lv_iconst (v := iZ 0) hx hb d_Mo_untouch_14 rfl ?_
        refine zz_zast hx hb hK hP hD hS 1 3 rfl rfl (by omega) (by omega) (by omega) (by omega) d_Mo_untouch_15 (fun H locs hP hD hS => ?_)
        have hP : va_P (dC, dI) vwCl [(o0, .inr (7, [.int (iZ th), .int (iZ nb), .int (iZ nr), .ref oK, .ref oF, .ref oS, .ref oE, .int (iZ us), .int (iZ fi), .ref oY, .ref oH, .int (iZ nh), .int (iZ bb), .int (iZ ee), .int (iZ fd), .int (iZ ww), .int (iZ le), .ref oW, .ref oT, .int (iZ rd)])), (oT, .inl (cZ, 2048, .inl (fun j => iZ ((va_up w (i).toNat 0) j))))] H := hP
        have hD : va_D A [(o0, .inr (7, [.int (iZ th), .int (iZ nb), .int (iZ nr), .ref oK, .ref oF, .ref oS, .ref oE, .int (iZ us), .int (iZ fi), .ref oY, .ref oH, .int (iZ nh), .int (iZ bb), .int (iZ ee), .int (iZ fd), .int (iZ ww), .int (iZ le), .ref oW, .ref oT, .int (iZ rd)])), (oT, .inl (cZ, 2048, .inl (fun j => iZ ((va_up w (i).toNat 0) j))))] := hD
        refine lv_iinc (v := iZ (i + 1)) (lv' := [(1, .int (iZ (i + 1))), (0, .ref o0)]) hx hb d_Mo_untouch_16 hl (k := 1) rfl (iZ_add _ _) (by decide) rfl (fun ls hl => ?_)
        refine lv_goto (tgt := 2) hx hb d_Mo_untouch_19 (by decide) ?_
        exact ih (i + 1) (va_up w (i).toNat 0) H _ ls (by omega) (up_lt hi.1 hw) (by omega) hP hD hS (lv_sub hl [1, 0] rfl)
  exact loop2 (Int.toNat (2048 - 0) + 1) 0 tc s.heap _ ls (by omega) (fun j => (if_neg (by omega)).symm) (by omega) hP hD hS (lv_sub hl [1, 0] rfl)
set_option maxHeartbeats 4000000 in
set_option maxRecDepth 100000 in
theorem c_Mo_mark (l : Launch) (dC : Nat → ClassId) (dI : Nat → Nat → Nat) (cB : ClassId) (cI : ClassId) (cJ : ClassId) (cZ : ClassId) (cQ : ClassId) (o0 oK oF oS oE oY oH oW oT : Nat) (sz : Nat) (th : Int) (nb : Int) (nr : Int) (us : Int) (fi : Int) (nh : Int) (bb : Int) (ee : Int) (fd : Int) (ww : Int) (le : Int) (rd : Int) (tc : Nat → Int) : Met l y_Mo_mark ((Cond.code y_Mo_mark prog_9_method_16_code 1 (some .int)) :: gw) ({ frames := 1, cells := 0, slots := 0, locals := 21 } : Room) (zPc (dC, dI) [(cB, .byte), (cI, .int), (cJ, .long), (cZ, .boolean), (cQ, .object "LogDesk$Block")] [.ref o0] [(o0, .inr (7, [.int (iZ th), .int (iZ nb), .int (iZ nr), .ref oK, .ref oF, .ref oS, .ref oE, .int (iZ us), .int (iZ fi), .ref oY, .ref oH, .int (iZ nh), .int (iZ bb), .int (iZ ee), .int (iZ fd), .int (iZ ww), .int (iZ le), .ref oW, .ref oT, .int (iZ rd)])), (oT, .inl (cZ, 2048, .inl (fun j => iZ (tc j))))] sz) (va_Qi (fun (r : Int32) (_ : Unit) => r = iZ ee) (zB (dC, dI) [(cB, .byte), (cI, .int), (cJ, .long), (cZ, .boolean), (cQ, .object "LogDesk$Block")] (va_A [(o0, .inr (7, [.int (iZ th), .int (iZ nb), .int (iZ nr), .ref oK, .ref oF, .ref oS, .ref oE, .int (iZ us), .int (iZ fi), .ref oY, .ref oH, .int (iZ nh), .int (iZ bb), .int (iZ ee), .int (iZ fd), .int (iZ ww), .int (iZ le), .ref oW, .ref oT, .int (iZ rd)])), (oT, .inl (cZ, 2048, .inl (fun j => iZ (tc j))))] sz) [(o0, .inr (7, [.int (iZ 0), .int (iZ nb), .int (iZ nr), .ref oK, .ref oF, .ref oS, .ref oE, .int (iZ us), .int (iZ fi), .ref oY, .ref oH, .int (iZ nh), .int (iZ bb), .int (iZ ee), .int (iZ fd), .int (iZ ww), .int (iZ le), .ref oW, .ref oT, .int (iZ rd)])), (oT, .inl (cZ, 2048, .inl (fun j => iZ ((fun j => if j < 2048 then 0 else tc j) j))))]) (va_A [(o0, .inr (7, [.int (iZ th), .int (iZ nb), .int (iZ nr), .ref oK, .ref oF, .ref oS, .ref oE, .int (iZ us), .int (iZ fi), .ref oY, .ref oH, .int (iZ nh), .int (iZ bb), .int (iZ ee), .int (iZ fd), .int (iZ ww), .int (iZ le), .ref oW, .ref oT, .int (iZ rd)])), (oT, .inl (cZ, 2048, .inl (fun j => iZ (tc j))))] sz)) 0 0 (va_A [(o0, .inr (7, [.int (iZ th), .int (iZ nb), .int (iZ nr), .ref oK, .ref oF, .ref oS, .ref oE, .int (iZ us), .int (iZ fi), .ref oY, .ref oH, .int (iZ nh), .int (iZ bb), .int (iZ ee), .int (iZ fd), .int (iZ ww), .int (iZ le), .ref oW, .ref oT, .int (iZ rd)])), (oT, .inl (cZ, 2048, .inl (fun j => iZ (tc j))))] sz) := by
  refine Met.ofW (cc := prog_9_method_16_code) (maxL := 1) (ret := (some .int)) (by decide) rfl ?_
  intro p e s m args below meth c s₁ B hml hv
  obtain ⟨rfl, hsz, hP, hK, hD0, hZ⟩ := hv
  have hx := B.exec
  have hb := B.bytes
  have hr := B.returns
  have hts := atoms_spec (ws := (Cond.code y_Mo_mark prog_9_method_16_code 1 (some .int)) :: gw) B.pre
  have htg : ∀ w ∈ gw, w.before _ s = true := fun w h => hts w (List.mem_cons_of_mem _ h)
  have hown : s.vm.findClass "LogDeskModel" = some m.cls := findClass_of_methodNamed B.named
  have hlocks := B.notSynchronized
  subst hsz
  have hD := hD0.self (sz := s.heap.size)
  generalize hAe : va_A [(o0, .inr (7, [.int (iZ th), .int (iZ nb), .int (iZ nr), .ref oK, .ref oF, .ref oS, .ref oE, .int (iZ us), .int (iZ fi), .ref oY, .ref oH, .int (iZ nh), .int (iZ bb), .int (iZ ee), .int (iZ fd), .int (iZ ww), .int (iZ le), .ref oW, .ref oT, .int (iZ rd)])), (oT, .inl (cZ, 2048, .inl (fun j => iZ (tc j))))] s.heap.size = A at hD ⊢
  have hRc : (headSpec ((Cond.code y_Mo_mark prog_9_method_16_code 1 (some .int)) :: gw) ({ frames := 1, cells := 0, slots := 0, locals := 21 } : Room)).room.cells = 0 := rfl
  have hRs : (headSpec ((Cond.code y_Mo_mark prog_9_method_16_code 1 (some .int)) :: gw) ({ frames := 1, cells := 0, slots := 0, locals := 21 } : Room)).room.slots = 0 := rfl
  have hA : ∀ q : Nat, s.heap.size ≤ q → A q := fun q h => by rw [← hAe]; exact Or.inr h
  have hS : va_S A s.heap s.heap [] := va_S.rf
  have hP : va_P (dC, dI) vwCl [(o0, .inr (7, [.int (iZ th), .int (iZ nb), .int (iZ nr), .ref oK, .ref oF, .ref oS, .ref oE, .int (iZ us), .int (iZ fi), .ref oY, .ref oH, .int (iZ nh), .int (iZ bb), .int (iZ ee), .int (iZ fd), .int (iZ ww), .int (iZ le), .ref oW, .ref oT, .int (iZ rd)])), (oT, .inl (cZ, 2048, .inl (fun j => iZ (tc j))))] s.heap := hP
  have hl := lv_entry ([.ref o0]) (n := 1) (Nat.le_of_ble_eq_true rfl)
  rw [lg_entry_eq]
  generalize (lg_sl ([.ref o0]) ++ List.replicate (1 - (lg_sl ([.ref o0])).length) Slot.unset).toArray = ls at hl ⊢
  have hl : lv_has ls 1 [(0, .ref o0)] := hl
  refine lv_aload_n hx hb d_Mo_mark_0 rfl (lv_at hl 0 rfl) ?_
  refine lv_iconst (v := iZ 0) hx hb d_Mo_mark_1 rfl ?_
  refine va_put (D := (dC, dI)) (ci := 7) (v := .int (iZ 0)) (ty := t_Mo 0) (C := "LogDeskModel") (T := F_Mo) (N := 20) hx hb htg hin_Mo t_Mo t_Mo_ok n_Mo hown hK hP hD hS 0 rfl rfl 0 (by decide) (htg _ k_474) (fun _ h9 => h9) rfl (by decide +kernel) rfl rfl (Nat.le_of_ble_eq_true rfl) d_Mo_mark_2 (fun H locs hP hD hS => ?_)
  have hP : va_P (dC, dI) vwCl [(o0, .inr (7, [.int (iZ 0), .int (iZ nb), .int (iZ nr), .ref oK, .ref oF, .ref oS, .ref oE, .int (iZ us), .int (iZ fi), .ref oY, .ref oH, .int (iZ nh), .int (iZ bb), .int (iZ ee), .int (iZ fd), .int (iZ ww), .int (iZ le), .ref oW, .ref oT, .int (iZ rd)])), (oT, .inl (cZ, 2048, .inl (fun j => iZ (tc j))))] H := hP
  have hD : va_D A [(o0, .inr (7, [.int (iZ 0), .int (iZ nb), .int (iZ nr), .ref oK, .ref oF, .ref oS, .ref oE, .int (iZ us), .int (iZ fi), .ref oY, .ref oH, .int (iZ nh), .int (iZ bb), .int (iZ ee), .int (iZ fd), .int (iZ ww), .int (iZ le), .ref oW, .ref oT, .int (iZ rd)])), (oT, .inl (cZ, 2048, .inl (fun j => iZ (tc j))))] := hD
  refine lv_aload_n hx hb d_Mo_mark_5 rfl (lv_at hl 0 rfl) ?_
  refine z_v (wr := []) (va_runV (As := []) (rest := []) ⟨hx, hb, hml, hown, htg⟩ (c_Mo_untouch l dC dI cB cI cJ cZ cQ o0 oK oF oS oE oY oH oW oT H.size 0 nb nr us fi nh bb ee fd ww le rd tc) (cwV 0 htg (gw_V k_585 k_587 k_p14 k_7 k_588) rfl rfl rfl (by decide +kernel) ⟨Nat.le_of_ble_eq_true rfl, Nat.le_of_ble_eq_true rfl⟩) (zPreV hK hP hD hZ [0, 1] rfl (by decide) 0 (ci := 7) rfl rfl) rfl rfl hl.1 rfl (lv_room (Nat.le_of_ble_eq_true rfl)) d_Mo_mark_6 ⟨by omega, by omega⟩) hP hD hS hA [0, 1] [] rfl rfl (by decide) (by decide) (fun H locs hP hD hS => ?_)
  have hP : va_P (dC, dI) vwCl [(o0, .inr (7, [.int (iZ 0), .int (iZ nb), .int (iZ nr), .ref oK, .ref oF, .ref oS, .ref oE, .int (iZ us), .int (iZ fi), .ref oY, .ref oH, .int (iZ nh), .int (iZ bb), .int (iZ ee), .int (iZ fd), .int (iZ ww), .int (iZ le), .ref oW, .ref oT, .int (iZ rd)])), (oT, .inl (cZ, 2048, .inl (fun j => iZ ((fun j => if j < 2048 then 0 else tc j) j))))] H := hP
  have hD : va_D A [(o0, .inr (7, [.int (iZ 0), .int (iZ nb), .int (iZ nr), .ref oK, .ref oF, .ref oS, .ref oE, .int (iZ us), .int (iZ fi), .ref oY, .ref oH, .int (iZ nh), .int (iZ bb), .int (iZ ee), .int (iZ fd), .int (iZ ww), .int (iZ le), .ref oW, .ref oT, .int (iZ rd)])), (oT, .inl (cZ, 2048, .inl (fun j => iZ ((fun j => if j < 2048 then 0 else tc j) j))))] := hD
  refine lv_aload_n hx hb d_Mo_mark_9 rfl (lv_at hl 0 rfl) ?_
  refine va_get (D := (dC, dI)) (ci := 7) (v := .int (iZ ee)) (C := "LogDeskModel") (T := F_Mo) (N := 20) hx hb htg hin_Mo hown hK hP 0 rfl rfl 13 (by decide) (htg _ k_487) (fun _ h9 => h9) rfl d_Mo_mark_10 ?_
  exact W.iret (v := (iZ ee)) hx hb hr (fun t ht hW => ⟨⟨_, (), rfl, rfl, by rw [ht]; exact hP, va_K.moved hW.alike hK, hAe ▸ hD⟩, hAe ▸ hS.F ht⟩) (hAe ▸ hS.2.2) d_Mo_mark_13
