set_option maxHeartbeats 4000000 in
set_option maxRecDepth 100000 in
theorem c_Mo_state (l : Launch) (dC : Nat → ClassId) (dI : Nat → Nat → Nat) (cB : ClassId) (cI : ClassId) (cJ : ClassId) (cZ : ClassId) (cQ : ClassId) (o0 oK oF oS oE oY oH oW oT : Nat) (sz : Nat) (th : Int) (nb : Int) (nr : Int) (us : Int) (fi : Int) (nh : Int) (bb : Int) (ee : Int) (fd : Int) (ww : Int) (le : Int) (rd : Int) (ed : Nat → Int) (wt : Nat → Int) (tc : Nat → Int) (x : Int) (hrd : -1 ≤ rd ∧ rd < 800) (hfi : 0 ≤ fi ∧ fi ≤ 800) (hwt : ∀ j : Nat, -1 ≤ wt j ∧ wt j < 1000000000) (htc : ∀ j : Nat, tc j = 0 ∨ tc j = 1) (hx0 : iB x) : Met l y_Mo_state ((Cond.code y_Mo_state prog_9_method_24_code 5 (some .int)) :: gw) ({ frames := 0, cells := 0, slots := 0, locals := 0 } : Room) (zPc (dC, dI) [(cB, .byte), (cI, .int), (cJ, .long), (cZ, .boolean), (cQ, .object "LogDesk$Block")] [.ref o0, .int (iZ x)] [(o0, .inr (7, [.int (iZ th), .int (iZ nb), .int (iZ nr), .ref oK, .ref oF, .ref oS, .ref oE, .int (iZ us), .int (iZ fi), .ref oY, .ref oH, .int (iZ nh), .int (iZ bb), .int (iZ ee), .int (iZ fd), .int (iZ ww), .int (iZ le), .ref oW, .ref oT, .int (iZ rd)])), (oE, .inl (cI, 800, .inl (fun j => iZ (ed j)))), (oW, .inl (cI, 6, .inl (fun j => iZ (wt j)))), (oT, .inl (cZ, 2048, .inl (fun j => iZ (tc j))))] sz) (va_Qi (fun (r : Int32) (_ : Unit) => r = iZ (if x = 7 then (if rd < fi then -1 else ed rd.toNat) else if x = 0 then bb else if x = 1 then ee else if x = 2 then fd else if x = 3 then ww else if x = 4 then nh else if x = 5 then mcnt wt 6 else if x = 6 then wcnt tc 2048 else -1)) (zB (dC, dI) [(cB, .byte), (cI, .int), (cJ, .long), (cZ, .boolean), (cQ, .object "LogDesk$Block")] (va_A [(o0, .inr (7, [.int (iZ th), .int (iZ nb), .int (iZ nr), .ref oK, .ref oF, .ref oS, .ref oE, .int (iZ us), .int (iZ fi), .ref oY, .ref oH, .int (iZ nh), .int (iZ bb), .int (iZ ee), .int (iZ fd), .int (iZ ww), .int (iZ le), .ref oW, .ref oT, .int (iZ rd)])), (oE, .inl (cI, 800, .inl (fun j => iZ (ed j)))), (oW, .inl (cI, 6, .inl (fun j => iZ (wt j)))), (oT, .inl (cZ, 2048, .inl (fun j => iZ (tc j))))] sz) [(o0, .inr (7, [.int (iZ 0), .int (iZ nb), .int (iZ nr), .ref oK, .ref oF, .ref oS, .ref oE, .int (iZ us), .int (iZ fi), .ref oY, .ref oH, .int (iZ nh), .int (iZ bb), .int (iZ ee), .int (iZ fd), .int (iZ ww), .int (iZ le), .ref oW, .ref oT, .int (iZ rd)])), (oE, .inl (cI, 800, .inl (fun j => iZ (ed j)))), (oW, .inl (cI, 6, .inl (fun j => iZ (wt j)))), (oT, .inl (cZ, 2048, .inl (fun j => iZ (tc j))))]) (va_A [(o0, .inr (7, [.int (iZ th), .int (iZ nb), .int (iZ nr), .ref oK, .ref oF, .ref oS, .ref oE, .int (iZ us), .int (iZ fi), .ref oY, .ref oH, .int (iZ nh), .int (iZ bb), .int (iZ ee), .int (iZ fd), .int (iZ ww), .int (iZ le), .ref oW, .ref oT, .int (iZ rd)])), (oE, .inl (cI, 800, .inl (fun j => iZ (ed j)))), (oW, .inl (cI, 6, .inl (fun j => iZ (wt j)))), (oT, .inl (cZ, 2048, .inl (fun j => iZ (tc j))))] sz)) 0 0 (va_A [(o0, .inr (7, [.int (iZ th), .int (iZ nb), .int (iZ nr), .ref oK, .ref oF, .ref oS, .ref oE, .int (iZ us), .int (iZ fi), .ref oY, .ref oH, .int (iZ nh), .int (iZ bb), .int (iZ ee), .int (iZ fd), .int (iZ ww), .int (iZ le), .ref oW, .ref oT, .int (iZ rd)])), (oE, .inl (cI, 800, .inl (fun j => iZ (ed j)))), (oW, .inl (cI, 6, .inl (fun j => iZ (wt j)))), (oT, .inl (cZ, 2048, .inl (fun j => iZ (tc j))))] sz) := by
  refine Met.ofW (cc := prog_9_method_24_code) (maxL := 5) (ret := (some .int)) (by decide) rfl ?_
  intro p e s m args below meth c s₁ B hml hv
  obtain ⟨rfl, hsz, hP, hK, hD0, hZ⟩ := hv
  have hx := B.exec
  have hb := B.bytes
  have hr := B.returns
  have hts := atoms_spec (ws := (Cond.code y_Mo_state prog_9_method_24_code 5 (some .int)) :: gw) B.pre
  have htg : ∀ w ∈ gw, w.before _ s = true := fun w h => hts w (List.mem_cons_of_mem _ h)
  have hown : s.vm.findClass "LogDeskModel" = some m.cls := findClass_of_methodNamed B.named
  have hlocks := B.notSynchronized
  subst hsz
  have hD := hD0.self (sz := s.heap.size)
  generalize hAe : va_A [(o0, .inr (7, [.int (iZ th), .int (iZ nb), .int (iZ nr), .ref oK, .ref oF, .ref oS, .ref oE, .int (iZ us), .int (iZ fi), .ref oY, .ref oH, .int (iZ nh), .int (iZ bb), .int (iZ ee), .int (iZ fd), .int (iZ ww), .int (iZ le), .ref oW, .ref oT, .int (iZ rd)])), (oE, .inl (cI, 800, .inl (fun j => iZ (ed j)))), (oW, .inl (cI, 6, .inl (fun j => iZ (wt j)))), (oT, .inl (cZ, 2048, .inl (fun j => iZ (tc j))))] s.heap.size = A at hD ⊢
  have hRc : (headSpec ((Cond.code y_Mo_state prog_9_method_24_code 5 (some .int)) :: gw) ({ frames := 0, cells := 0, slots := 0, locals := 0 } : Room)).room.cells = 0 := rfl
  have hRs : (headSpec ((Cond.code y_Mo_state prog_9_method_24_code 5 (some .int)) :: gw) ({ frames := 0, cells := 0, slots := 0, locals := 0 } : Room)).room.slots = 0 := rfl
  generalize hQ : MQ below (va_Qi (fun (r : Int32) (_ : Unit) => r = iZ (if x = 7 then (if rd < fi then -1 else ed rd.toNat) else if x = 0 then bb else if x = 1 then ee else if x = 2 then fd else if x = 3 then ww else if x = 4 then nh else if x = 5 then mcnt wt 6 else if x = 6 then wcnt tc 2048 else -1)) (zB (dC, dI) [(cB, .byte), (cI, .int), (cJ, .long), (cZ, .boolean), (cQ, .object "LogDesk$Block")] A [(o0, .inr (7, [.int (iZ 0), .int (iZ nb), .int (iZ nr), .ref oK, .ref oF, .ref oS, .ref oE, .int (iZ us), .int (iZ fi), .ref oY, .ref oH, .int (iZ nh), .int (iZ bb), .int (iZ ee), .int (iZ fd), .int (iZ ww), .int (iZ le), .ref oW, .ref oT, .int (iZ rd)])), (oE, .inl (cI, 800, .inl (fun j => iZ (ed j)))), (oW, .inl (cI, 6, .inl (fun j => iZ (wt j)))), (oT, .inl (cZ, 2048, .inl (fun j => iZ (tc j))))]) A) [.ref o0, .int (iZ x)].toArray s 0 0 A = QQ
  have hA : ∀ q : Nat, s.heap.size ≤ q → A q := fun q h => by rw [← hAe]; exact Or.inr h
  have hS : va_S A s.heap s.heap [] := va_S.rf
  have hP : va_P (dC, dI) vwCl [(o0, .inr (7, [.int (iZ th), .int (iZ nb), .int (iZ nr), .ref oK, .ref oF, .ref oS, .ref oE, .int (iZ us), .int (iZ fi), .ref oY, .ref oH, .int (iZ nh), .int (iZ bb), .int (iZ ee), .int (iZ fd), .int (iZ ww), .int (iZ le), .ref oW, .ref oT, .int (iZ rd)])), (oE, .inl (cI, 800, .inl (fun j => iZ (ed j)))), (oW, .inl (cI, 6, .inl (fun j => iZ (wt j)))), (oT, .inl (cZ, 2048, .inl (fun j => iZ (tc j))))] s.heap := hP
  have hl := lv_entry ([.ref o0, .int (iZ x)]) (n := 5) (Nat.le_of_ble_eq_true rfl)
  rw [lg_entry_eq]
  generalize (lg_sl ([.ref o0, .int (iZ x)]) ++ List.replicate (5 - (lg_sl ([.ref o0, .int (iZ x)])).length) Slot.unset).toArray = ls at hl ⊢
  have hl : lv_has ls 5 [(0, .ref o0), (1, .int (iZ x))] := hl
  obtain ⟨hx1, hx2⟩ := hx0
  refine lv_aload_n hx hb d_Mo_state_0 rfl (lv_at hl 0 rfl) ?_
  refine lv_iconst (v := iZ 0) hx hb d_Mo_state_1 rfl ?_
  refine va_put (D := (dC, dI)) (ci := 7) (v := .int (iZ 0)) (ty := t_Mo 0) (C := "LogDeskModel") (T := F_Mo) (N := 20) hx hb htg hin_Mo t_Mo t_Mo_ok n_Mo hown hK hP hD hS 0 rfl rfl 0 (by decide) (htg _ k_474) (fun _ h9 => h9) rfl (by decide +kernel) rfl rfl (Nat.le_of_ble_eq_true rfl) d_Mo_state_2 (fun H locs hP hD hS => ?_)
  have hP : va_P (dC, dI) vwCl [(o0, .inr (7, [.int (iZ 0), .int (iZ nb), .int (iZ nr), .ref oK, .ref oF, .ref oS, .ref oE, .int (iZ us), .int (iZ fi), .ref oY, .ref oH, .int (iZ nh), .int (iZ bb), .int (iZ ee), .int (iZ fd), .int (iZ ww), .int (iZ le), .ref oW, .ref oT, .int (iZ rd)])), (oE, .inl (cI, 800, .inl (fun j => iZ (ed j)))), (oW, .inl (cI, 6, .inl (fun j => iZ (wt j)))), (oT, .inl (cZ, 2048, .inl (fun j => iZ (tc j))))] H := hP
  have hD : va_D A [(o0, .inr (7, [.int (iZ 0), .int (iZ nb), .int (iZ nr), .ref oK, .ref oF, .ref oS, .ref oE, .int (iZ us), .int (iZ fi), .ref oY, .ref oH, .int (iZ nh), .int (iZ bb), .int (iZ ee), .int (iZ fd), .int (iZ ww), .int (iZ le), .ref oW, .ref oT, .int (iZ rd)])), (oE, .inl (cI, 800, .inl (fun j => iZ (ed j)))), (oW, .inl (cI, 6, .inl (fun j => iZ (wt j)))), (oT, .inl (cZ, 2048, .inl (fun j => iZ (tc j))))] := hD
  refine lv_iconst (v := iZ 0) hx hb d_Mo_state_5 rfl ?_
  refine lv_istore_n (lv' := [(2, .int (iZ 0)), (0, .ref o0), (1, .int (iZ x))]) hx hb d_Mo_state_6 rfl hl (by decide) rfl (fun ls hl => ?_)
  refine lv_iconst (v := iZ 0) hx hb d_Mo_state_7 rfl ?_
  refine lv_istore_n (lv' := [(3, .int (iZ 0)), (2, .int (iZ 0)), (0, .ref o0), (1, .int (iZ x))]) hx hb d_Mo_state_8 rfl hl (by decide) rfl (fun ls hl => ?_)
  have loop9 : ∀ (nn : Nat) (i : Int) (w : Int) (H : Heap) (locs : List Loc) (ls : Array Slot), (0 ≤ i ∧ i ≤ 6) → (0 ≤ w ∧ w ≤ i) → (w = mcnt wt i.toNat) → (6 - i < (nn : Int)) → va_P (dC, dI) vwCl [(o0, .inr (7, [.int (iZ 0), .int (iZ nb), .int (iZ nr), .ref oK, .ref oF, .ref oS, .ref oE, .int (iZ us), .int (iZ fi), .ref oY, .ref oH, .int (iZ nh), .int (iZ bb), .int (iZ ee), .int (iZ fd), .int (iZ ww), .int (iZ le), .ref oW, .ref oT, .int (iZ rd)])), (oE, .inl (cI, 800, .inl (fun j => iZ (ed j)))), (oW, .inl (cI, 6, .inl (fun j => iZ (wt j)))), (oT, .inl (cZ, 2048, .inl (fun j => iZ (tc j))))] H → va_D A [(o0, .inr (7, [.int (iZ 0), .int (iZ nb), .int (iZ nr), .ref oK, .ref oF, .ref oS, .ref oE, .int (iZ us), .int (iZ fi), .ref oY, .ref oH, .int (iZ nh), .int (iZ bb), .int (iZ ee), .int (iZ fd), .int (iZ ww), .int (iZ le), .ref oW, .ref oT, .int (iZ rd)])), (oE, .inl (cI, 800, .inl (fun j => iZ (ed j)))), (oW, .inl (cI, 6, .inl (fun j => iZ (wt j)))), (oT, .inl (cZ, 2048, .inl (fun j => iZ (tc j))))] → va_S A s.heap H locs → lv_has ls 5 [(0, .ref o0), (1, .int (iZ x)), (2, .int (iZ w)), (3, .int (iZ i))] → W p l e (headSpec ((Cond.code y_Mo_state prog_9_method_24_code 5 (some .int)) :: gw) ({ frames := 0, cells := 0, slots := 0, locals := 0 } : Room)).room s m [.ref o0, .int (iZ x)].toArray below meth c H locs 0 0 QQ (F0 m 9 ls []) := by
    intro nn
    induction nn with
    | zero => intro i w H locs ls hi hw0 hw hm hP hD hS hl; exfalso; omega
    | succ nn ih =>
      intro i w H locs ls hi hw0 hw hm hP hD hS hl
      have hg1 := hwt i.toNat
      refine lv_iload_n hx hb d_Mo_state_9 rfl (lv_at hl 3 rfl) ?_
      refine lv_bipush (v := iZ 6) hx hb d_Mo_state_10 (by decide) ?_
      refine zz_icmp_ge (tgt := 38) hx hb d_Mo_state_12 (by decide) ⟨by omega, by omega⟩ ⟨by omega, by omega⟩ (fun c_1 => ?_) (fun c_1 => ?_)
      · refine lv_iconst (v := iZ 0) hx hb d_Mo_state_38 rfl ?_
        refine lv_istore_n (lv' := [(3, .int (iZ 0)), (0, .ref o0), (1, .int (iZ x)), (2, .int (iZ w))]) hx hb d_Mo_state_39 rfl hl (by decide) rfl (fun ls hl => ?_)
        refine lv_iconst (v := iZ 0) hx hb d_Mo_state_40 rfl ?_
        refine lv_istore (lv' := [(4, .int (iZ 0)), (3, .int (iZ 0)), (0, .ref o0), (1, .int (iZ x)), (2, .int (iZ w))]) hx hb d_Mo_state_41 hl (by decide) rfl (fun ls hl => ?_)
        have loop43 : ∀ (nn : Nat) (j : Int) (v : Int) (H : Heap) (locs : List Loc) (ls : Array Slot), (0 ≤ j ∧ j ≤ 2048) → (0 ≤ v ∧ v ≤ j) → (v = wcnt tc j.toNat) → (2048 - j < (nn : Int)) → va_P (dC, dI) vwCl [(o0, .inr (7, [.int (iZ 0), .int (iZ nb), .int (iZ nr), .ref oK, .ref oF, .ref oS, .ref oE, .int (iZ us), .int (iZ fi), .ref oY, .ref oH, .int (iZ nh), .int (iZ bb), .int (iZ ee), .int (iZ fd), .int (iZ ww), .int (iZ le), .ref oW, .ref oT, .int (iZ rd)])), (oE, .inl (cI, 800, .inl (fun j => iZ (ed j)))), (oW, .inl (cI, 6, .inl (fun j => iZ (wt j)))), (oT, .inl (cZ, 2048, .inl (fun j => iZ (tc j))))] H → va_D A [(o0, .inr (7, [.int (iZ 0), .int (iZ nb), .int (iZ nr), .ref oK, .ref oF, .ref oS, .ref oE, .int (iZ us), .int (iZ fi), .ref oY, .ref oH, .int (iZ nh), .int (iZ bb), .int (iZ ee), .int (iZ fd), .int (iZ ww), .int (iZ le), .ref oW, .ref oT, .int (iZ rd)])), (oE, .inl (cI, 800, .inl (fun j => iZ (ed j)))), (oW, .inl (cI, 6, .inl (fun j => iZ (wt j)))), (oT, .inl (cZ, 2048, .inl (fun j => iZ (tc j))))] → va_S A s.heap H locs → lv_has ls 5 [(0, .ref o0), (1, .int (iZ x)), (2, .int (iZ w)), (3, .int (iZ v)), (4, .int (iZ j))] → W p l e (headSpec ((Cond.code y_Mo_state prog_9_method_24_code 5 (some .int)) :: gw) ({ frames := 0, cells := 0, slots := 0, locals := 0 } : Room)).room s m [.ref o0, .int (iZ x)].toArray below meth c H locs 0 0 QQ (F0 m 43 ls []) := by
          intro nn
          induction nn with
          | zero => intro j v H locs ls hj hv0 hv hm hP hD hS hl; exfalso; omega
          | succ nn ih =>
            intro j v H locs ls hj hv0 hv hm hP hD hS hl
            have ht1 := htc j.toNat
            refine lv_iload hx hb d_Mo_state_43 (lv_at hl 4 rfl) ?_
            refine lv_sipush (v := iZ 2048) hx hb d_Mo_state_45 (by decide) ?_
            refine zz_icmp_ge (tgt := 75) hx hb d_Mo_state_48 (by decide) ⟨by omega, by omega⟩ ⟨by omega, by omega⟩ (fun c_2 => ?_) (fun c_2 => ?_)
            · have hw9 : mcnt wt 6 = w := by rw [hw]; congr 1; omega
              have hv9 : wcnt tc 2048 = v := by rw [hv]; congr 1; omega
              refine lv_iload_n hx hb d_Mo_state_75 rfl (lv_at hl 1 rfl) ?_
              refine lv_bipush (v := iZ 7) hx hb d_Mo_state_76 (by decide) ?_
              refine zz_icmp_ne (tgt := 106) hx hb d_Mo_state_78 (by decide) ⟨by omega, by omega⟩ ⟨by omega, by omega⟩ (fun c_3 => ?_) (fun c_3 => ?_)
              · refine lv_iload_n hx hb d_Mo_state_106 rfl (lv_at hl 1 rfl) ?_
                refine zz_if_ne (tgt := 117) hx hb d_Mo_state_107 (by decide) ⟨by omega, by omega⟩ (fun c_4 => ?_) (fun c_4 => ?_)
                · refine lv_iload_n hx hb d_Mo_state_117 rfl (lv_at hl 1 rfl) ?_
                  refine lv_iconst (v := iZ 1) hx hb d_Mo_state_118 rfl ?_
                  refine zz_icmp_ne (tgt := 129) hx hb d_Mo_state_119 (by decide) ⟨by omega, by omega⟩ ⟨by omega, by omega⟩ (fun c_5 => ?_) (fun c_5 => ?_)
                  · refine lv_iload_n hx hb d_Mo_state_129 rfl (lv_at hl 1 rfl) ?_
                    refine lv_iconst (v := iZ 2) hx hb d_Mo_state_130 rfl ?_
                    refine zz_icmp_ne (tgt := 141) hx hb d_Mo_state_131 (by decide) ⟨by omega, by omega⟩ ⟨by omega, by omega⟩ (fun c_6 => ?_) (fun c_6 => ?_)
                    · refine lv_iload_n hx hb d_Mo_state_141 rfl (lv_at hl 1 rfl) ?_
                      refine lv_iconst (v := iZ 3) hx hb d_Mo_state_142 rfl ?_
                      refine zz_icmp_ne (tgt := 153) hx hb d_Mo_state_143 (by decide) ⟨by omega, by omega⟩ ⟨by omega, by omega⟩ (fun c_7 => ?_) (fun c_7 => ?_)
                      · refine lv_iload_n hx hb d_Mo_state_153 rfl (lv_at hl 1 rfl) ?_
                        refine lv_iconst (v := iZ 4) hx hb d_Mo_state_154 rfl ?_
                        refine zz_icmp_ne (tgt := 165) hx hb d_Mo_state_155 (by decide) ⟨by omega, by omega⟩ ⟨by omega, by omega⟩ (fun c_8 => ?_) (fun c_8 => ?_)
                        · refine lv_iload_n hx hb d_Mo_state_165 rfl (lv_at hl 1 rfl) ?_
                          refine lv_iconst (v := iZ 5) hx hb d_Mo_state_166 rfl ?_
                          refine zz_icmp_ne (tgt := 174) hx hb d_Mo_state_167 (by decide) ⟨by omega, by omega⟩ ⟨by omega, by omega⟩ (fun c_9 => ?_) (fun c_9 => ?_)
                          · refine lv_iload_n hx hb d_Mo_state_174 rfl (lv_at hl 1 rfl) ?_
                            refine lv_bipush (v := iZ 6) hx hb d_Mo_state_175 (by decide) ?_
                            refine zz_icmp_ne (tgt := 184) hx hb d_Mo_state_177 (by decide) ⟨by omega, by omega⟩ ⟨by omega, by omega⟩ (fun c_10 => ?_) (fun c_10 => ?_)
                            · refine lv_iconst (v := iZ (-1)) hx hb d_Mo_state_184 rfl ?_
                              subst hQ
                              exact W.iret (v := (iZ (-1))) hx hb hr (fun t ht hW => ⟨⟨_, (), rfl, (congrArg iZ (by omega)), by rw [ht]; exact hP, va_K.moved hW.alike hK, hAe ▸ hD⟩, hAe ▸ hS.F ht⟩) (hAe ▸ hS.2.2) d_Mo_state_185
                            · refine lv_iload_n hx hb d_Mo_state_180 rfl (lv_at hl 3 rfl) ?_
                              refine lv_goto (tgt := 185) hx hb d_Mo_state_181 (by decide) ?_
                              subst hQ
                              exact W.iret (v := (iZ v)) hx hb hr (fun t ht hW => ⟨⟨_, (), rfl, (congrArg iZ (by omega)), by rw [ht]; exact hP, va_K.moved hW.alike hK, hAe ▸ hD⟩, hAe ▸ hS.F ht⟩) (hAe ▸ hS.2.2) d_Mo_state_185
                          · refine lv_iload_n hx hb d_Mo_state_170 rfl (lv_at hl 2 rfl) ?_
                            refine lv_goto (tgt := 185) hx hb d_Mo_state_171 (by decide) ?_
                            subst hQ
                            exact W.iret (v := (iZ w)) hx hb hr (fun t ht hW => ⟨⟨_, (), rfl, (congrArg iZ (by omega)), by rw [ht]; exact hP, va_K.moved hW.alike hK, hAe ▸ hD⟩, hAe ▸ hS.F ht⟩) (hAe ▸ hS.2.2) d_Mo_state_185
                        · refine lv_aload_n hx hb d_Mo_state_158 rfl (lv_at hl 0 rfl) ?_
                          refine va_get (D := (dC, dI)) (ci := 7) (v := .int (iZ nh)) (C := "LogDeskModel") (T := F_Mo) (N := 20) hx hb htg hin_Mo hown hK hP 0 rfl rfl 11 (by decide) (htg _ k_485) (fun _ h9 => h9) rfl d_Mo_state_159 ?_
                          refine lv_goto (tgt := 185) hx hb d_Mo_state_162 (by decide) ?_
                          subst hQ
                          exact W.iret (v := (iZ nh)) hx hb hr (fun t ht hW => ⟨⟨_, (), rfl, (congrArg iZ (by omega)), by rw [ht]; exact hP, va_K.moved hW.alike hK, hAe ▸ hD⟩, hAe ▸ hS.F ht⟩) (hAe ▸ hS.2.2) d_Mo_state_185
                      · refine lv_aload_n hx hb d_Mo_state_146 rfl (lv_at hl 0 rfl) ?_
                        refine va_get (D := (dC, dI)) (ci := 7) (v := .int (iZ ww)) (C := "LogDeskModel") (T := F_Mo) (N := 20) hx hb htg hin_Mo hown hK hP 0 rfl rfl 15 (by decide) (htg _ k_489) (fun _ h9 => h9) rfl d_Mo_state_147 ?_
                        refine lv_goto (tgt := 185) hx hb d_Mo_state_150 (by decide) ?_
                        subst hQ
                        exact W.iret (v := (iZ ww)) hx hb hr (fun t ht hW => ⟨⟨_, (), rfl, (congrArg iZ (by omega)), by rw [ht]; exact hP, va_K.moved hW.alike hK, hAe ▸ hD⟩, hAe ▸ hS.F ht⟩) (hAe ▸ hS.2.2) d_Mo_state_185
                    · refine lv_aload_n hx hb d_Mo_state_134 rfl (lv_at hl 0 rfl) ?_
                      refine va_get (D := (dC, dI)) (ci := 7) (v := .int (iZ fd)) (C := "LogDeskModel") (T := F_Mo) (N := 20) hx hb htg hin_Mo hown hK hP 0 rfl rfl 14 (by decide) (htg _ k_488) (fun _ h9 => h9) rfl d_Mo_state_135 ?_
                      refine lv_goto (tgt := 185) hx hb d_Mo_state_138 (by decide) ?_
                      subst hQ
                      exact W.iret (v := (iZ fd)) hx hb hr (fun t ht hW => ⟨⟨_, (), rfl, (congrArg iZ (by omega)), by rw [ht]; exact hP, va_K.moved hW.alike hK, hAe ▸ hD⟩, hAe ▸ hS.F ht⟩) (hAe ▸ hS.2.2) d_Mo_state_185
                  · refine lv_aload_n hx hb d_Mo_state_122 rfl (lv_at hl 0 rfl) ?_
                    refine va_get (D := (dC, dI)) (ci := 7) (v := .int (iZ ee)) (C := "LogDeskModel") (T := F_Mo) (N := 20) hx hb htg hin_Mo hown hK hP 0 rfl rfl 13 (by decide) (htg _ k_487) (fun _ h9 => h9) rfl d_Mo_state_123 ?_
                    refine lv_goto (tgt := 185) hx hb d_Mo_state_126 (by decide) ?_
                    subst hQ
                    exact W.iret (v := (iZ ee)) hx hb hr (fun t ht hW => ⟨⟨_, (), rfl, (congrArg iZ (by omega)), by rw [ht]; exact hP, va_K.moved hW.alike hK, hAe ▸ hD⟩, hAe ▸ hS.F ht⟩) (hAe ▸ hS.2.2) d_Mo_state_185
                · refine lv_aload_n hx hb d_Mo_state_110 rfl (lv_at hl 0 rfl) ?_
                  refine va_get (D := (dC, dI)) (ci := 7) (v := .int (iZ bb)) (C := "LogDeskModel") (T := F_Mo) (N := 20) hx hb htg hin_Mo hown hK hP 0 rfl rfl 12 (by decide) (htg _ k_486) (fun _ h9 => h9) rfl d_Mo_state_111 ?_
                  refine lv_goto (tgt := 185) hx hb d_Mo_state_114 (by decide) ?_
                  subst hQ
                  exact W.iret (v := (iZ bb)) hx hb hr (fun t ht hW => ⟨⟨_, (), rfl, (congrArg iZ (by omega)), by rw [ht]; exact hP, va_K.moved hW.alike hK, hAe ▸ hD⟩, hAe ▸ hS.F ht⟩) (hAe ▸ hS.2.2) d_Mo_state_185
              · refine lv_aload_n hx hb d_Mo_state_81 rfl (lv_at hl 0 rfl) ?_
                refine va_get (D := (dC, dI)) (ci := 7) (v := .int (iZ rd)) (C := "LogDeskModel") (T := F_Mo) (N := 20) hx hb htg hin_Mo hown hK hP 0 rfl rfl 19 (by decide) (htg _ k_493) (fun _ h9 => h9) rfl d_Mo_state_82 ?_
                refine lv_aload_n hx hb d_Mo_state_85 rfl (lv_at hl 0 rfl) ?_
                refine va_get (D := (dC, dI)) (ci := 7) (v := .int (iZ fi)) (C := "LogDeskModel") (T := F_Mo) (N := 20) hx hb htg hin_Mo hown hK hP 0 rfl rfl 8 (by decide) (htg _ k_482) (fun _ h9 => h9) rfl d_Mo_state_86 ?_
                refine zz_icmp_ge (tgt := 96) hx hb d_Mo_state_89 (by decide) ⟨by omega, by omega⟩ ⟨by omega, by omega⟩ (fun c_11 => ?_) (fun c_11 => ?_)
                · refine lv_aload_n hx hb d_Mo_state_96 rfl (lv_at hl 0 rfl) ?_
                  refine va_get (D := (dC, dI)) (ci := 7) (v := .ref oE) (C := "LogDeskModel") (T := F_Mo) (N := 20) hx hb htg hin_Mo hown hK hP 0 rfl rfl 6 (by decide) (htg _ k_480) (fun _ h9 => h9) rfl d_Mo_state_97 ?_
                  refine lv_aload_n hx hb d_Mo_state_100 rfl (lv_at hl 0 rfl) ?_
                  refine va_get (D := (dC, dI)) (ci := 7) (v := .int (iZ rd)) (C := "LogDeskModel") (T := F_Mo) (N := 20) hx hb htg hin_Mo hown hK hP 0 rfl rfl 19 (by decide) (htg _ k_493) (fun _ h9 => h9) rfl d_Mo_state_101 ?_
                  refine zz_iald hx hb hK hP 1 1 rfl rfl (by omega) (by omega) (by omega) d_Mo_state_104 ?_
                  subst hQ
                  exact W.iret (v := (iZ (ed (rd).toNat))) hx hb hr (fun t ht hW => ⟨⟨_, (), rfl, (congrArg iZ (by omega)), by rw [ht]; exact hP, va_K.moved hW.alike hK, hAe ▸ hD⟩, hAe ▸ hS.F ht⟩) (hAe ▸ hS.2.2) d_Mo_state_105
                · refine lv_iconst (v := iZ (-1)) hx hb d_Mo_state_92 rfl ?_
                  refine lv_goto (tgt := 105) hx hb d_Mo_state_93 (by decide) ?_
                  subst hQ
                  exact W.iret (v := (iZ (-1))) hx hb hr (fun t ht hW => ⟨⟨_, (), rfl, (congrArg iZ (by omega)), by rw [ht]; exact hP, va_K.moved hW.alike hK, hAe ▸ hD⟩, hAe ▸ hS.F ht⟩) (hAe ▸ hS.2.2) d_Mo_state_105
            · refine lv_iload_n hx hb d_Mo_state_51 rfl (lv_at hl 3 rfl) ?_
              refine lv_aload_n hx hb d_Mo_state_52 rfl (lv_at hl 0 rfl) ?_
              refine va_get (D := (dC, dI)) (ci := 7) (v := .ref oT) (C := "LogDeskModel") (T := F_Mo) (N := 20) hx hb htg hin_Mo hown hK hP 0 rfl rfl 18 (by decide) (htg _ k_492) (fun _ h9 => h9) rfl d_Mo_state_53 ?_
              refine lv_iload hx hb d_Mo_state_56 (lv_at hl 4 rfl) ?_
              refine zz_zald hx hb hK hP 3 3 rfl rfl (by omega) (by omega) (by omega) d_Mo_state_58 ?_
              refine zz_if_eq (tgt := 66) hx hb d_Mo_state_59 (by decide) ⟨by omega, by omega⟩ (fun c_12 => ?_) (fun c_12 => ?_)
              · refine lv_iconst (v := iZ 0) hx hb d_Mo_state_66 rfl ?_
                refine zz_iadd hx hb d_Mo_state_67 ?_
                refine lv_istore_n (lv' := [(3, .int (iZ (v + 0))), (0, .ref o0), (1, .int (iZ x)), (2, .int (iZ w)), (4, .int (iZ j))]) hx hb d_Mo_state_68 rfl hl (by decide) rfl (fun ls hl => ?_)
                refine lv_iinc (v := iZ (j + 1)) (lv' := [(4, .int (iZ (j + 1))), (3, .int (iZ (v + 0))), (0, .ref o0), (1, .int (iZ x)), (2, .int (iZ w))]) hx hb d_Mo_state_69 hl (k := 4) rfl (iZ_add _ _) (by decide) rfl (fun ls hl => ?_)
                refine lv_goto (tgt := 43) hx hb d_Mo_state_72 (by decide) ?_
                exact ih (j + 1) (v + 0) H _ ls (by omega) (by omega) (by rw [wcnt_step hj.1, ← hv]; first | rw [if_pos (by omega)] | rw [if_neg (by omega)]) (by omega) hP hD hS (lv_sub hl [2, 3, 4, 1, 0] rfl)
              · refine lv_iconst (v := iZ 1) hx hb d_Mo_state_62 rfl ?_
                refine lv_goto (tgt := 67) hx hb d_Mo_state_63 (by decide) ?_
                refine zz_iadd hx hb d_Mo_state_67 ?_
                refine lv_istore_n (lv' := [(3, .int (iZ (v + 1))), (0, .ref o0), (1, .int (iZ x)), (2, .int (iZ w)), (4, .int (iZ j))]) hx hb d_Mo_state_68 rfl hl (by decide) rfl (fun ls hl => ?_)
                refine lv_iinc (v := iZ (j + 1)) (lv' := [(4, .int (iZ (j + 1))), (3, .int (iZ (v + 1))), (0, .ref o0), (1, .int (iZ x)), (2, .int (iZ w))]) hx hb d_Mo_state_69 hl (k := 4) rfl (iZ_add _ _) (by decide) rfl (fun ls hl => ?_)
                refine lv_goto (tgt := 43) hx hb d_Mo_state_72 (by decide) ?_
                exact ih (j + 1) (v + 1) H _ ls (by omega) (by omega) (by rw [wcnt_step hj.1, ← hv]; first | rw [if_pos (by omega)] | rw [if_neg (by omega)]) (by omega) hP hD hS (lv_sub hl [2, 3, 4, 1, 0] rfl)
        exact loop43 (Int.toNat (2048 - 0) + 1) 0 0 H _ ls (by omega) (by omega) rfl (by omega) hP hD hS (lv_sub hl [2, 3, 4, 1, 0] rfl)
      · refine lv_iload_n hx hb d_Mo_state_15 rfl (lv_at hl 2 rfl) ?_
        refine lv_aload_n hx hb d_Mo_state_16 rfl (lv_at hl 0 rfl) ?_
        refine va_get (D := (dC, dI)) (ci := 7) (v := .ref oW) (C := "LogDeskModel") (T := F_Mo) (N := 20) hx hb htg hin_Mo hown hK hP 0 rfl rfl 17 (by decide) (htg _ k_491) (fun _ h9 => h9) rfl d_Mo_state_17 ?_
        refine lv_iload_n hx hb d_Mo_state_20 rfl (lv_at hl 3 rfl) ?_
        refine zz_iald hx hb hK hP 2 1 rfl rfl (by omega) (by omega) (by omega) d_Mo_state_21 ?_
        refine zz_if_lt (tgt := 29) hx hb d_Mo_state_22 (by decide) ⟨by omega, by omega⟩ (fun c_13 => ?_) (fun c_13 => ?_)
        · refine lv_iconst (v := iZ 0) hx hb d_Mo_state_29 rfl ?_
          refine zz_iadd hx hb d_Mo_state_30 ?_
          refine lv_istore_n (lv' := [(2, .int (iZ (w + 0))), (0, .ref o0), (1, .int (iZ x)), (3, .int (iZ i))]) hx hb d_Mo_state_31 rfl hl (by decide) rfl (fun ls hl => ?_)
          refine lv_iinc (v := iZ (i + 1)) (lv' := [(3, .int (iZ (i + 1))), (2, .int (iZ (w + 0))), (0, .ref o0), (1, .int (iZ x))]) hx hb d_Mo_state_32 hl (k := 3) rfl (iZ_add _ _) (by decide) rfl (fun ls hl => ?_)
          refine lv_goto (tgt := 9) hx hb d_Mo_state_35 (by decide) ?_
          exact ih (i + 1) (w + 0) H _ ls (by omega) (by omega) (by rw [mcnt_step hi.1, ← hw]; first | rw [if_pos (by omega)] | rw [if_neg (by omega)]) (by omega) hP hD hS (lv_sub hl [2, 3, 1, 0] rfl)
        · refine lv_iconst (v := iZ 1) hx hb d_Mo_state_25 rfl ?_
          refine lv_goto (tgt := 30) hx hb d_Mo_state_26 (by decide) ?_
          refine zz_iadd hx hb d_Mo_state_30 ?_
          refine lv_istore_n (lv' := [(2, .int (iZ (w + 1))), (0, .ref o0), (1, .int (iZ x)), (3, .int (iZ i))]) hx hb d_Mo_state_31 rfl hl (by decide) rfl (fun ls hl => ?_)
          refine lv_iinc (v := iZ (i + 1)) (lv' := [(3, .int (iZ (i + 1))), (2, .int (iZ (w + 1))), (0, .ref o0), (1, .int (iZ x))]) hx hb d_Mo_state_32 hl (k := 3) rfl (iZ_add _ _) (by decide) rfl (fun ls hl => ?_)
          refine lv_goto (tgt := 9) hx hb d_Mo_state_35 (by decide) ?_
          exact ih (i + 1) (w + 1) H _ ls (by omega) (by omega) (by rw [mcnt_step hi.1, ← hw]; first | rw [if_pos (by omega)] | rw [if_neg (by omega)]) (by omega) hP hD hS (lv_sub hl [2, 3, 1, 0] rfl)
  exact loop9 (Int.toNat (6 - 0) + 1) 0 0 H _ ls (by omega) (by omega) rfl (by omega) hP hD hS (lv_sub hl [2, 3, 1, 0] rfl)
