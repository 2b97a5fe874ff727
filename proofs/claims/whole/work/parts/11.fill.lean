set_option maxHeartbeats 4000000 in
set_option maxRecDepth 100000 in
theorem c_Ar_fillI (l : Launch) (dC : Nat → ClassId) (dI : Nat → Nat → Nat) (cB : ClassId) (cI : ClassId) (cJ : ClassId) (cZ : ClassId) (cQ : ClassId) (h0 : Nat) (sz : Nat) (N : Nat) (u : Nat → Int) (v : Int) (hN : N < 100000) : Met l y_Ar_fillI ((Cond.code y_Ar_fillI prog_18_method_103_code 4 none) :: gw) ({ frames := 0, cells := 0, slots := 0, locals := 0 } : Room) (zPc (dC, dI) [(cB, .byte), (cI, .int), (cJ, .long), (cZ, .boolean), (cQ, .object "LogDesk$Block")] [.ref h0, .int (iZ v)] [(h0, .inl (cI, N, .inl (fun j => iZ (u j))))] sz) (va_Qv (fun (_ : Unit) => True) (zB (dC, dI) [(cB, .byte), (cI, .int), (cJ, .long), (cZ, .boolean), (cQ, .object "LogDesk$Block")] (va_A [(h0, .inl (cI, N, .inl (fun j => iZ (u j))))] sz) [(h0, .inl (cI, N, .inl (fun j => iZ ((fun j => if j < N then v else u j) j))))]) (va_A [(h0, .inl (cI, N, .inl (fun j => iZ (u j))))] sz)) 0 0 (va_A [(h0, .inl (cI, N, .inl (fun j => iZ (u j))))] sz) := by
  refine Met.ofW (cc := prog_18_method_103_code) (maxL := 4) (ret := none) (by decide) rfl ?_
  intro p e s m args below meth c s₁ B hml hv
  obtain ⟨rfl, hsz, hP, hK, hD0, hZ⟩ := hv
  have hx := B.exec
  have hb := B.bytes
  have hr := B.returns
  have hts := atoms_spec (ws := (Cond.code y_Ar_fillI prog_18_method_103_code 4 none) :: gw) B.pre
  have htg : ∀ w ∈ gw, w.before _ s = true := fun w h => hts w (List.mem_cons_of_mem _ h)
  have hown : s.vm.findClass "java/util/Arrays" = some m.cls := findClass_of_methodNamed B.named
  have hlocks := B.notSynchronized
  subst hsz
  have hD := hD0.self (sz := s.heap.size)
  generalize hAe : va_A [(h0, .inl (cI, N, .inl (fun j => iZ (u j))))] s.heap.size = A at hD ⊢
  have hRc : (headSpec ((Cond.code y_Ar_fillI prog_18_method_103_code 4 none) :: gw) ({ frames := 0, cells := 0, slots := 0, locals := 0 } : Room)).room.cells = 0 := rfl
  have hRs : (headSpec ((Cond.code y_Ar_fillI prog_18_method_103_code 4 none) :: gw) ({ frames := 0, cells := 0, slots := 0, locals := 0 } : Room)).room.slots = 0 := rfl
  generalize hQ : MQ below (va_Qv (fun (_ : Unit) => True) (zB (dC, dI) [(cB, .byte), (cI, .int), (cJ, .long), (cZ, .boolean), (cQ, .object "LogDesk$Block")] A [(h0, .inl (cI, N, .inl (fun j => iZ ((fun j => if j < N then v else u j) j))))]) A) [.ref h0, .int (iZ v)].toArray s 0 0 A = QQ
  have hA : ∀ q : Nat, s.heap.size ≤ q → A q := fun q h => by rw [← hAe]; exact Or.inr h
  have hS : va_S A s.heap s.heap [] := va_S.rf
  have hP : va_P (dC, dI) vwCl [(h0, .inl (cI, N, .inl (fun j => iZ (u j))))] s.heap := hP
  have hl := lv_entry ([.ref h0, .int (iZ v)]) (n := 4) (Nat.le_of_ble_eq_true rfl)
  rw [lg_entry_eq]
  generalize (lg_sl ([.ref h0, .int (iZ v)]) ++ List.replicate (4 - (lg_sl ([.ref h0, .int (iZ v)])).length) Slot.unset).toArray = ls at hl ⊢
  have hl : lv_has ls 4 [(0, .ref h0), (1, .int (iZ v))] := hl
  refine lv_iconst (v := iZ 0) hx hb d_Ar_fillI_0 rfl ?_
  refine lv_istore_n (lv' := [(2, .int (iZ 0)), (0, .ref h0), (1, .int (iZ v))]) hx hb d_Ar_fillI_1 rfl hl (by decide) rfl (fun ls hl => ?_)
  refine lv_aload_n hx hb d_Ar_fillI_2 rfl (lv_at hl 1 rfl) ?_
  refine va_alen (v := iZ N) hx hb hK hP 0 1 rfl rfl (by first | rfl | exact (iZ_nat _).symm) d_Ar_fillI_3 ?_
  refine lv_istore_n (lv' := [(3, .int (iZ N)), (2, .int (iZ 0)), (0, .ref h0), (1, .int (iZ v))]) hx hb d_Ar_fillI_4 rfl hl (by decide) rfl (fun ls hl => ?_)
  have loop5 : ∀ (nn : Nat) (i : Int) (w : Nat → Int) (H : Heap) (locs : List Loc) (ls : Array Slot), (0 ≤ i ∧ i ≤ N) → (∀ j : Nat, w j = if (j : Int) < i then v else u j) → ((N : Int) - i < (nn : Int)) → va_P (dC, dI) vwCl [(h0, .inl (cI, N, .inl (fun j => iZ (w j))))] H → va_D A [(h0, .inl (cI, N, .inl (fun j => iZ (w j))))] → va_S A s.heap H locs → lv_has ls 4 [(0, .ref h0), (1, .int (iZ v)), (2, .int (iZ i)), (3, .int (iZ N))] → W p l e (headSpec ((Cond.code y_Ar_fillI prog_18_method_103_code 4 none) :: gw) ({ frames := 0, cells := 0, slots := 0, locals := 0 } : Room)).room s m [.ref h0, .int (iZ v)].toArray below meth c H locs 0 0 QQ (F0 m 5 ls []) := by
    intro nn
    induction nn with
    | zero => intro i w H locs ls hi hw hm hP hD hS hl; exfalso; omega
    | succ nn ih =>
      intro i w H locs ls hi hw hm hP hD hS hl
      refine lv_iload_n hx hb d_Ar_fillI_5 rfl (lv_at hl 2 rfl) ?_
      refine lv_iload_n hx hb d_Ar_fillI_6 rfl (lv_at hl 3 rfl) ?_
      refine zz_icmp_ge (tgt := 20) hx hb d_Ar_fillI_7 (by decide) ⟨by omega, by omega⟩ ⟨by omega, by omega⟩ (fun c_1 => ?_) (fun c_1 => ?_)
      · have eW : ∀ (x0 y0 : Nat → Int), x0 = y0 → ([(h0, .inl (cI, N, .inl (fun j => iZ (x0 j))))] : va_W) = [(h0, .inl (cI, N, .inl (fun j => iZ (y0 j))))] := by intros; subst_vars; rfl
        have eW := eW w (fun j => if j < N then v else u j) (up_end (by omega) hw)
        have hP : va_P (dC, dI) vwCl [(h0, .inl (cI, N, .inl (fun j => iZ ((fun j => if j < N then v else u j) j))))] H := eW ▸ hP
        have hD : va_D A [(h0, .inl (cI, N, .inl (fun j => iZ ((fun j => if j < N then v else u j) j))))] := eW ▸ hD
        subst hQ
        exact W.vret hx hb hr (fun t ht hW => ⟨⟨(), rfl, trivial, by rw [ht]; exact hP, va_K.moved hW.alike hK, hAe ▸ hD⟩, hAe ▸ hS.F ht⟩) (hAe ▸ hS.2.2) d_Ar_fillI_20
      · refine lv_aload_n hx hb d_Ar_fillI_10 rfl (lv_at hl 0 rfl) ?_
        refine lv_iload_n hx hb d_Ar_fillI_11 rfl (lv_at hl 2 rfl) ?_
        refine lv_iload_n hx hb d_Ar_fillI_12 rfl (lv_at hl 1 rfl) ?_
        refine zz_iast hx hb hK hP hD hS 0 1 rfl rfl (by omega) (by omega) (by omega) d_Ar_fillI_13 (fun H locs hP hD hS => ?_)
        have hP : va_P (dC, dI) vwCl [(h0, .inl (cI, N, .inl (fun j => iZ ((va_up w (i).toNat v) j))))] H := hP
        have hD : va_D A [(h0, .inl (cI, N, .inl (fun j => iZ ((va_up w (i).toNat v) j))))] := hD
        refine lv_iinc (v := iZ (i + 1)) (lv' := [(2, .int (iZ (i + 1))), (0, .ref h0), (1, .int (iZ v)), (3, .int (iZ N))]) hx hb d_Ar_fillI_14 hl (k := 2) rfl (iZ_add _ _) (by decide) rfl (fun ls hl => ?_)
        refine lv_goto (tgt := 5) hx hb d_Ar_fillI_17 (by decide) ?_
        exact ih (i + 1) (va_up w (i).toNat v) H _ ls (by omega) (up_lt hi.1 hw) (by omega) hP hD hS (lv_sub hl [1, 2, 0, 3] rfl)
  exact loop5 (Int.toNat ((N : Int) - 0) + 1) 0 u s.heap _ ls (by omega) (fun j => (if_neg (by omega)).symm) (by omega) hP hD hS (lv_sub hl [2, 3, 1, 0] rfl)
set_option maxHeartbeats 4000000 in
set_option maxRecDepth 100000 in
theorem c_Ar_fillJ (l : Launch) (dC : Nat → ClassId) (dI : Nat → Nat → Nat) (cB : ClassId) (cI : ClassId) (cJ : ClassId) (cZ : ClassId) (cQ : ClassId) (h0 : Nat) (sz : Nat) (N : Nat) (u : Nat → Int64) (v : Int64) (hN : N < 100000) : Met l y_Ar_fillJ ((Cond.code y_Ar_fillJ prog_18_method_101_code 5 none) :: gw) ({ frames := 0, cells := 0, slots := 0, locals := 0 } : Room) (zPc (dC, dI) [(cB, .byte), (cI, .int), (cJ, .long), (cZ, .boolean), (cQ, .object "LogDesk$Block")] [.ref h0, .long v] [(h0, .inl (cJ, N, .inr (.inl u)))] sz) (va_Qv (fun (_ : Unit) => True) (zB (dC, dI) [(cB, .byte), (cI, .int), (cJ, .long), (cZ, .boolean), (cQ, .object "LogDesk$Block")] (va_A [(h0, .inl (cJ, N, .inr (.inl u)))] sz) [(h0, .inl (cJ, N, .inr (.inl (fun j => if j < N then v else u j))))]) (va_A [(h0, .inl (cJ, N, .inr (.inl u)))] sz)) 0 0 (va_A [(h0, .inl (cJ, N, .inr (.inl u)))] sz) := by
  refine Met.ofW (cc := prog_18_method_101_code) (maxL := 5) (ret := none) (by decide) rfl ?_
  intro p e s m args below meth c s₁ B hml hv
  obtain ⟨rfl, hsz, hP, hK, hD0, hZ⟩ := hv
  have hx := B.exec
  have hb := B.bytes
  have hr := B.returns
  have hts := atoms_spec (ws := (Cond.code y_Ar_fillJ prog_18_method_101_code 5 none) :: gw) B.pre
  have htg : ∀ w ∈ gw, w.before _ s = true := fun w h => hts w (List.mem_cons_of_mem _ h)
  have hown : s.vm.findClass "java/util/Arrays" = some m.cls := findClass_of_methodNamed B.named
  have hlocks := B.notSynchronized
  subst hsz
  have hD := hD0.self (sz := s.heap.size)
  generalize hAe : va_A [(h0, .inl (cJ, N, .inr (.inl u)))] s.heap.size = A at hD ⊢
  have hRc : (headSpec ((Cond.code y_Ar_fillJ prog_18_method_101_code 5 none) :: gw) ({ frames := 0, cells := 0, slots := 0, locals := 0 } : Room)).room.cells = 0 := rfl
  have hRs : (headSpec ((Cond.code y_Ar_fillJ prog_18_method_101_code 5 none) :: gw) ({ frames := 0, cells := 0, slots := 0, locals := 0 } : Room)).room.slots = 0 := rfl
  generalize hQ : MQ below (va_Qv (fun (_ : Unit) => True) (zB (dC, dI) [(cB, .byte), (cI, .int), (cJ, .long), (cZ, .boolean), (cQ, .object "LogDesk$Block")] A [(h0, .inl (cJ, N, .inr (.inl (fun j => if j < N then v else u j))))]) A) [.ref h0, .long v].toArray s 0 0 A = QQ
  have hA : ∀ q : Nat, s.heap.size ≤ q → A q := fun q h => by rw [← hAe]; exact Or.inr h
  have hS : va_S A s.heap s.heap [] := va_S.rf
  have hP : va_P (dC, dI) vwCl [(h0, .inl (cJ, N, .inr (.inl u)))] s.heap := hP
  have hl := lv_entry ([.ref h0, .long v]) (n := 5) (Nat.le_of_ble_eq_true rfl)
  rw [lg_entry_eq]
  generalize (lg_sl ([.ref h0, .long v]) ++ List.replicate (5 - (lg_sl ([.ref h0, .long v])).length) Slot.unset).toArray = ls at hl ⊢
  have hl : lv_has ls 5 [(0, .ref h0), (1, .long v)] := hl
  refine lv_iconst (v := iZ 0) hx hb d_Ar_fillJ_0 rfl ?_
  refine lv_istore_n (lv' := [(3, .int (iZ 0)), (0, .ref h0), (1, .long v)]) hx hb d_Ar_fillJ_1 rfl hl (by decide) rfl (fun ls hl => ?_)
  refine lv_aload_n hx hb d_Ar_fillJ_2 rfl (lv_at hl 1 rfl) ?_
  refine va_alen (v := iZ N) hx hb hK hP 0 2 rfl rfl (by first | rfl | exact (iZ_nat _).symm) d_Ar_fillJ_3 ?_
  refine lv_istore (lv' := [(4, .int (iZ N)), (3, .int (iZ 0)), (0, .ref h0), (1, .long v)]) hx hb d_Ar_fillJ_4 hl (by decide) rfl (fun ls hl => ?_)
  have loop6 : ∀ (nn : Nat) (i : Int) (w : Nat → Int64) (H : Heap) (locs : List Loc) (ls : Array Slot), (0 ≤ i ∧ i ≤ N) → (∀ j : Nat, w j = if (j : Int) < i then v else u j) → ((N : Int) - i < (nn : Int)) → va_P (dC, dI) vwCl [(h0, .inl (cJ, N, .inr (.inl w)))] H → va_D A [(h0, .inl (cJ, N, .inr (.inl w)))] → va_S A s.heap H locs → lv_has ls 5 [(0, .ref h0), (1, .long v), (3, .int (iZ i)), (4, .int (iZ N))] → W p l e (headSpec ((Cond.code y_Ar_fillJ prog_18_method_101_code 5 none) :: gw) ({ frames := 0, cells := 0, slots := 0, locals := 0 } : Room)).room s m [.ref h0, .long v].toArray below meth c H locs 0 0 QQ (F0 m 6 ls []) := by
    intro nn
    induction nn with
    | zero => intro i w H locs ls hi hw hm hP hD hS hl; exfalso; omega
    | succ nn ih =>
      intro i w H locs ls hi hw hm hP hD hS hl
      refine lv_iload_n hx hb d_Ar_fillJ_6 rfl (lv_at hl 2 rfl) ?_
      refine lv_iload hx hb d_Ar_fillJ_7 (lv_at hl 3 rfl) ?_
      refine zz_icmp_ge (tgt := 22) hx hb d_Ar_fillJ_9 (by decide) ⟨by omega, by omega⟩ ⟨by omega, by omega⟩ (fun c_1 => ?_) (fun c_1 => ?_)
      · have eW : ∀ (x0 y0 : Nat → Int64), x0 = y0 → ([(h0, .inl (cJ, N, .inr (.inl x0)))] : va_W) = [(h0, .inl (cJ, N, .inr (.inl y0)))] := by intros; subst_vars; rfl
        have eW := eW w (fun j => if j < N then v else u j) (up_end (by omega) hw)
        have hP : va_P (dC, dI) vwCl [(h0, .inl (cJ, N, .inr (.inl (fun j => if j < N then v else u j))))] H := eW ▸ hP
        have hD : va_D A [(h0, .inl (cJ, N, .inr (.inl (fun j => if j < N then v else u j))))] := eW ▸ hD
        subst hQ
        exact W.vret hx hb hr (fun t ht hW => ⟨⟨(), rfl, trivial, by rw [ht]; exact hP, va_K.moved hW.alike hK, hAe ▸ hD⟩, hAe ▸ hS.F ht⟩) (hAe ▸ hS.2.2) d_Ar_fillJ_22
      · refine lv_aload_n hx hb d_Ar_fillJ_12 rfl (lv_at hl 0 rfl) ?_
        refine lv_iload_n hx hb d_Ar_fillJ_13 rfl (lv_at hl 2 rfl) ?_
        refine lv_lload_n hx hb d_Ar_fillJ_14 rfl (lv_at hl 1 rfl) ?_
        refine zz_last hx hb hK hP hD hS 0 2 rfl rfl (by omega) (by omega) (by omega) d_Ar_fillJ_15 (fun H locs hP hD hS => ?_)
        have hP : va_P (dC, dI) vwCl [(h0, .inl (cJ, N, .inr (.inl (va_up w (i).toNat v))))] H := hP
        have hD : va_D A [(h0, .inl (cJ, N, .inr (.inl (va_up w (i).toNat v))))] := hD
        refine lv_iinc (v := iZ (i + 1)) (lv' := [(3, .int (iZ (i + 1))), (0, .ref h0), (1, .long v), (4, .int (iZ N))]) hx hb d_Ar_fillJ_16 hl (k := 2) rfl (iZ_add _ _) (by decide) rfl (fun ls hl => ?_)
        refine lv_goto (tgt := 6) hx hb d_Ar_fillJ_19 (by decide) ?_
        exact ih (i + 1) (va_up w (i).toNat v) H _ ls (by omega) (up_lt hi.1 hw) (by omega) hP hD hS (lv_sub hl [1, 2, 0, 3] rfl)
  exact loop6 (Int.toNat ((N : Int) - 0) + 1) 0 u s.heap _ ls (by omega) (fun j => (if_neg (by omega)).symm) (by omega) hP hD hS (lv_sub hl [2, 3, 1, 0] rfl)
