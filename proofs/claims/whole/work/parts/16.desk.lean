set_option maxHeartbeats 4000000 in
set_option maxRecDepth 100000 in
theorem c_De_put (l : Launch) (dC : Nat → ClassId) (dI : Nat → Nat → Nat) (cB : ClassId) (cI : ClassId) (cJ : ClassId) (cZ : ClassId) (cQ : ClassId) (d0 r0 a0 w0 p0 i0 a1 : Nat) (sz : Nat) (N : Int) (bg : Int) (en : Int) (fl : Int) (rs : Int) (cnt : Int) (uh : Nat → Int) (v : Int64) (n : Int) (hc : 0 ≤ cnt ∧ cnt ≤ 600) (hn0 : iB n) : Met l y_De_put ((Cond.code y_De_put prog_1_method_2_code 5 (some .boolean)) :: gw) ({ frames := 1, cells := 0, slots := 0, locals := 21 } : Room) (zPc (dC, dI) [(cB, .byte), (cI, .int), (cJ, .long), (cZ, .boolean), (cQ, .object "LogDesk$Block")] [.ref d0, .long v, .int (iZ n)] [(d0, .inr (6, [.int (iZ N), .ref r0, .ref a0, .ref w0, .ref p0, .ref i0, .int (iZ bg), .int (iZ en), .int (iZ fl), .int (iZ rs)])), (a0, .inr (2, [.ref a1, .int (iZ cnt)])), (a1, .inl (cB, 600, .inl (fun j => iZ (Int.bmod (uh j) 256))))] sz) (va_Qi (fun (r : Int32) (_ : Unit) => r = iZ (if ((1 ≤ n ∧ n ≤ 8) ∧ n ≤ 600 - cnt) then 1 else 0)) (zB (dC, dI) [(cB, .byte), (cI, .int), (cJ, .long), (cZ, .boolean), (cQ, .object "LogDesk$Block")] (va_A [(d0, .inr (6, [.int (iZ N), .ref r0, .ref a0, .ref w0, .ref p0, .ref i0, .int (iZ bg), .int (iZ en), .int (iZ fl), .int (iZ rs)])), (a0, .inr (2, [.ref a1, .int (iZ cnt)])), (a1, .inl (cB, 600, .inl (fun j => iZ (Int.bmod (uh j) 256))))] sz) [(d0, .inr (6, [.int (iZ N), .ref r0, .ref a0, .ref w0, .ref p0, .ref i0, .int (iZ bg), .int (iZ en), .int (iZ fl), .int (iZ rs)])), (a0, .inr (2, [.ref a1, .int (iZ (if ((1 ≤ n ∧ n ≤ 8) ∧ n ≤ 600 - cnt) then cnt + n else cnt))])), (a1, .inl (cB, 600, .inl (fun j => iZ (Int.bmod ((if ((1 ≤ n ∧ n ≤ 8) ∧ n ≤ 600 - cnt) then pU v n.toNat cnt uh else uh) j) 256))))]) (va_A [(d0, .inr (6, [.int (iZ N), .ref r0, .ref a0, .ref w0, .ref p0, .ref i0, .int (iZ bg), .int (iZ en), .int (iZ fl), .int (iZ rs)])), (a0, .inr (2, [.ref a1, .int (iZ cnt)])), (a1, .inl (cB, 600, .inl (fun j => iZ (Int.bmod (uh j) 256))))] sz)) 0 0 (va_A [(d0, .inr (6, [.int (iZ N), .ref r0, .ref a0, .ref w0, .ref p0, .ref i0, .int (iZ bg), .int (iZ en), .int (iZ fl), .int (iZ rs)])), (a0, .inr (2, [.ref a1, .int (iZ cnt)])), (a1, .inl (cB, 600, .inl (fun j => iZ (Int.bmod (uh j) 256))))] sz) := by
  refine Met.ofW (cc := prog_1_method_2_code) (maxL := 5) (ret := (some .boolean)) (by decide) rfl ?_
  intro p e s m args below meth c s₁ B hml hv
  obtain ⟨rfl, hsz, hP, hK, hD0, hZ⟩ := hv
  have hx := B.exec
  have hb := B.bytes
  have hr := B.returns
  have hts := atoms_spec (ws := (Cond.code y_De_put prog_1_method_2_code 5 (some .boolean)) :: gw) B.pre
  have htg : ∀ w ∈ gw, w.before _ s = true := fun w h => hts w (List.mem_cons_of_mem _ h)
  have hown : s.vm.findClass "LogDesk" = some m.cls := findClass_of_methodNamed B.named
  have hlocks := B.notSynchronized
  subst hsz
  have hD := hD0.self (sz := s.heap.size)
  generalize hAe : va_A [(d0, .inr (6, [.int (iZ N), .ref r0, .ref a0, .ref w0, .ref p0, .ref i0, .int (iZ bg), .int (iZ en), .int (iZ fl), .int (iZ rs)])), (a0, .inr (2, [.ref a1, .int (iZ cnt)])), (a1, .inl (cB, 600, .inl (fun j => iZ (Int.bmod (uh j) 256))))] s.heap.size = A at hD ⊢
  have hRc : (headSpec ((Cond.code y_De_put prog_1_method_2_code 5 (some .boolean)) :: gw) ({ frames := 1, cells := 0, slots := 0, locals := 21 } : Room)).room.cells = 0 := rfl
  have hRs : (headSpec ((Cond.code y_De_put prog_1_method_2_code 5 (some .boolean)) :: gw) ({ frames := 1, cells := 0, slots := 0, locals := 21 } : Room)).room.slots = 0 := rfl
  generalize hQ : MQ below (va_Qi (fun (r : Int32) (_ : Unit) => r = iZ (if ((1 ≤ n ∧ n ≤ 8) ∧ n ≤ 600 - cnt) then 1 else 0)) (zB (dC, dI) [(cB, .byte), (cI, .int), (cJ, .long), (cZ, .boolean), (cQ, .object "LogDesk$Block")] A [(d0, .inr (6, [.int (iZ N), .ref r0, .ref a0, .ref w0, .ref p0, .ref i0, .int (iZ bg), .int (iZ en), .int (iZ fl), .int (iZ rs)])), (a0, .inr (2, [.ref a1, .int (iZ (if ((1 ≤ n ∧ n ≤ 8) ∧ n ≤ 600 - cnt) then cnt + n else cnt))])), (a1, .inl (cB, 600, .inl (fun j => iZ (Int.bmod ((if ((1 ≤ n ∧ n ≤ 8) ∧ n ≤ 600 - cnt) then pU v n.toNat cnt uh else uh) j) 256))))]) A) [.ref d0, .long v, .int (iZ n)].toArray s 0 0 A = QQ
  have hA : ∀ q : Nat, s.heap.size ≤ q → A q := fun q h => by rw [← hAe]; exact Or.inr h
  have hS : va_S A s.heap s.heap [] := va_S.rf
  have hP : va_P (dC, dI) vwCl [(d0, .inr (6, [.int (iZ N), .ref r0, .ref a0, .ref w0, .ref p0, .ref i0, .int (iZ bg), .int (iZ en), .int (iZ fl), .int (iZ rs)])), (a0, .inr (2, [.ref a1, .int (iZ cnt)])), (a1, .inl (cB, 600, .inl (fun j => iZ (Int.bmod (uh j) 256))))] s.heap := hP
  have hl := lv_entry ([.ref d0, .long v, .int (iZ n)]) (n := 5) (Nat.le_of_ble_eq_true rfl)
  rw [lg_entry_eq]
  generalize (lg_sl ([.ref d0, .long v, .int (iZ n)]) ++ List.replicate (5 - (lg_sl ([.ref d0, .long v, .int (iZ n)])).length) Slot.unset).toArray = ls at hl ⊢
  have hl : lv_has ls 5 [(0, .ref d0), (1, .long v), (3, .int (iZ n))] := hl
  obtain ⟨hn1, hn2⟩ := id hn0
  refine lv_iload_n hx hb d_De_put_0 rfl (lv_at hl 2 rfl) ?_
  refine lv_iconst (v := iZ 1) hx hb d_De_put_1 rfl ?_
  refine zz_icmp_lt (tgt := 22) hx hb d_De_put_2 (by decide) ⟨by omega, by omega⟩ ⟨by omega, by omega⟩ (fun c_1 => ?_) (fun c_1 => ?_)
  · refine lv_iconst (v := iZ 0) hx hb d_De_put_22 rfl ?_
    have eW : ∀ (x0 y0 : Int) (x1 y1 : Nat → Int), x0 = y0 → x1 = y1 → ([(d0, .inr (6, [.int (iZ N), .ref r0, .ref a0, .ref w0, .ref p0, .ref i0, .int (iZ bg), .int (iZ en), .int (iZ fl), .int (iZ rs)])), (a0, .inr (2, [.ref a1, .int (iZ x0)])), (a1, .inl (cB, 600, .inl (fun j => iZ (Int.bmod (x1 j) 256))))] : va_W) = [(d0, .inr (6, [.int (iZ N), .ref r0, .ref a0, .ref w0, .ref p0, .ref i0, .int (iZ bg), .int (iZ en), .int (iZ fl), .int (iZ rs)])), (a0, .inr (2, [.ref a1, .int (iZ y0)])), (a1, .inl (cB, 600, .inl (fun j => iZ (Int.bmod (y1 j) 256))))] := by intros; subst_vars; rfl
    have eW := eW cnt (if ((1 ≤ n ∧ n ≤ 8) ∧ n ≤ 600 - cnt) then cnt + n else cnt) uh (if ((1 ≤ n ∧ n ≤ 8) ∧ n ≤ 600 - cnt) then pU v n.toNat cnt uh else uh) ((if_neg (fun h => by omega)).symm) ((if_neg (fun h => by omega)).symm)
    have hP : va_P (dC, dI) vwCl [(d0, .inr (6, [.int (iZ N), .ref r0, .ref a0, .ref w0, .ref p0, .ref i0, .int (iZ bg), .int (iZ en), .int (iZ fl), .int (iZ rs)])), (a0, .inr (2, [.ref a1, .int (iZ (if ((1 ≤ n ∧ n ≤ 8) ∧ n ≤ 600 - cnt) then cnt + n else cnt))])), (a1, .inl (cB, 600, .inl (fun j => iZ (Int.bmod ((if ((1 ≤ n ∧ n ≤ 8) ∧ n ≤ 600 - cnt) then pU v n.toNat cnt uh else uh) j) 256))))] s.heap := eW ▸ hP
    have hD : va_D A [(d0, .inr (6, [.int (iZ N), .ref r0, .ref a0, .ref w0, .ref p0, .ref i0, .int (iZ bg), .int (iZ en), .int (iZ fl), .int (iZ rs)])), (a0, .inr (2, [.ref a1, .int (iZ (if ((1 ≤ n ∧ n ≤ 8) ∧ n ≤ 600 - cnt) then cnt + n else cnt))])), (a1, .inl (cB, 600, .inl (fun j => iZ (Int.bmod ((if ((1 ≤ n ∧ n ≤ 8) ∧ n ≤ 600 - cnt) then pU v n.toNat cnt uh else uh) j) 256))))] := eW ▸ hD
    subst hQ
    exact W.zret (v := (iZ 0)) hx hb hr rfl (fun t ht hW => ⟨⟨_, (), rfl, (congrArg iZ (if_neg (fun h => by omega)).symm), by rw [ht]; exact hP, va_K.moved hW.alike hK, hAe ▸ hD⟩, hAe ▸ hS.F ht⟩) (hAe ▸ hS.2.2) d_De_put_23
  · refine lv_iload_n hx hb d_De_put_5 rfl (lv_at hl 2 rfl) ?_
    refine lv_bipush (v := iZ 8) hx hb d_De_put_6 (by decide) ?_
    refine zz_icmp_gt (tgt := 22) hx hb d_De_put_8 (by decide) ⟨by omega, by omega⟩ ⟨by omega, by omega⟩ (fun c_2 => ?_) (fun c_2 => ?_)
    · refine lv_iconst (v := iZ 0) hx hb d_De_put_22 rfl ?_
      have eW : ∀ (x0 y0 : Int) (x1 y1 : Nat → Int), x0 = y0 → x1 = y1 → ([(d0, .inr (6, [.int (iZ N), .ref r0, .ref a0, .ref w0, .ref p0, .ref i0, .int (iZ bg), .int (iZ en), .int (iZ fl), .int (iZ rs)])), (a0, .inr (2, [.ref a1, .int (iZ x0)])), (a1, .inl (cB, 600, .inl (fun j => iZ (Int.bmod (x1 j) 256))))] : va_W) = [(d0, .inr (6, [.int (iZ N), .ref r0, .ref a0, .ref w0, .ref p0, .ref i0, .int (iZ bg), .int (iZ en), .int (iZ fl), .int (iZ rs)])), (a0, .inr (2, [.ref a1, .int (iZ y0)])), (a1, .inl (cB, 600, .inl (fun j => iZ (Int.bmod (y1 j) 256))))] := by intros; subst_vars; rfl
      have eW := eW cnt (if ((1 ≤ n ∧ n ≤ 8) ∧ n ≤ 600 - cnt) then cnt + n else cnt) uh (if ((1 ≤ n ∧ n ≤ 8) ∧ n ≤ 600 - cnt) then pU v n.toNat cnt uh else uh) ((if_neg (fun h => by omega)).symm) ((if_neg (fun h => by omega)).symm)
      have hP : va_P (dC, dI) vwCl [(d0, .inr (6, [.int (iZ N), .ref r0, .ref a0, .ref w0, .ref p0, .ref i0, .int (iZ bg), .int (iZ en), .int (iZ fl), .int (iZ rs)])), (a0, .inr (2, [.ref a1, .int (iZ (if ((1 ≤ n ∧ n ≤ 8) ∧ n ≤ 600 - cnt) then cnt + n else cnt))])), (a1, .inl (cB, 600, .inl (fun j => iZ (Int.bmod ((if ((1 ≤ n ∧ n ≤ 8) ∧ n ≤ 600 - cnt) then pU v n.toNat cnt uh else uh) j) 256))))] s.heap := eW ▸ hP
      have hD : va_D A [(d0, .inr (6, [.int (iZ N), .ref r0, .ref a0, .ref w0, .ref p0, .ref i0, .int (iZ bg), .int (iZ en), .int (iZ fl), .int (iZ rs)])), (a0, .inr (2, [.ref a1, .int (iZ (if ((1 ≤ n ∧ n ≤ 8) ∧ n ≤ 600 - cnt) then cnt + n else cnt))])), (a1, .inl (cB, 600, .inl (fun j => iZ (Int.bmod ((if ((1 ≤ n ∧ n ≤ 8) ∧ n ≤ 600 - cnt) then pU v n.toNat cnt uh else uh) j) 256))))] := eW ▸ hD
      subst hQ
      exact W.zret (v := (iZ 0)) hx hb hr rfl (fun t ht hW => ⟨⟨_, (), rfl, (congrArg iZ (if_neg (fun h => by omega)).symm), by rw [ht]; exact hP, va_K.moved hW.alike hK, hAe ▸ hD⟩, hAe ▸ hS.F ht⟩) (hAe ▸ hS.2.2) d_De_put_23
    · refine lv_aload_n hx hb d_De_put_11 rfl (lv_at hl 0 rfl) ?_
      refine va_get (D := (dC, dI)) (ci := 6) (v := .ref a0) (C := "LogDesk") (T := F_De) (N := 10) hx hb htg hin_De hown hK hP 0 rfl rfl 2 (by decide) (htg _ k_92) (fun _ h9 => h9) rfl d_De_put_12 ?_
      refine lv_iload_n hx hb d_De_put_15 rfl (lv_at hl 2 rfl) ?_
      refine z_i (wr := [(d0, .inr (6, [.int (iZ N), .ref r0, .ref a0, .ref w0, .ref p0, .ref i0, .int (iZ bg), .int (iZ en), .int (iZ fl), .int (iZ rs)]))]) (va_runV (As := [.int (iZ n)]) (rest := []) ⟨hx, hb, hml, hown, htg⟩ (c_Ha_hasRoomFor l dC dI cB cI cJ cZ cQ a0 a1 s.heap.size cnt uh n hc hn0) (cwV 1 htg (gw_V k_125 k_126 k_127 k_3 k_128) rfl rfl rfl (by decide +kernel) ⟨Nat.le_of_ble_eq_true rfl, Nat.le_of_ble_eq_true rfl⟩) (zPreV hK hP hD hZ [1, 2] rfl (by decide) 1 (ci := 2) rfl rfl) rfl rfl hl.1 rfl (lv_room (Nat.le_of_ble_eq_true rfl)) d_De_put_16 ⟨by omega, by omega⟩) hP hD hS hA [1, 2] [0] rfl rfl (by decide) (by decide) (fun H locs hP hD hS => ?_)
      have hP : va_P (dC, dI) vwCl [(d0, .inr (6, [.int (iZ N), .ref r0, .ref a0, .ref w0, .ref p0, .ref i0, .int (iZ bg), .int (iZ en), .int (iZ fl), .int (iZ rs)])), (a0, .inr (2, [.ref a1, .int (iZ cnt)])), (a1, .inl (cB, 600, .inl (fun j => iZ (Int.bmod (uh j) 256))))] H := hP
      have hD : va_D A [(d0, .inr (6, [.int (iZ N), .ref r0, .ref a0, .ref w0, .ref p0, .ref i0, .int (iZ bg), .int (iZ en), .int (iZ fl), .int (iZ rs)])), (a0, .inr (2, [.ref a1, .int (iZ cnt)])), (a1, .inl (cB, 600, .inl (fun j => iZ (Int.bmod (uh j) 256))))] := hD
      rcases Classical.em (n ≤ 600 - cnt) with b_3 | b_3
      · rw [if_pos b_3]
        refine zz_if_ne (tgt := 24) hx hb d_De_put_19 (by decide) ⟨by omega, by omega⟩ (fun c_4 => ?_) (fun c_4 => ?_)
        · refine lv_iload_n hx hb d_De_put_24 rfl (lv_at hl 2 rfl) ?_
          refine lv_iconst (v := iZ 1) hx hb d_De_put_25 rfl ?_
          refine zz_isub hx hb d_De_put_26 ?_
          refine lv_istore (lv' := [(4, .int (iZ (n - 1))), (0, .ref d0), (1, .long v), (3, .int (iZ n))]) hx hb d_De_put_27 hl (by decide) rfl (fun ls hl => ?_)
          have loop29 : ∀ (nn : Nat) (i : Int) (k : Int) (w : Nat → Int) (H : Heap) (locs : List Loc) (ls : Array Slot), (-1 ≤ i ∧ i < n) → (k = cnt + (n - 1 - i)) → (pU v (i + 1).toNat k w = pU v n.toNat cnt uh) → (i + 1 < (nn : Int)) → va_P (dC, dI) vwCl [(d0, .inr (6, [.int (iZ N), .ref r0, .ref a0, .ref w0, .ref p0, .ref i0, .int (iZ bg), .int (iZ en), .int (iZ fl), .int (iZ rs)])), (a0, .inr (2, [.ref a1, .int (iZ k)])), (a1, .inl (cB, 600, .inl (fun j => iZ (Int.bmod (w j) 256))))] H → va_D A [(d0, .inr (6, [.int (iZ N), .ref r0, .ref a0, .ref w0, .ref p0, .ref i0, .int (iZ bg), .int (iZ en), .int (iZ fl), .int (iZ rs)])), (a0, .inr (2, [.ref a1, .int (iZ k)])), (a1, .inl (cB, 600, .inl (fun j => iZ (Int.bmod (w j) 256))))] → va_S A s.heap H locs → lv_has ls 5 [(0, .ref d0), (1, .long v), (3, .int (iZ n)), (4, .int (iZ i))] → W p l e (headSpec ((Cond.code y_De_put prog_1_method_2_code 5 (some .boolean)) :: gw) ({ frames := 1, cells := 0, slots := 0, locals := 21 } : Room)).room s m [.ref d0, .long v, .int (iZ n)].toArray below meth c H locs 0 0 QQ (F0 m 29 ls []) := by
            intro nn
            induction nn with
            | zero => intro i k w H locs ls hi hk hw hm hP hD hS hl; exfalso; omega
            | succ nn ih =>
              intro i k w H locs ls hi hk hw hm hP hD hS hl
              refine lv_iload hx hb d_De_put_29 (lv_at hl 3 rfl) ?_
              refine zz_if_lt (tgt := 55) hx hb d_De_put_31 (by decide) ⟨by omega, by omega⟩ (fun c_5 => ?_) (fun c_5 => ?_)
              · refine lv_iconst (v := iZ 1) hx hb d_De_put_55 rfl ?_
                have eW : ∀ (x0 y0 : Int) (x1 y1 : Nat → Int), x0 = y0 → x1 = y1 → ([(d0, .inr (6, [.int (iZ N), .ref r0, .ref a0, .ref w0, .ref p0, .ref i0, .int (iZ bg), .int (iZ en), .int (iZ fl), .int (iZ rs)])), (a0, .inr (2, [.ref a1, .int (iZ x0)])), (a1, .inl (cB, 600, .inl (fun j => iZ (Int.bmod (x1 j) 256))))] : va_W) = [(d0, .inr (6, [.int (iZ N), .ref r0, .ref a0, .ref w0, .ref p0, .ref i0, .int (iZ bg), .int (iZ en), .int (iZ fl), .int (iZ rs)])), (a0, .inr (2, [.ref a1, .int (iZ y0)])), (a1, .inl (cB, 600, .inl (fun j => iZ (Int.bmod (y1 j) 256))))] := by intros; subst_vars; rfl
                have eW := eW k (if ((1 ≤ n ∧ n ≤ 8) ∧ n ≤ 600 - cnt) then cnt + n else cnt) w (if ((1 ≤ n ∧ n ≤ 8) ∧ n ≤ 600 - cnt) then pU v n.toNat cnt uh else uh) (by rw [if_pos (show ((1 ≤ n ∧ n ≤ 8) ∧ n ≤ 600 - cnt) from ⟨⟨by omega, by omega⟩, by omega⟩)]; omega) (by rw [if_pos (show ((1 ≤ n ∧ n ≤ 8) ∧ n ≤ 600 - cnt) from ⟨⟨by omega, by omega⟩, by omega⟩)]; rw [← hw, show (i + 1).toNat = 0 by omega]; rfl)
                have hP : va_P (dC, dI) vwCl [(d0, .inr (6, [.int (iZ N), .ref r0, .ref a0, .ref w0, .ref p0, .ref i0, .int (iZ bg), .int (iZ en), .int (iZ fl), .int (iZ rs)])), (a0, .inr (2, [.ref a1, .int (iZ (if ((1 ≤ n ∧ n ≤ 8) ∧ n ≤ 600 - cnt) then cnt + n else cnt))])), (a1, .inl (cB, 600, .inl (fun j => iZ (Int.bmod ((if ((1 ≤ n ∧ n ≤ 8) ∧ n ≤ 600 - cnt) then pU v n.toNat cnt uh else uh) j) 256))))] H := eW ▸ hP
                have hD : va_D A [(d0, .inr (6, [.int (iZ N), .ref r0, .ref a0, .ref w0, .ref p0, .ref i0, .int (iZ bg), .int (iZ en), .int (iZ fl), .int (iZ rs)])), (a0, .inr (2, [.ref a1, .int (iZ (if ((1 ≤ n ∧ n ≤ 8) ∧ n ≤ 600 - cnt) then cnt + n else cnt))])), (a1, .inl (cB, 600, .inl (fun j => iZ (Int.bmod ((if ((1 ≤ n ∧ n ≤ 8) ∧ n ≤ 600 - cnt) then pU v n.toNat cnt uh else uh) j) 256))))] := eW ▸ hD
                subst hQ
                exact W.zret (v := (iZ 1)) hx hb hr rfl (fun t ht hW => ⟨⟨_, (), rfl, (congrArg iZ (if_pos (show ((1 ≤ n ∧ n ≤ 8) ∧ n ≤ 600 - cnt) from ⟨⟨by omega, by omega⟩, by omega⟩)).symm), by rw [ht]; exact hP, va_K.moved hW.alike hK, hAe ▸ hD⟩, hAe ▸ hS.F ht⟩) (hAe ▸ hS.2.2) d_De_put_56
              · refine lv_aload_n hx hb d_De_put_34 rfl (lv_at hl 0 rfl) ?_
                refine va_get (D := (dC, dI)) (ci := 6) (v := .ref a0) (C := "LogDesk") (T := F_De) (N := 10) hx hb htg hin_De hown hK hP 0 rfl rfl 2 (by decide) (htg _ k_92) (fun _ h9 => h9) rfl d_De_put_35 ?_
                refine lv_lload_n hx hb d_De_put_38 rfl (lv_at hl 1 rfl) ?_
                refine lv_bipush (v := iZ 8) hx hb d_De_put_39 (by decide) ?_
                refine lv_iload hx hb d_De_put_41 (lv_at hl 3 rfl) ?_
                refine zz_imul hx hb d_De_put_43 ?_
                refine lv_lushr hx hb d_De_put_44 rfl ?_
                refine zz_l2i hx hb d_De_put_45 ?_
                refine z_v (wr := [(d0, .inr (6, [.int (iZ N), .ref r0, .ref a0, .ref w0, .ref p0, .ref i0, .int (iZ bg), .int (iZ en), .int (iZ fl), .int (iZ rs)]))]) (va_runV (As := [.int (iZ ((((v).toUInt64 >>> (((iZ (8 * i))).toInt64.toUInt64 &&& Int64.toUInt64 63)).toInt64).toInt32.toInt))]) (rest := []) ⟨hx, hb, hml, hown, htg⟩ (c_Ha_add l dC dI cB cI cJ cZ cQ a0 a1 H.size k w ((((v).toUInt64 >>> (((iZ (8 * i))).toInt64.toUInt64 &&& Int64.toUInt64 63)).toInt64).toInt32.toInt) (by omega)) (cwV 1 htg (gw_V k_129 k_130 k_131 k_3 k_132) rfl rfl rfl (by decide +kernel) ⟨Nat.le_of_ble_eq_true rfl, Nat.le_of_ble_eq_true rfl⟩) (zPreV hK hP hD hZ [1, 2] rfl (by decide) 1 (ci := 2) rfl rfl) rfl rfl hl.1 rfl (lv_room (Nat.le_of_ble_eq_true rfl)) d_De_put_46 ⟨by omega, by omega⟩) hP hD hS hA [1, 2] [0] rfl rfl (by decide) (by decide) (fun H locs hP hD hS => ?_)
                have hP : va_P (dC, dI) vwCl [(d0, .inr (6, [.int (iZ N), .ref r0, .ref a0, .ref w0, .ref p0, .ref i0, .int (iZ bg), .int (iZ en), .int (iZ fl), .int (iZ rs)])), (a0, .inr (2, [.ref a1, .int (iZ (k + 1))])), (a1, .inl (cB, 600, .inl (fun j => iZ (Int.bmod ((va_up w k.toNat (Int.bmod ((((v).toUInt64 >>> (((iZ (8 * i))).toInt64.toUInt64 &&& Int64.toUInt64 63)).toInt64).toInt32.toInt) 256)) j) 256))))] H := hP
                have hD : va_D A [(d0, .inr (6, [.int (iZ N), .ref r0, .ref a0, .ref w0, .ref p0, .ref i0, .int (iZ bg), .int (iZ en), .int (iZ fl), .int (iZ rs)])), (a0, .inr (2, [.ref a1, .int (iZ (k + 1))])), (a1, .inl (cB, 600, .inl (fun j => iZ (Int.bmod ((va_up w k.toNat (Int.bmod ((((v).toUInt64 >>> (((iZ (8 * i))).toInt64.toUInt64 &&& Int64.toUInt64 63)).toInt64).toInt32.toInt) 256)) j) 256))))] := hD
                refine lv_iinc (v := iZ (i + (-1))) (lv' := [(4, .int (iZ (i + (-1)))), (0, .ref d0), (1, .long v), (3, .int (iZ n))]) hx hb d_De_put_49 hl (k := 3) rfl (iZ_add _ _) (by decide) rfl (fun ls hl => ?_)
                refine lv_goto (tgt := 29) hx hb d_De_put_52 (by decide) ?_
                exact ih (i + (-1)) (k + 1) (va_up w k.toNat (Int.bmod ((((v).toUInt64 >>> (((iZ (8 * i))).toInt64.toUInt64 &&& Int64.toUInt64 63)).toInt64).toInt32.toInt) 256)) H _ ls (by omega) (by omega) (by rw [← hw, pU_succ (i := i) (k := k) (w := w) (by omega), show (i + -1 + 1).toNat = i.toNat by omega]; rfl) (by omega) hP hD hS (lv_sub hl [1, 2, 3, 0] rfl)
          exact loop29 (Int.toNat ((n - 1) + 1) + 1) (n - 1) cnt uh H _ ls (by omega) (by omega) (by congr 1; omega) (by omega) hP hD hS (lv_sub hl [1, 2, 3, 0] rfl)
        · exfalso; omega
      · rw [if_neg b_3]
        refine zz_if_ne (tgt := 24) hx hb d_De_put_19 (by decide) ⟨by omega, by omega⟩ (fun c_6 => ?_) (fun c_6 => ?_)
        · exfalso; omega
        · refine lv_iconst (v := iZ 0) hx hb d_De_put_22 rfl ?_
          have eW : ∀ (x0 y0 : Int) (x1 y1 : Nat → Int), x0 = y0 → x1 = y1 → ([(d0, .inr (6, [.int (iZ N), .ref r0, .ref a0, .ref w0, .ref p0, .ref i0, .int (iZ bg), .int (iZ en), .int (iZ fl), .int (iZ rs)])), (a0, .inr (2, [.ref a1, .int (iZ x0)])), (a1, .inl (cB, 600, .inl (fun j => iZ (Int.bmod (x1 j) 256))))] : va_W) = [(d0, .inr (6, [.int (iZ N), .ref r0, .ref a0, .ref w0, .ref p0, .ref i0, .int (iZ bg), .int (iZ en), .int (iZ fl), .int (iZ rs)])), (a0, .inr (2, [.ref a1, .int (iZ y0)])), (a1, .inl (cB, 600, .inl (fun j => iZ (Int.bmod (y1 j) 256))))] := by intros; subst_vars; rfl
          have eW := eW cnt (if ((1 ≤ n ∧ n ≤ 8) ∧ n ≤ 600 - cnt) then cnt + n else cnt) uh (if ((1 ≤ n ∧ n ≤ 8) ∧ n ≤ 600 - cnt) then pU v n.toNat cnt uh else uh) ((if_neg (fun h => by omega)).symm) ((if_neg (fun h => by omega)).symm)
          have hP : va_P (dC, dI) vwCl [(d0, .inr (6, [.int (iZ N), .ref r0, .ref a0, .ref w0, .ref p0, .ref i0, .int (iZ bg), .int (iZ en), .int (iZ fl), .int (iZ rs)])), (a0, .inr (2, [.ref a1, .int (iZ (if ((1 ≤ n ∧ n ≤ 8) ∧ n ≤ 600 - cnt) then cnt + n else cnt))])), (a1, .inl (cB, 600, .inl (fun j => iZ (Int.bmod ((if ((1 ≤ n ∧ n ≤ 8) ∧ n ≤ 600 - cnt) then pU v n.toNat cnt uh else uh) j) 256))))] H := eW ▸ hP
          have hD : va_D A [(d0, .inr (6, [.int (iZ N), .ref r0, .ref a0, .ref w0, .ref p0, .ref i0, .int (iZ bg), .int (iZ en), .int (iZ fl), .int (iZ rs)])), (a0, .inr (2, [.ref a1, .int (iZ (if ((1 ≤ n ∧ n ≤ 8) ∧ n ≤ 600 - cnt) then cnt + n else cnt))])), (a1, .inl (cB, 600, .inl (fun j => iZ (Int.bmod ((if ((1 ≤ n ∧ n ≤ 8) ∧ n ≤ 600 - cnt) then pU v n.toNat cnt uh else uh) j) 256))))] := eW ▸ hD
          subst hQ
          exact W.zret (v := (iZ 0)) hx hb hr rfl (fun t ht hW => ⟨⟨_, (), rfl, (congrArg iZ (if_neg (fun h => by omega)).symm), by rw [ht]; exact hP, va_K.moved hW.alike hK, hAe ▸ hD⟩, hAe ▸ hS.F ht⟩) (hAe ▸ hS.2.2) d_De_put_23
set_option maxHeartbeats 4000000 in
set_option maxRecDepth 100000 in
theorem c_De_fill (l : Launch) (dC : Nat → ClassId) (dI : Nat → Nat → Nat) (cB : ClassId) (cI : ClassId) (cJ : ClassId) (cZ : ClassId) (cQ : ClassId) (d0 r0 a0 w0 p0 i0 a1 : Nat) (sz : Nat) (N : Int) (bg : Int) (en : Int) (fl : Int) (rs : Int) (cnt : Int) (uh : Nat → Int) (v : Int) (n : Int) (hc : 0 ≤ cnt ∧ cnt ≤ 600) (hn0 : iB n) : Met l y_De_fill ((Cond.code y_De_fill prog_1_method_3_code 4 (some .boolean)) :: gw) ({ frames := 1, cells := 0, slots := 0, locals := 21 } : Room) (zPc (dC, dI) [(cB, .byte), (cI, .int), (cJ, .long), (cZ, .boolean), (cQ, .object "LogDesk$Block")] [.ref d0, .int (iZ v), .int (iZ n)] [(d0, .inr (6, [.int (iZ N), .ref r0, .ref a0, .ref w0, .ref p0, .ref i0, .int (iZ bg), .int (iZ en), .int (iZ fl), .int (iZ rs)])), (a0, .inr (2, [.ref a1, .int (iZ cnt)])), (a1, .inl (cB, 600, .inl (fun j => iZ (Int.bmod (uh j) 256))))] sz) (va_Qi (fun (r : Int32) (_ : Unit) => r = iZ (if ((1 ≤ n ∧ n ≤ 600) ∧ n ≤ 600 - cnt) then 1 else 0)) (zB (dC, dI) [(cB, .byte), (cI, .int), (cJ, .long), (cZ, .boolean), (cQ, .object "LogDesk$Block")] (va_A [(d0, .inr (6, [.int (iZ N), .ref r0, .ref a0, .ref w0, .ref p0, .ref i0, .int (iZ bg), .int (iZ en), .int (iZ fl), .int (iZ rs)])), (a0, .inr (2, [.ref a1, .int (iZ cnt)])), (a1, .inl (cB, 600, .inl (fun j => iZ (Int.bmod (uh j) 256))))] sz) [(d0, .inr (6, [.int (iZ N), .ref r0, .ref a0, .ref w0, .ref p0, .ref i0, .int (iZ bg), .int (iZ en), .int (iZ fl), .int (iZ rs)])), (a0, .inr (2, [.ref a1, .int (iZ (if ((1 ≤ n ∧ n ≤ 600) ∧ n ≤ 600 - cnt) then cnt + n else cnt))])), (a1, .inl (cB, 600, .inl (fun j => iZ (Int.bmod ((if ((1 ≤ n ∧ n ≤ 600) ∧ n ≤ 600 - cnt) then (fun j : Nat => if cnt ≤ (j : Int) ∧ (j : Int) < cnt + n then Int.bmod v 256 else uh j) else uh) j) 256))))]) (va_A [(d0, .inr (6, [.int (iZ N), .ref r0, .ref a0, .ref w0, .ref p0, .ref i0, .int (iZ bg), .int (iZ en), .int (iZ fl), .int (iZ rs)])), (a0, .inr (2, [.ref a1, .int (iZ cnt)])), (a1, .inl (cB, 600, .inl (fun j => iZ (Int.bmod (uh j) 256))))] sz)) 0 0 (va_A [(d0, .inr (6, [.int (iZ N), .ref r0, .ref a0, .ref w0, .ref p0, .ref i0, .int (iZ bg), .int (iZ en), .int (iZ fl), .int (iZ rs)])), (a0, .inr (2, [.ref a1, .int (iZ cnt)])), (a1, .inl (cB, 600, .inl (fun j => iZ (Int.bmod (uh j) 256))))] sz) := by
  refine Met.ofW (cc := prog_1_method_3_code) (maxL := 4) (ret := (some .boolean)) (by decide) rfl ?_
  intro p e s m args below meth c s₁ B hml hv
  obtain ⟨rfl, hsz, hP, hK, hD0, hZ⟩ := hv
  have hx := B.exec
  have hb := B.bytes
  have hr := B.returns
  have hts := atoms_spec (ws := (Cond.code y_De_fill prog_1_method_3_code 4 (some .boolean)) :: gw) B.pre
  have htg : ∀ w ∈ gw, w.before _ s = true := fun w h => hts w (List.mem_cons_of_mem _ h)
  have hown : s.vm.findClass "LogDesk" = some m.cls := findClass_of_methodNamed B.named
  have hlocks := B.notSynchronized
  subst hsz
  have hD := hD0.self (sz := s.heap.size)
  generalize hAe : va_A [(d0, .inr (6, [.int (iZ N), .ref r0, .ref a0, .ref w0, .ref p0, .ref i0, .int (iZ bg), .int (iZ en), .int (iZ fl), .int (iZ rs)])), (a0, .inr (2, [.ref a1, .int (iZ cnt)])), (a1, .inl (cB, 600, .inl (fun j => iZ (Int.bmod (uh j) 256))))] s.heap.size = A at hD ⊢
  have hRc : (headSpec ((Cond.code y_De_fill prog_1_method_3_code 4 (some .boolean)) :: gw) ({ frames := 1, cells := 0, slots := 0, locals := 21 } : Room)).room.cells = 0 := rfl
  have hRs : (headSpec ((Cond.code y_De_fill prog_1_method_3_code 4 (some .boolean)) :: gw) ({ frames := 1, cells := 0, slots := 0, locals := 21 } : Room)).room.slots = 0 := rfl
  generalize hQ : MQ below (va_Qi (fun (r : Int32) (_ : Unit) => r = iZ (if ((1 ≤ n ∧ n ≤ 600) ∧ n ≤ 600 - cnt) then 1 else 0)) (zB (dC, dI) [(cB, .byte), (cI, .int), (cJ, .long), (cZ, .boolean), (cQ, .object "LogDesk$Block")] A [(d0, .inr (6, [.int (iZ N), .ref r0, .ref a0, .ref w0, .ref p0, .ref i0, .int (iZ bg), .int (iZ en), .int (iZ fl), .int (iZ rs)])), (a0, .inr (2, [.ref a1, .int (iZ (if ((1 ≤ n ∧ n ≤ 600) ∧ n ≤ 600 - cnt) then cnt + n else cnt))])), (a1, .inl (cB, 600, .inl (fun j => iZ (Int.bmod ((if ((1 ≤ n ∧ n ≤ 600) ∧ n ≤ 600 - cnt) then (fun j : Nat => if cnt ≤ (j : Int) ∧ (j : Int) < cnt + n then Int.bmod v 256 else uh j) else uh) j) 256))))]) A) [.ref d0, .int (iZ v), .int (iZ n)].toArray s 0 0 A = QQ
  have hA : ∀ q : Nat, s.heap.size ≤ q → A q := fun q h => by rw [← hAe]; exact Or.inr h
  have hS : va_S A s.heap s.heap [] := va_S.rf
  have hP : va_P (dC, dI) vwCl [(d0, .inr (6, [.int (iZ N), .ref r0, .ref a0, .ref w0, .ref p0, .ref i0, .int (iZ bg), .int (iZ en), .int (iZ fl), .int (iZ rs)])), (a0, .inr (2, [.ref a1, .int (iZ cnt)])), (a1, .inl (cB, 600, .inl (fun j => iZ (Int.bmod (uh j) 256))))] s.heap := hP
  have hl := lv_entry ([.ref d0, .int (iZ v), .int (iZ n)]) (n := 4) (Nat.le_of_ble_eq_true rfl)
  rw [lg_entry_eq]
  generalize (lg_sl ([.ref d0, .int (iZ v), .int (iZ n)]) ++ List.replicate (4 - (lg_sl ([.ref d0, .int (iZ v), .int (iZ n)])).length) Slot.unset).toArray = ls at hl ⊢
  have hl : lv_has ls 4 [(0, .ref d0), (1, .int (iZ v)), (2, .int (iZ n))] := hl
  obtain ⟨hn1, hn2⟩ := id hn0
  refine lv_iload_n hx hb d_De_fill_0 rfl (lv_at hl 2 rfl) ?_
  refine lv_iconst (v := iZ 1) hx hb d_De_fill_1 rfl ?_
  refine zz_icmp_lt (tgt := 23) hx hb d_De_fill_2 (by decide) ⟨by omega, by omega⟩ ⟨by omega, by omega⟩ (fun c_1 => ?_) (fun c_1 => ?_)
  · refine lv_iconst (v := iZ 0) hx hb d_De_fill_23 rfl ?_
    have eW : ∀ (x0 y0 : Int) (x1 y1 : Nat → Int), x0 = y0 → x1 = y1 → ([(d0, .inr (6, [.int (iZ N), .ref r0, .ref a0, .ref w0, .ref p0, .ref i0, .int (iZ bg), .int (iZ en), .int (iZ fl), .int (iZ rs)])), (a0, .inr (2, [.ref a1, .int (iZ x0)])), (a1, .inl (cB, 600, .inl (fun j => iZ (Int.bmod (x1 j) 256))))] : va_W) = [(d0, .inr (6, [.int (iZ N), .ref r0, .ref a0, .ref w0, .ref p0, .ref i0, .int (iZ bg), .int (iZ en), .int (iZ fl), .int (iZ rs)])), (a0, .inr (2, [.ref a1, .int (iZ y0)])), (a1, .inl (cB, 600, .inl (fun j => iZ (Int.bmod (y1 j) 256))))] := by intros; subst_vars; rfl
    have eW := eW cnt (if ((1 ≤ n ∧ n ≤ 600) ∧ n ≤ 600 - cnt) then cnt + n else cnt) uh (if ((1 ≤ n ∧ n ≤ 600) ∧ n ≤ 600 - cnt) then (fun j : Nat => if cnt ≤ (j : Int) ∧ (j : Int) < cnt + n then Int.bmod v 256 else uh j) else uh) ((if_neg (fun h => by omega)).symm) ((if_neg (fun h => by omega)).symm)
    have hP : va_P (dC, dI) vwCl [(d0, .inr (6, [.int (iZ N), .ref r0, .ref a0, .ref w0, .ref p0, .ref i0, .int (iZ bg), .int (iZ en), .int (iZ fl), .int (iZ rs)])), (a0, .inr (2, [.ref a1, .int (iZ (if ((1 ≤ n ∧ n ≤ 600) ∧ n ≤ 600 - cnt) then cnt + n else cnt))])), (a1, .inl (cB, 600, .inl (fun j => iZ (Int.bmod ((if ((1 ≤ n ∧ n ≤ 600) ∧ n ≤ 600 - cnt) then (fun j : Nat => if cnt ≤ (j : Int) ∧ (j : Int) < cnt + n then Int.bmod v 256 else uh j) else uh) j) 256))))] s.heap := eW ▸ hP
    have hD : va_D A [(d0, .inr (6, [.int (iZ N), .ref r0, .ref a0, .ref w0, .ref p0, .ref i0, .int (iZ bg), .int (iZ en), .int (iZ fl), .int (iZ rs)])), (a0, .inr (2, [.ref a1, .int (iZ (if ((1 ≤ n ∧ n ≤ 600) ∧ n ≤ 600 - cnt) then cnt + n else cnt))])), (a1, .inl (cB, 600, .inl (fun j => iZ (Int.bmod ((if ((1 ≤ n ∧ n ≤ 600) ∧ n ≤ 600 - cnt) then (fun j : Nat => if cnt ≤ (j : Int) ∧ (j : Int) < cnt + n then Int.bmod v 256 else uh j) else uh) j) 256))))] := eW ▸ hD
    subst hQ
    exact W.zret (v := (iZ 0)) hx hb hr rfl (fun t ht hW => ⟨⟨_, (), rfl, (congrArg iZ (if_neg (fun h => by omega)).symm), by rw [ht]; exact hP, va_K.moved hW.alike hK, hAe ▸ hD⟩, hAe ▸ hS.F ht⟩) (hAe ▸ hS.2.2) d_De_fill_24
  · refine lv_iload_n hx hb d_De_fill_5 rfl (lv_at hl 2 rfl) ?_
    refine lv_sipush (v := iZ 600) hx hb d_De_fill_6 (by decide) ?_
    refine zz_icmp_gt (tgt := 23) hx hb d_De_fill_9 (by decide) ⟨by omega, by omega⟩ ⟨by omega, by omega⟩ (fun c_2 => ?_) (fun c_2 => ?_)
    · refine lv_iconst (v := iZ 0) hx hb d_De_fill_23 rfl ?_
      have eW : ∀ (x0 y0 : Int) (x1 y1 : Nat → Int), x0 = y0 → x1 = y1 → ([(d0, .inr (6, [.int (iZ N), .ref r0, .ref a0, .ref w0, .ref p0, .ref i0, .int (iZ bg), .int (iZ en), .int (iZ fl), .int (iZ rs)])), (a0, .inr (2, [.ref a1, .int (iZ x0)])), (a1, .inl (cB, 600, .inl (fun j => iZ (Int.bmod (x1 j) 256))))] : va_W) = [(d0, .inr (6, [.int (iZ N), .ref r0, .ref a0, .ref w0, .ref p0, .ref i0, .int (iZ bg), .int (iZ en), .int (iZ fl), .int (iZ rs)])), (a0, .inr (2, [.ref a1, .int (iZ y0)])), (a1, .inl (cB, 600, .inl (fun j => iZ (Int.bmod (y1 j) 256))))] := by intros; subst_vars; rfl
      have eW := eW cnt (if ((1 ≤ n ∧ n ≤ 600) ∧ n ≤ 600 - cnt) then cnt + n else cnt) uh (if ((1 ≤ n ∧ n ≤ 600) ∧ n ≤ 600 - cnt) then (fun j : Nat => if cnt ≤ (j : Int) ∧ (j : Int) < cnt + n then Int.bmod v 256 else uh j) else uh) ((if_neg (fun h => by omega)).symm) ((if_neg (fun h => by omega)).symm)
      have hP : va_P (dC, dI) vwCl [(d0, .inr (6, [.int (iZ N), .ref r0, .ref a0, .ref w0, .ref p0, .ref i0, .int (iZ bg), .int (iZ en), .int (iZ fl), .int (iZ rs)])), (a0, .inr (2, [.ref a1, .int (iZ (if ((1 ≤ n ∧ n ≤ 600) ∧ n ≤ 600 - cnt) then cnt + n else cnt))])), (a1, .inl (cB, 600, .inl (fun j => iZ (Int.bmod ((if ((1 ≤ n ∧ n ≤ 600) ∧ n ≤ 600 - cnt) then (fun j : Nat => if cnt ≤ (j : Int) ∧ (j : Int) < cnt + n then Int.bmod v 256 else uh j) else uh) j) 256))))] s.heap := eW ▸ hP
      have hD : va_D A [(d0, .inr (6, [.int (iZ N), .ref r0, .ref a0, .ref w0, .ref p0, .ref i0, .int (iZ bg), .int (iZ en), .int (iZ fl), .int (iZ rs)])), (a0, .inr (2, [.ref a1, .int (iZ (if ((1 ≤ n ∧ n ≤ 600) ∧ n ≤ 600 - cnt) then cnt + n else cnt))])), (a1, .inl (cB, 600, .inl (fun j => iZ (Int.bmod ((if ((1 ≤ n ∧ n ≤ 600) ∧ n ≤ 600 - cnt) then (fun j : Nat => if cnt ≤ (j : Int) ∧ (j : Int) < cnt + n then Int.bmod v 256 else uh j) else uh) j) 256))))] := eW ▸ hD
      subst hQ
      exact W.zret (v := (iZ 0)) hx hb hr rfl (fun t ht hW => ⟨⟨_, (), rfl, (congrArg iZ (if_neg (fun h => by omega)).symm), by rw [ht]; exact hP, va_K.moved hW.alike hK, hAe ▸ hD⟩, hAe ▸ hS.F ht⟩) (hAe ▸ hS.2.2) d_De_fill_24
    · refine lv_aload_n hx hb d_De_fill_12 rfl (lv_at hl 0 rfl) ?_
      refine va_get (D := (dC, dI)) (ci := 6) (v := .ref a0) (C := "LogDesk") (T := F_De) (N := 10) hx hb htg hin_De hown hK hP 0 rfl rfl 2 (by decide) (htg _ k_92) (fun _ h9 => h9) rfl d_De_fill_13 ?_
      refine lv_iload_n hx hb d_De_fill_16 rfl (lv_at hl 2 rfl) ?_
      refine z_i (wr := [(d0, .inr (6, [.int (iZ N), .ref r0, .ref a0, .ref w0, .ref p0, .ref i0, .int (iZ bg), .int (iZ en), .int (iZ fl), .int (iZ rs)]))]) (va_runV (As := [.int (iZ n)]) (rest := []) ⟨hx, hb, hml, hown, htg⟩ (c_Ha_hasRoomFor l dC dI cB cI cJ cZ cQ a0 a1 s.heap.size cnt uh n hc hn0) (cwV 1 htg (gw_V k_125 k_126 k_127 k_3 k_128) rfl rfl rfl (by decide +kernel) ⟨Nat.le_of_ble_eq_true rfl, Nat.le_of_ble_eq_true rfl⟩) (zPreV hK hP hD hZ [1, 2] rfl (by decide) 1 (ci := 2) rfl rfl) rfl rfl hl.1 rfl (lv_room (Nat.le_of_ble_eq_true rfl)) d_De_fill_17 ⟨by omega, by omega⟩) hP hD hS hA [1, 2] [0] rfl rfl (by decide) (by decide) (fun H locs hP hD hS => ?_)
      have hP : va_P (dC, dI) vwCl [(d0, .inr (6, [.int (iZ N), .ref r0, .ref a0, .ref w0, .ref p0, .ref i0, .int (iZ bg), .int (iZ en), .int (iZ fl), .int (iZ rs)])), (a0, .inr (2, [.ref a1, .int (iZ cnt)])), (a1, .inl (cB, 600, .inl (fun j => iZ (Int.bmod (uh j) 256))))] H := hP
      have hD : va_D A [(d0, .inr (6, [.int (iZ N), .ref r0, .ref a0, .ref w0, .ref p0, .ref i0, .int (iZ bg), .int (iZ en), .int (iZ fl), .int (iZ rs)])), (a0, .inr (2, [.ref a1, .int (iZ cnt)])), (a1, .inl (cB, 600, .inl (fun j => iZ (Int.bmod (uh j) 256))))] := hD
      rcases Classical.em (n ≤ 600 - cnt) with b_3 | b_3
      · rw [if_pos b_3]
        refine zz_if_ne (tgt := 25) hx hb d_De_fill_20 (by decide) ⟨by omega, by omega⟩ (fun c_4 => ?_) (fun c_4 => ?_)
        · refine lv_iconst (v := iZ 0) hx hb d_De_fill_25 rfl ?_
          refine lv_istore_n (lv' := [(3, .int (iZ 0)), (0, .ref d0), (1, .int (iZ v)), (2, .int (iZ n))]) hx hb d_De_fill_26 rfl hl (by decide) rfl (fun ls hl => ?_)
          have loop27 : ∀ (nn : Nat) (i : Int) (k : Int) (w : Nat → Int) (H : Heap) (locs : List Loc) (ls : Array Slot), (0 ≤ i ∧ i ≤ n) → (k = cnt + i) → (∀ j : Nat, w j = if cnt ≤ (j : Int) ∧ (j : Int) < k then Int.bmod v 256 else uh j) → (n - i < (nn : Int)) → va_P (dC, dI) vwCl [(d0, .inr (6, [.int (iZ N), .ref r0, .ref a0, .ref w0, .ref p0, .ref i0, .int (iZ bg), .int (iZ en), .int (iZ fl), .int (iZ rs)])), (a0, .inr (2, [.ref a1, .int (iZ k)])), (a1, .inl (cB, 600, .inl (fun j => iZ (Int.bmod (w j) 256))))] H → va_D A [(d0, .inr (6, [.int (iZ N), .ref r0, .ref a0, .ref w0, .ref p0, .ref i0, .int (iZ bg), .int (iZ en), .int (iZ fl), .int (iZ rs)])), (a0, .inr (2, [.ref a1, .int (iZ k)])), (a1, .inl (cB, 600, .inl (fun j => iZ (Int.bmod (w j) 256))))] → va_S A s.heap H locs → lv_has ls 4 [(0, .ref d0), (1, .int (iZ v)), (2, .int (iZ n)), (3, .int (iZ i))] → W p l e (headSpec ((Cond.code y_De_fill prog_1_method_3_code 4 (some .boolean)) :: gw) ({ frames := 1, cells := 0, slots := 0, locals := 21 } : Room)).room s m [.ref d0, .int (iZ v), .int (iZ n)].toArray below meth c H locs 0 0 QQ (F0 m 27 ls []) := by
            intro nn
            induction nn with
            | zero => intro i k w H locs ls hi hk hw hm hP hD hS hl; exfalso; omega
            | succ nn ih =>
              intro i k w H locs ls hi hk hw hm hP hD hS hl
              refine lv_iload_n hx hb d_De_fill_27 rfl (lv_at hl 3 rfl) ?_
              refine lv_iload_n hx hb d_De_fill_28 rfl (lv_at hl 2 rfl) ?_
              refine zz_icmp_ge (tgt := 46) hx hb d_De_fill_29 (by decide) ⟨by omega, by omega⟩ ⟨by omega, by omega⟩ (fun c_5 => ?_) (fun c_5 => ?_)
              · refine lv_iconst (v := iZ 1) hx hb d_De_fill_46 rfl ?_
                have eW : ∀ (x0 y0 : Int) (x1 y1 : Nat → Int), x0 = y0 → x1 = y1 → ([(d0, .inr (6, [.int (iZ N), .ref r0, .ref a0, .ref w0, .ref p0, .ref i0, .int (iZ bg), .int (iZ en), .int (iZ fl), .int (iZ rs)])), (a0, .inr (2, [.ref a1, .int (iZ x0)])), (a1, .inl (cB, 600, .inl (fun j => iZ (Int.bmod (x1 j) 256))))] : va_W) = [(d0, .inr (6, [.int (iZ N), .ref r0, .ref a0, .ref w0, .ref p0, .ref i0, .int (iZ bg), .int (iZ en), .int (iZ fl), .int (iZ rs)])), (a0, .inr (2, [.ref a1, .int (iZ y0)])), (a1, .inl (cB, 600, .inl (fun j => iZ (Int.bmod (y1 j) 256))))] := by intros; subst_vars; rfl
                have eW := eW k (if ((1 ≤ n ∧ n ≤ 600) ∧ n ≤ 600 - cnt) then cnt + n else cnt) w (if ((1 ≤ n ∧ n ≤ 600) ∧ n ≤ 600 - cnt) then (fun j : Nat => if cnt ≤ (j : Int) ∧ (j : Int) < cnt + n then Int.bmod v 256 else uh j) else uh) (by rw [if_pos (show ((1 ≤ n ∧ n ≤ 600) ∧ n ≤ 600 - cnt) from ⟨⟨by omega, by omega⟩, by omega⟩)]; omega) (by rw [if_pos (show ((1 ≤ n ∧ n ≤ 600) ∧ n ≤ 600 - cnt) from ⟨⟨by omega, by omega⟩, by omega⟩)]; funext j; rw [hw j, show k = cnt + n by omega])
                have hP : va_P (dC, dI) vwCl [(d0, .inr (6, [.int (iZ N), .ref r0, .ref a0, .ref w0, .ref p0, .ref i0, .int (iZ bg), .int (iZ en), .int (iZ fl), .int (iZ rs)])), (a0, .inr (2, [.ref a1, .int (iZ (if ((1 ≤ n ∧ n ≤ 600) ∧ n ≤ 600 - cnt) then cnt + n else cnt))])), (a1, .inl (cB, 600, .inl (fun j => iZ (Int.bmod ((if ((1 ≤ n ∧ n ≤ 600) ∧ n ≤ 600 - cnt) then (fun j : Nat => if cnt ≤ (j : Int) ∧ (j : Int) < cnt + n then Int.bmod v 256 else uh j) else uh) j) 256))))] H := eW ▸ hP
                have hD : va_D A [(d0, .inr (6, [.int (iZ N), .ref r0, .ref a0, .ref w0, .ref p0, .ref i0, .int (iZ bg), .int (iZ en), .int (iZ fl), .int (iZ rs)])), (a0, .inr (2, [.ref a1, .int (iZ (if ((1 ≤ n ∧ n ≤ 600) ∧ n ≤ 600 - cnt) then cnt + n else cnt))])), (a1, .inl (cB, 600, .inl (fun j => iZ (Int.bmod ((if ((1 ≤ n ∧ n ≤ 600) ∧ n ≤ 600 - cnt) then (fun j : Nat => if cnt ≤ (j : Int) ∧ (j : Int) < cnt + n then Int.bmod v 256 else uh j) else uh) j) 256))))] := eW ▸ hD
                subst hQ
                exact W.zret (v := (iZ 1)) hx hb hr rfl (fun t ht hW => ⟨⟨_, (), rfl, (congrArg iZ (if_pos (show ((1 ≤ n ∧ n ≤ 600) ∧ n ≤ 600 - cnt) from ⟨⟨by omega, by omega⟩, by omega⟩)).symm), by rw [ht]; exact hP, va_K.moved hW.alike hK, hAe ▸ hD⟩, hAe ▸ hS.F ht⟩) (hAe ▸ hS.2.2) d_De_fill_47
              · refine lv_aload_n hx hb d_De_fill_32 rfl (lv_at hl 0 rfl) ?_
                refine va_get (D := (dC, dI)) (ci := 6) (v := .ref a0) (C := "LogDesk") (T := F_De) (N := 10) hx hb htg hin_De hown hK hP 0 rfl rfl 2 (by decide) (htg _ k_92) (fun _ h9 => h9) rfl d_De_fill_33 ?_
                refine lv_iload_n hx hb d_De_fill_36 rfl (lv_at hl 1 rfl) ?_
                refine z_v (wr := [(d0, .inr (6, [.int (iZ N), .ref r0, .ref a0, .ref w0, .ref p0, .ref i0, .int (iZ bg), .int (iZ en), .int (iZ fl), .int (iZ rs)]))]) (va_runV (As := [.int (iZ v)]) (rest := []) ⟨hx, hb, hml, hown, htg⟩ (c_Ha_add l dC dI cB cI cJ cZ cQ a0 a1 H.size k w v (by omega)) (cwV 1 htg (gw_V k_129 k_130 k_131 k_3 k_132) rfl rfl rfl (by decide +kernel) ⟨Nat.le_of_ble_eq_true rfl, Nat.le_of_ble_eq_true rfl⟩) (zPreV hK hP hD hZ [1, 2] rfl (by decide) 1 (ci := 2) rfl rfl) rfl rfl hl.1 rfl (lv_room (Nat.le_of_ble_eq_true rfl)) d_De_fill_37 ⟨by omega, by omega⟩) hP hD hS hA [1, 2] [0] rfl rfl (by decide) (by decide) (fun H locs hP hD hS => ?_)
                have hP : va_P (dC, dI) vwCl [(d0, .inr (6, [.int (iZ N), .ref r0, .ref a0, .ref w0, .ref p0, .ref i0, .int (iZ bg), .int (iZ en), .int (iZ fl), .int (iZ rs)])), (a0, .inr (2, [.ref a1, .int (iZ (k + 1))])), (a1, .inl (cB, 600, .inl (fun j => iZ (Int.bmod ((va_up w k.toNat (Int.bmod v 256)) j) 256))))] H := hP
                have hD : va_D A [(d0, .inr (6, [.int (iZ N), .ref r0, .ref a0, .ref w0, .ref p0, .ref i0, .int (iZ bg), .int (iZ en), .int (iZ fl), .int (iZ rs)])), (a0, .inr (2, [.ref a1, .int (iZ (k + 1))])), (a1, .inl (cB, 600, .inl (fun j => iZ (Int.bmod ((va_up w k.toNat (Int.bmod v 256)) j) 256))))] := hD
                refine lv_iinc (v := iZ (i + 1)) (lv' := [(3, .int (iZ (i + 1))), (0, .ref d0), (1, .int (iZ v)), (2, .int (iZ n))]) hx hb d_De_fill_40 hl (k := 3) rfl (iZ_add _ _) (by decide) rfl (fun ls hl => ?_)
                refine lv_goto (tgt := 27) hx hb d_De_fill_43 (by decide) ?_
                exact ih (i + 1) (k + 1) (va_up w k.toNat (Int.bmod v 256)) H _ ls (by omega) (by omega) (fU_step (by omega) (by omega) hw) (by omega) hP hD hS (lv_sub hl [1, 2, 3, 0] rfl)
          exact loop27 (Int.toNat (n - 0) + 1) 0 cnt uh H _ ls (by omega) (by omega) (fun j => (if_neg (by omega)).symm) (by omega) hP hD hS (lv_sub hl [1, 2, 3, 0] rfl)
        · exfalso; omega
      · rw [if_neg b_3]
        refine zz_if_ne (tgt := 25) hx hb d_De_fill_20 (by decide) ⟨by omega, by omega⟩ (fun c_6 => ?_) (fun c_6 => ?_)
        · exfalso; omega
        · refine lv_iconst (v := iZ 0) hx hb d_De_fill_23 rfl ?_
          have eW : ∀ (x0 y0 : Int) (x1 y1 : Nat → Int), x0 = y0 → x1 = y1 → ([(d0, .inr (6, [.int (iZ N), .ref r0, .ref a0, .ref w0, .ref p0, .ref i0, .int (iZ bg), .int (iZ en), .int (iZ fl), .int (iZ rs)])), (a0, .inr (2, [.ref a1, .int (iZ x0)])), (a1, .inl (cB, 600, .inl (fun j => iZ (Int.bmod (x1 j) 256))))] : va_W) = [(d0, .inr (6, [.int (iZ N), .ref r0, .ref a0, .ref w0, .ref p0, .ref i0, .int (iZ bg), .int (iZ en), .int (iZ fl), .int (iZ rs)])), (a0, .inr (2, [.ref a1, .int (iZ y0)])), (a1, .inl (cB, 600, .inl (fun j => iZ (Int.bmod (y1 j) 256))))] := by intros; subst_vars; rfl
          have eW := eW cnt (if ((1 ≤ n ∧ n ≤ 600) ∧ n ≤ 600 - cnt) then cnt + n else cnt) uh (if ((1 ≤ n ∧ n ≤ 600) ∧ n ≤ 600 - cnt) then (fun j : Nat => if cnt ≤ (j : Int) ∧ (j : Int) < cnt + n then Int.bmod v 256 else uh j) else uh) ((if_neg (fun h => by omega)).symm) ((if_neg (fun h => by omega)).symm)
          have hP : va_P (dC, dI) vwCl [(d0, .inr (6, [.int (iZ N), .ref r0, .ref a0, .ref w0, .ref p0, .ref i0, .int (iZ bg), .int (iZ en), .int (iZ fl), .int (iZ rs)])), (a0, .inr (2, [.ref a1, .int (iZ (if ((1 ≤ n ∧ n ≤ 600) ∧ n ≤ 600 - cnt) then cnt + n else cnt))])), (a1, .inl (cB, 600, .inl (fun j => iZ (Int.bmod ((if ((1 ≤ n ∧ n ≤ 600) ∧ n ≤ 600 - cnt) then (fun j : Nat => if cnt ≤ (j : Int) ∧ (j : Int) < cnt + n then Int.bmod v 256 else uh j) else uh) j) 256))))] H := eW ▸ hP
          have hD : va_D A [(d0, .inr (6, [.int (iZ N), .ref r0, .ref a0, .ref w0, .ref p0, .ref i0, .int (iZ bg), .int (iZ en), .int (iZ fl), .int (iZ rs)])), (a0, .inr (2, [.ref a1, .int (iZ (if ((1 ≤ n ∧ n ≤ 600) ∧ n ≤ 600 - cnt) then cnt + n else cnt))])), (a1, .inl (cB, 600, .inl (fun j => iZ (Int.bmod ((if ((1 ≤ n ∧ n ≤ 600) ∧ n ≤ 600 - cnt) then (fun j : Nat => if cnt ≤ (j : Int) ∧ (j : Int) < cnt + n then Int.bmod v 256 else uh j) else uh) j) 256))))] := eW ▸ hD
          subst hQ
          exact W.zret (v := (iZ 0)) hx hb hr rfl (fun t ht hW => ⟨⟨_, (), rfl, (congrArg iZ (if_neg (fun h => by omega)).symm), by rw [ht]; exact hP, va_K.moved hW.alike hK, hAe ▸ hD⟩, hAe ▸ hS.F ht⟩) (hAe ▸ hS.2.2) d_De_fill_24
set_option maxHeartbeats 4000000 in
set_option maxRecDepth 100000 in
theorem c_De_told (l : Launch) (dC : Nat → ClassId) (dI : Nat → Nat → Nat) (cB : ClassId) (cI : ClassId) (cJ : ClassId) (cZ : ClassId) (cQ : ClassId) (d0 r0 a0 w0 p0 i0 w1 : Nat) (sz : Nat) (N : Int) (bg : Int) (en : Int) (fl : Int) (rs : Int) (ge : Nat → Int) (hge : ∀ j : Nat, 0 ≤ ge j ∧ ge j < 1000000000) (hpl : 0 ≤ bg ∧ bg ≤ en ∧ en ≤ 1000000000 ∧ 0 ≤ fl ∧ fl ≤ 1000000000) : Met l y_De_told ((Cond.code y_De_told prog_1_method_7_code 2 (some .int)) :: gw) ({ frames := 3, cells := 0, slots := 0, locals := 70 } : Room) (zPc (dC, dI) [(cB, .byte), (cI, .int), (cJ, .long), (cZ, .boolean), (cQ, .object "LogDesk$Block")] [.ref d0] [(d0, .inr (6, [.int (iZ N), .ref r0, .ref a0, .ref w0, .ref p0, .ref i0, .int (iZ bg), .int (iZ en), .int (iZ fl), .int (iZ rs)])), (w0, .inr (5, [.ref w1])), (w1, .inl (cI, 6, .inl (fun j => iZ (ge j))))] sz) (va_Qi (fun (r : Int32) (_ : Unit) => r = iZ (if (wfst ge 6 = -1 ∨ fl < ge (wfst ge 6).toNat) then -1 else wfst ge 6)) (zB (dC, dI) [(cB, .byte), (cI, .int), (cJ, .long), (cZ, .boolean), (cQ, .object "LogDesk$Block")] (va_A [(d0, .inr (6, [.int (iZ N), .ref r0, .ref a0, .ref w0, .ref p0, .ref i0, .int (iZ bg), .int (iZ en), .int (iZ fl), .int (iZ rs)])), (w0, .inr (5, [.ref w1])), (w1, .inl (cI, 6, .inl (fun j => iZ (ge j))))] sz) [(d0, .inr (6, [.int (iZ N), .ref r0, .ref a0, .ref w0, .ref p0, .ref i0, .int (iZ bg), .int (iZ en), .int (iZ fl), .int (iZ rs)])), (w0, .inr (5, [.ref w1])), (w1, .inl (cI, 6, .inl (fun j => iZ ((if (wfst ge 6 = -1 ∨ fl < ge (wfst ge 6).toNat) then ge else va_up ge (wfst ge 6).toNat 0) j))))]) (va_A [(d0, .inr (6, [.int (iZ N), .ref r0, .ref a0, .ref w0, .ref p0, .ref i0, .int (iZ bg), .int (iZ en), .int (iZ fl), .int (iZ rs)])), (w0, .inr (5, [.ref w1])), (w1, .inl (cI, 6, .inl (fun j => iZ (ge j))))] sz)) 0 0 (va_A [(d0, .inr (6, [.int (iZ N), .ref r0, .ref a0, .ref w0, .ref p0, .ref i0, .int (iZ bg), .int (iZ en), .int (iZ fl), .int (iZ rs)])), (w0, .inr (5, [.ref w1])), (w1, .inl (cI, 6, .inl (fun j => iZ (ge j))))] sz) := by
  refine Met.ofW (cc := prog_1_method_7_code) (maxL := 2) (ret := (some .int)) (by decide) rfl ?_
  intro p e s m args below meth c s₁ B hml hv
  obtain ⟨rfl, hsz, hP, hK, hD0, hZ⟩ := hv
  have hx := B.exec
  have hb := B.bytes
  have hr := B.returns
  have hts := atoms_spec (ws := (Cond.code y_De_told prog_1_method_7_code 2 (some .int)) :: gw) B.pre
  have htg : ∀ w ∈ gw, w.before _ s = true := fun w h => hts w (List.mem_cons_of_mem _ h)
  have hown : s.vm.findClass "LogDesk" = some m.cls := findClass_of_methodNamed B.named
  have hlocks := B.notSynchronized
  subst hsz
  have hD := hD0.self (sz := s.heap.size)
  generalize hAe : va_A [(d0, .inr (6, [.int (iZ N), .ref r0, .ref a0, .ref w0, .ref p0, .ref i0, .int (iZ bg), .int (iZ en), .int (iZ fl), .int (iZ rs)])), (w0, .inr (5, [.ref w1])), (w1, .inl (cI, 6, .inl (fun j => iZ (ge j))))] s.heap.size = A at hD ⊢
  have hRc : (headSpec ((Cond.code y_De_told prog_1_method_7_code 2 (some .int)) :: gw) ({ frames := 3, cells := 0, slots := 0, locals := 70 } : Room)).room.cells = 0 := rfl
  have hRs : (headSpec ((Cond.code y_De_told prog_1_method_7_code 2 (some .int)) :: gw) ({ frames := 3, cells := 0, slots := 0, locals := 70 } : Room)).room.slots = 0 := rfl
  have hA : ∀ q : Nat, s.heap.size ≤ q → A q := fun q h => by rw [← hAe]; exact Or.inr h
  have hS : va_S A s.heap s.heap [] := va_S.rf
  have hP : va_P (dC, dI) vwCl [(d0, .inr (6, [.int (iZ N), .ref r0, .ref a0, .ref w0, .ref p0, .ref i0, .int (iZ bg), .int (iZ en), .int (iZ fl), .int (iZ rs)])), (w0, .inr (5, [.ref w1])), (w1, .inl (cI, 6, .inl (fun j => iZ (ge j))))] s.heap := hP
  have hl := lv_entry ([.ref d0]) (n := 2) (Nat.le_of_ble_eq_true rfl)
  rw [lg_entry_eq]
  generalize (lg_sl ([.ref d0]) ++ List.replicate (2 - (lg_sl ([.ref d0])).length) Slot.unset).toArray = ls at hl ⊢
  have hl : lv_has ls 2 [(0, .ref d0)] := hl
  have hf := wfst_in ge 6
  have hg1 := hge (wfst ge 6).toNat
  refine lv_aload_n hx hb d_De_told_0 rfl (lv_at hl 0 rfl) ?_
  refine va_get (D := (dC, dI)) (ci := 6) (v := .ref w0) (C := "LogDesk") (T := F_De) (N := 10) hx hb htg hin_De hown hK hP 0 rfl rfl 3 (by decide) (htg _ k_93) (fun _ h9 => h9) rfl d_De_told_1 ?_
  refine z_i (wr := [(d0, .inr (6, [.int (iZ N), .ref r0, .ref a0, .ref w0, .ref p0, .ref i0, .int (iZ bg), .int (iZ en), .int (iZ fl), .int (iZ rs)]))]) (va_runV (As := []) (rest := []) ⟨hx, hb, hml, hown, htg⟩ (c_Wa_first l dC dI cB cI cJ cZ cQ w0 w1 s.heap.size ge hge) (cwV 0 htg (gw_V k_141 k_142 k_143 k_4 k_144) rfl rfl rfl (by decide +kernel) ⟨Nat.le_of_ble_eq_true rfl, Nat.le_of_ble_eq_true rfl⟩) (zPreV hK hP hD hZ [1, 2] rfl (by decide) 1 (ci := 5) rfl rfl) rfl rfl hl.1 rfl (lv_room (Nat.le_of_ble_eq_true rfl)) d_De_told_4 ⟨by omega, by omega⟩) hP hD hS hA [1, 2] [0] rfl rfl (by decide) (by decide) (fun H locs hP hD hS => ?_)
  have hP : va_P (dC, dI) vwCl [(d0, .inr (6, [.int (iZ N), .ref r0, .ref a0, .ref w0, .ref p0, .ref i0, .int (iZ bg), .int (iZ en), .int (iZ fl), .int (iZ rs)])), (w0, .inr (5, [.ref w1])), (w1, .inl (cI, 6, .inl (fun j => iZ (ge j))))] H := hP
  have hD : va_D A [(d0, .inr (6, [.int (iZ N), .ref r0, .ref a0, .ref w0, .ref p0, .ref i0, .int (iZ bg), .int (iZ en), .int (iZ fl), .int (iZ rs)])), (w0, .inr (5, [.ref w1])), (w1, .inl (cI, 6, .inl (fun j => iZ (ge j))))] := hD
  refine lv_istore_n (lv' := [(1, .int (iZ (wfst ge 6))), (0, .ref d0)]) hx hb d_De_told_7 rfl hl (by decide) rfl (fun ls hl => ?_)
  refine lv_iload_n hx hb d_De_told_8 rfl (lv_at hl 0 rfl) ?_
  refine lv_iconst (v := iZ (-1)) hx hb d_De_told_9 rfl ?_
  refine zz_icmp_eq (tgt := 28) hx hb d_De_told_10 (by decide) ⟨by omega, by omega⟩ ⟨by omega, by omega⟩ (fun c_1 => ?_) (fun c_1 => ?_)
  · refine lv_iconst (v := iZ (-1)) hx hb d_De_told_28 rfl ?_
    have eW : ∀ (x0 y0 : Nat → Int), x0 = y0 → ([(d0, .inr (6, [.int (iZ N), .ref r0, .ref a0, .ref w0, .ref p0, .ref i0, .int (iZ bg), .int (iZ en), .int (iZ fl), .int (iZ rs)])), (w0, .inr (5, [.ref w1])), (w1, .inl (cI, 6, .inl (fun j => iZ (x0 j))))] : va_W) = [(d0, .inr (6, [.int (iZ N), .ref r0, .ref a0, .ref w0, .ref p0, .ref i0, .int (iZ bg), .int (iZ en), .int (iZ fl), .int (iZ rs)])), (w0, .inr (5, [.ref w1])), (w1, .inl (cI, 6, .inl (fun j => iZ (y0 j))))] := by intros; subst_vars; rfl
    have eW := eW ge (if (wfst ge 6 = -1 ∨ fl < ge (wfst ge 6).toNat) then ge else va_up ge (wfst ge 6).toNat 0) ((if_pos (by omega)).symm)
    have hP : va_P (dC, dI) vwCl [(d0, .inr (6, [.int (iZ N), .ref r0, .ref a0, .ref w0, .ref p0, .ref i0, .int (iZ bg), .int (iZ en), .int (iZ fl), .int (iZ rs)])), (w0, .inr (5, [.ref w1])), (w1, .inl (cI, 6, .inl (fun j => iZ ((if (wfst ge 6 = -1 ∨ fl < ge (wfst ge 6).toNat) then ge else va_up ge (wfst ge 6).toNat 0) j))))] H := eW ▸ hP
    have hD : va_D A [(d0, .inr (6, [.int (iZ N), .ref r0, .ref a0, .ref w0, .ref p0, .ref i0, .int (iZ bg), .int (iZ en), .int (iZ fl), .int (iZ rs)])), (w0, .inr (5, [.ref w1])), (w1, .inl (cI, 6, .inl (fun j => iZ ((if (wfst ge 6 = -1 ∨ fl < ge (wfst ge 6).toNat) then ge else va_up ge (wfst ge 6).toNat 0) j))))] := eW ▸ hD
    exact W.iret (v := (iZ (-1))) hx hb hr (fun t ht hW => ⟨⟨_, (), rfl, (congrArg iZ (if_pos (by omega)).symm), by rw [ht]; exact hP, va_K.moved hW.alike hK, hAe ▸ hD⟩, hAe ▸ hS.F ht⟩) (hAe ▸ hS.2.2) d_De_told_29
  · refine lv_aload_n hx hb d_De_told_13 rfl (lv_at hl 1 rfl) ?_
    refine va_get (D := (dC, dI)) (ci := 6) (v := .ref w0) (C := "LogDesk") (T := F_De) (N := 10) hx hb htg hin_De hown hK hP 0 rfl rfl 3 (by decide) (htg _ k_93) (fun _ h9 => h9) rfl d_De_told_14 ?_
    refine lv_iload_n hx hb d_De_told_17 rfl (lv_at hl 0 rfl) ?_
    refine z_i (wr := [(d0, .inr (6, [.int (iZ N), .ref r0, .ref a0, .ref w0, .ref p0, .ref i0, .int (iZ bg), .int (iZ en), .int (iZ fl), .int (iZ rs)]))]) (va_runV (As := [.int (iZ (wfst ge 6))]) (rest := []) ⟨hx, hb, hml, hown, htg⟩ (c_Wa_endOf l dC dI cB cI cJ cZ cQ w0 w1 H.size ge (wfst ge 6) hge (⟨by omega, by omega⟩)) (cwV 1 htg (gw_V k_156 k_153 k_154 k_4 k_155) rfl rfl rfl (by decide +kernel) ⟨Nat.le_of_ble_eq_true rfl, Nat.le_of_ble_eq_true rfl⟩) (zPreV hK hP hD hZ [1, 2] rfl (by decide) 1 (ci := 5) rfl rfl) rfl rfl hl.1 rfl (lv_room (Nat.le_of_ble_eq_true rfl)) d_De_told_18 ⟨by omega, by omega⟩) hP hD hS hA [1, 2] [0] rfl rfl (by decide) (by decide) (fun H locs hP hD hS => ?_)
    have hP : va_P (dC, dI) vwCl [(d0, .inr (6, [.int (iZ N), .ref r0, .ref a0, .ref w0, .ref p0, .ref i0, .int (iZ bg), .int (iZ en), .int (iZ fl), .int (iZ rs)])), (w0, .inr (5, [.ref w1])), (w1, .inl (cI, 6, .inl (fun j => iZ (ge j))))] H := hP
    have hD : va_D A [(d0, .inr (6, [.int (iZ N), .ref r0, .ref a0, .ref w0, .ref p0, .ref i0, .int (iZ bg), .int (iZ en), .int (iZ fl), .int (iZ rs)])), (w0, .inr (5, [.ref w1])), (w1, .inl (cI, 6, .inl (fun j => iZ (ge j))))] := hD
    refine lv_aload_n hx hb d_De_told_21 rfl (lv_at hl 1 rfl) ?_
    refine va_get (D := (dC, dI)) (ci := 6) (v := .int (iZ fl)) (C := "LogDesk") (T := F_De) (N := 10) hx hb htg hin_De hown hK hP 0 rfl rfl 8 (by decide) (htg _ k_98) (fun _ h9 => h9) rfl d_De_told_22 ?_
    refine zz_icmp_le (tgt := 30) hx hb d_De_told_25 (by decide) ⟨by omega, by omega⟩ ⟨by omega, by omega⟩ (fun c_2 => ?_) (fun c_2 => ?_)
    · refine lv_aload_n hx hb d_De_told_30 rfl (lv_at hl 1 rfl) ?_
      refine va_get (D := (dC, dI)) (ci := 6) (v := .ref w0) (C := "LogDesk") (T := F_De) (N := 10) hx hb htg hin_De hown hK hP 0 rfl rfl 3 (by decide) (htg _ k_93) (fun _ h9 => h9) rfl d_De_told_31 ?_
      refine lv_iload_n hx hb d_De_told_34 rfl (lv_at hl 0 rfl) ?_
      refine z_v (wr := [(d0, .inr (6, [.int (iZ N), .ref r0, .ref a0, .ref w0, .ref p0, .ref i0, .int (iZ bg), .int (iZ en), .int (iZ fl), .int (iZ rs)]))]) (va_runV (As := [.int (iZ (wfst ge 6))]) (rest := []) ⟨hx, hb, hml, hown, htg⟩ (c_Wa_remove l dC dI cB cI cJ cZ cQ w0 w1 H.size ge (wfst ge 6) (by omega)) (cwV 1 htg (gw_V k_157 k_158 k_159 k_4 k_160) rfl rfl rfl (by decide +kernel) ⟨Nat.le_of_ble_eq_true rfl, Nat.le_of_ble_eq_true rfl⟩) (zPreV hK hP hD hZ [1, 2] rfl (by decide) 1 (ci := 5) rfl rfl) rfl rfl hl.1 rfl (lv_room (Nat.le_of_ble_eq_true rfl)) d_De_told_35 ⟨by omega, by omega⟩) hP hD hS hA [1, 2] [0] rfl rfl (by decide) (by decide) (fun H locs hP hD hS => ?_)
      have hP : va_P (dC, dI) vwCl [(d0, .inr (6, [.int (iZ N), .ref r0, .ref a0, .ref w0, .ref p0, .ref i0, .int (iZ bg), .int (iZ en), .int (iZ fl), .int (iZ rs)])), (w0, .inr (5, [.ref w1])), (w1, .inl (cI, 6, .inl (fun j => iZ ((va_up ge (wfst ge 6).toNat 0) j))))] H := hP
      have hD : va_D A [(d0, .inr (6, [.int (iZ N), .ref r0, .ref a0, .ref w0, .ref p0, .ref i0, .int (iZ bg), .int (iZ en), .int (iZ fl), .int (iZ rs)])), (w0, .inr (5, [.ref w1])), (w1, .inl (cI, 6, .inl (fun j => iZ ((va_up ge (wfst ge 6).toNat 0) j))))] := hD
      refine lv_iload_n hx hb d_De_told_38 rfl (lv_at hl 0 rfl) ?_
      have eW : ∀ (x0 y0 : Nat → Int), x0 = y0 → ([(d0, .inr (6, [.int (iZ N), .ref r0, .ref a0, .ref w0, .ref p0, .ref i0, .int (iZ bg), .int (iZ en), .int (iZ fl), .int (iZ rs)])), (w0, .inr (5, [.ref w1])), (w1, .inl (cI, 6, .inl (fun j => iZ (x0 j))))] : va_W) = [(d0, .inr (6, [.int (iZ N), .ref r0, .ref a0, .ref w0, .ref p0, .ref i0, .int (iZ bg), .int (iZ en), .int (iZ fl), .int (iZ rs)])), (w0, .inr (5, [.ref w1])), (w1, .inl (cI, 6, .inl (fun j => iZ (y0 j))))] := by intros; subst_vars; rfl
      have eW := eW (va_up ge (wfst ge 6).toNat 0) (if (wfst ge 6 = -1 ∨ fl < ge (wfst ge 6).toNat) then ge else va_up ge (wfst ge 6).toNat 0) ((if_neg (by omega)).symm)
      have hP : va_P (dC, dI) vwCl [(d0, .inr (6, [.int (iZ N), .ref r0, .ref a0, .ref w0, .ref p0, .ref i0, .int (iZ bg), .int (iZ en), .int (iZ fl), .int (iZ rs)])), (w0, .inr (5, [.ref w1])), (w1, .inl (cI, 6, .inl (fun j => iZ ((if (wfst ge 6 = -1 ∨ fl < ge (wfst ge 6).toNat) then ge else va_up ge (wfst ge 6).toNat 0) j))))] H := eW ▸ hP
      have hD : va_D A [(d0, .inr (6, [.int (iZ N), .ref r0, .ref a0, .ref w0, .ref p0, .ref i0, .int (iZ bg), .int (iZ en), .int (iZ fl), .int (iZ rs)])), (w0, .inr (5, [.ref w1])), (w1, .inl (cI, 6, .inl (fun j => iZ ((if (wfst ge 6 = -1 ∨ fl < ge (wfst ge 6).toNat) then ge else va_up ge (wfst ge 6).toNat 0) j))))] := eW ▸ hD
      exact W.iret (v := (iZ (wfst ge 6))) hx hb hr (fun t ht hW => ⟨⟨_, (), rfl, (congrArg iZ (if_neg (by omega)).symm), by rw [ht]; exact hP, va_K.moved hW.alike hK, hAe ▸ hD⟩, hAe ▸ hS.F ht⟩) (hAe ▸ hS.2.2) d_De_told_39
    · refine lv_iconst (v := iZ (-1)) hx hb d_De_told_28 rfl ?_
      have eW : ∀ (x0 y0 : Nat → Int), x0 = y0 → ([(d0, .inr (6, [.int (iZ N), .ref r0, .ref a0, .ref w0, .ref p0, .ref i0, .int (iZ bg), .int (iZ en), .int (iZ fl), .int (iZ rs)])), (w0, .inr (5, [.ref w1])), (w1, .inl (cI, 6, .inl (fun j => iZ (x0 j))))] : va_W) = [(d0, .inr (6, [.int (iZ N), .ref r0, .ref a0, .ref w0, .ref p0, .ref i0, .int (iZ bg), .int (iZ en), .int (iZ fl), .int (iZ rs)])), (w0, .inr (5, [.ref w1])), (w1, .inl (cI, 6, .inl (fun j => iZ (y0 j))))] := by intros; subst_vars; rfl
      have eW := eW ge (if (wfst ge 6 = -1 ∨ fl < ge (wfst ge 6).toNat) then ge else va_up ge (wfst ge 6).toNat 0) ((if_pos (by omega)).symm)
      have hP : va_P (dC, dI) vwCl [(d0, .inr (6, [.int (iZ N), .ref r0, .ref a0, .ref w0, .ref p0, .ref i0, .int (iZ bg), .int (iZ en), .int (iZ fl), .int (iZ rs)])), (w0, .inr (5, [.ref w1])), (w1, .inl (cI, 6, .inl (fun j => iZ ((if (wfst ge 6 = -1 ∨ fl < ge (wfst ge 6).toNat) then ge else va_up ge (wfst ge 6).toNat 0) j))))] H := eW ▸ hP
      have hD : va_D A [(d0, .inr (6, [.int (iZ N), .ref r0, .ref a0, .ref w0, .ref p0, .ref i0, .int (iZ bg), .int (iZ en), .int (iZ fl), .int (iZ rs)])), (w0, .inr (5, [.ref w1])), (w1, .inl (cI, 6, .inl (fun j => iZ ((if (wfst ge 6 = -1 ∨ fl < ge (wfst ge 6).toNat) then ge else va_up ge (wfst ge 6).toNat 0) j))))] := eW ▸ hD
      exact W.iret (v := (iZ (-1))) hx hb hr (fun t ht hW => ⟨⟨_, (), rfl, (congrArg iZ (if_pos (by omega)).symm), by rw [ht]; exact hP, va_K.moved hW.alike hK, hAe ▸ hD⟩, hAe ▸ hS.F ht⟩) (hAe ▸ hS.2.2) d_De_told_29
set_option maxHeartbeats 4000000 in
set_option maxRecDepth 100000 in
theorem c_De_touch (l : Launch) (dC : Nat → ClassId) (dI : Nat → Nat → Nat) (cB : ClassId) (cI : ClassId) (cJ : ClassId) (cZ : ClassId) (cQ : ClassId) (d0 r0 a0 w0 p0 i0 p1 : Nat) (sz : Nat) (N : Int) (bg : Int) (en : Int) (fl : Int) (rs : Int) (pf : Nat → Int64) (pn : Int) (x : Int) (hx0 : iB x) (hb0 : 0 ≤ pn ∧ pn < 1000000000) : Met l y_De_touch ((Cond.code y_De_touch prog_1_method_8_code 2 (some .boolean)) :: gw) ({ frames := 1, cells := 0, slots := 0, locals := 24 } : Room) (zPc (dC, dI) [(cB, .byte), (cI, .int), (cJ, .long), (cZ, .boolean), (cQ, .object "LogDesk$Block")] [.ref d0, .int (iZ x)] [(d0, .inr (6, [.int (iZ N), .ref r0, .ref a0, .ref w0, .ref p0, .ref i0, .int (iZ bg), .int (iZ en), .int (iZ fl), .int (iZ rs)])), (p0, .inr (3, [.ref p1, .int (iZ pn)])), (p1, .inl (cJ, 32, .inr (.inl pf)))] sz) (va_Qi (fun (r : Int32) (_ : Unit) => r = iZ (if (0 ≤ x ∧ x < 2048) ∧ (pf (x / 64).toNat &&& (1 <<< ((iZ (x % 64)).toInt64 &&& 63))) = 0 then 1 else 0)) (zB (dC, dI) [(cB, .byte), (cI, .int), (cJ, .long), (cZ, .boolean), (cQ, .object "LogDesk$Block")] (va_A [(d0, .inr (6, [.int (iZ N), .ref r0, .ref a0, .ref w0, .ref p0, .ref i0, .int (iZ bg), .int (iZ en), .int (iZ fl), .int (iZ rs)])), (p0, .inr (3, [.ref p1, .int (iZ pn)])), (p1, .inl (cJ, 32, .inr (.inl pf)))] sz) [(d0, .inr (6, [.int (iZ N), .ref r0, .ref a0, .ref w0, .ref p0, .ref i0, .int (iZ bg), .int (iZ en), .int (iZ fl), .int (iZ rs)])), (p0, .inr (3, [.ref p1, .int (iZ (if (0 ≤ x ∧ x < 2048) ∧ (pf (x / 64).toNat &&& (1 <<< ((iZ (x % 64)).toInt64 &&& 63))) = 0 then pn + 1 else pn))])), (p1, .inl (cJ, 32, .inr (.inl (if (0 ≤ x ∧ x < 2048) ∧ (pf (x / 64).toNat &&& (1 <<< ((iZ (x % 64)).toInt64 &&& 63))) = 0 then va_up pf (x / 64).toNat (pf (x / 64).toNat ||| (1 <<< ((iZ (x % 64)).toInt64 &&& 63))) else pf))))]) (va_A [(d0, .inr (6, [.int (iZ N), .ref r0, .ref a0, .ref w0, .ref p0, .ref i0, .int (iZ bg), .int (iZ en), .int (iZ fl), .int (iZ rs)])), (p0, .inr (3, [.ref p1, .int (iZ pn)])), (p1, .inl (cJ, 32, .inr (.inl pf)))] sz)) 0 0 (va_A [(d0, .inr (6, [.int (iZ N), .ref r0, .ref a0, .ref w0, .ref p0, .ref i0, .int (iZ bg), .int (iZ en), .int (iZ fl), .int (iZ rs)])), (p0, .inr (3, [.ref p1, .int (iZ pn)])), (p1, .inl (cJ, 32, .inr (.inl pf)))] sz) := by
  refine Met.ofW (cc := prog_1_method_8_code) (maxL := 2) (ret := (some .boolean)) (by decide) rfl ?_
  intro p e s m args below meth c s₁ B hml hv
  obtain ⟨rfl, hsz, hP, hK, hD0, hZ⟩ := hv
  have hx := B.exec
  have hb := B.bytes
  have hr := B.returns
  have hts := atoms_spec (ws := (Cond.code y_De_touch prog_1_method_8_code 2 (some .boolean)) :: gw) B.pre
  have htg : ∀ w ∈ gw, w.before _ s = true := fun w h => hts w (List.mem_cons_of_mem _ h)
  have hown : s.vm.findClass "LogDesk" = some m.cls := findClass_of_methodNamed B.named
  have hlocks := B.notSynchronized
  subst hsz
  have hD := hD0.self (sz := s.heap.size)
  generalize hAe : va_A [(d0, .inr (6, [.int (iZ N), .ref r0, .ref a0, .ref w0, .ref p0, .ref i0, .int (iZ bg), .int (iZ en), .int (iZ fl), .int (iZ rs)])), (p0, .inr (3, [.ref p1, .int (iZ pn)])), (p1, .inl (cJ, 32, .inr (.inl pf)))] s.heap.size = A at hD ⊢
  have hRc : (headSpec ((Cond.code y_De_touch prog_1_method_8_code 2 (some .boolean)) :: gw) ({ frames := 1, cells := 0, slots := 0, locals := 24 } : Room)).room.cells = 0 := rfl
  have hRs : (headSpec ((Cond.code y_De_touch prog_1_method_8_code 2 (some .boolean)) :: gw) ({ frames := 1, cells := 0, slots := 0, locals := 24 } : Room)).room.slots = 0 := rfl
  have hA : ∀ q : Nat, s.heap.size ≤ q → A q := fun q h => by rw [← hAe]; exact Or.inr h
  have hS : va_S A s.heap s.heap [] := va_S.rf
  have hP : va_P (dC, dI) vwCl [(d0, .inr (6, [.int (iZ N), .ref r0, .ref a0, .ref w0, .ref p0, .ref i0, .int (iZ bg), .int (iZ en), .int (iZ fl), .int (iZ rs)])), (p0, .inr (3, [.ref p1, .int (iZ pn)])), (p1, .inl (cJ, 32, .inr (.inl pf)))] s.heap := hP
  have hl := lv_entry ([.ref d0, .int (iZ x)]) (n := 2) (Nat.le_of_ble_eq_true rfl)
  rw [lg_entry_eq]
  generalize (lg_sl ([.ref d0, .int (iZ x)]) ++ List.replicate (2 - (lg_sl ([.ref d0, .int (iZ x)])).length) Slot.unset).toArray = ls at hl ⊢
  have hl : lv_has ls 2 [(0, .ref d0), (1, .int (iZ x))] := hl
  refine lv_aload_n hx hb d_De_touch_0 rfl (lv_at hl 0 rfl) ?_
  refine va_get (D := (dC, dI)) (ci := 6) (v := .ref p0) (C := "LogDesk") (T := F_De) (N := 10) hx hb htg hin_De hown hK hP 0 rfl rfl 4 (by decide) (htg _ k_94) (fun _ h9 => h9) rfl d_De_touch_1 ?_
  refine lv_iload_n hx hb d_De_touch_4 rfl (lv_at hl 1 rfl) ?_
  refine z_i (wr := [(d0, .inr (6, [.int (iZ N), .ref r0, .ref a0, .ref w0, .ref p0, .ref i0, .int (iZ bg), .int (iZ en), .int (iZ fl), .int (iZ rs)]))]) (va_runV (As := [.int (iZ x)]) (rest := []) ⟨hx, hb, hml, hown, htg⟩ (c_Pa_add l dC dI cB cI cJ cZ cQ p0 p1 s.heap.size pf pn x hx0 hb0) (cwV 1 htg (gw_V k_165 k_166 k_167 k_5 k_168) rfl rfl rfl (by decide +kernel) ⟨Nat.le_of_ble_eq_true rfl, Nat.le_of_ble_eq_true rfl⟩) (zPreV hK hP hD hZ [1, 2] rfl (by decide) 1 (ci := 3) rfl rfl) rfl rfl hl.1 rfl (lv_room (Nat.le_of_ble_eq_true rfl)) d_De_touch_5 ⟨by omega, by omega⟩) hP hD hS hA [1, 2] [0] rfl rfl (by decide) (by decide) (fun H locs hP hD hS => ?_)
  have hP : va_P (dC, dI) vwCl [(d0, .inr (6, [.int (iZ N), .ref r0, .ref a0, .ref w0, .ref p0, .ref i0, .int (iZ bg), .int (iZ en), .int (iZ fl), .int (iZ rs)])), (p0, .inr (3, [.ref p1, .int (iZ (if (0 ≤ x ∧ x < 2048) ∧ (pf (x / 64).toNat &&& (1 <<< ((iZ (x % 64)).toInt64 &&& 63))) = 0 then pn + 1 else pn))])), (p1, .inl (cJ, 32, .inr (.inl (if (0 ≤ x ∧ x < 2048) ∧ (pf (x / 64).toNat &&& (1 <<< ((iZ (x % 64)).toInt64 &&& 63))) = 0 then va_up pf (x / 64).toNat (pf (x / 64).toNat ||| (1 <<< ((iZ (x % 64)).toInt64 &&& 63))) else pf))))] H := hP
  have hD : va_D A [(d0, .inr (6, [.int (iZ N), .ref r0, .ref a0, .ref w0, .ref p0, .ref i0, .int (iZ bg), .int (iZ en), .int (iZ fl), .int (iZ rs)])), (p0, .inr (3, [.ref p1, .int (iZ (if (0 ≤ x ∧ x < 2048) ∧ (pf (x / 64).toNat &&& (1 <<< ((iZ (x % 64)).toInt64 &&& 63))) = 0 then pn + 1 else pn))])), (p1, .inl (cJ, 32, .inr (.inl (if (0 ≤ x ∧ x < 2048) ∧ (pf (x / 64).toNat &&& (1 <<< ((iZ (x % 64)).toInt64 &&& 63))) = 0 then va_up pf (x / 64).toNat (pf (x / 64).toNat ||| (1 <<< ((iZ (x % 64)).toInt64 &&& 63))) else pf))))] := hD
  exact W.zret (v := (iZ (if (0 ≤ x ∧ x < 2048) ∧ (pf (x / 64).toNat &&& (1 <<< ((iZ (x % 64)).toInt64 &&& 63))) = 0 then 1 else 0))) hx hb hr (by split <;> rfl) (fun t ht hW => ⟨⟨_, (), rfl, rfl, by rw [ht]; exact hP, va_K.moved hW.alike hK, hAe ▸ hD⟩, hAe ▸ hS.F ht⟩) (hAe ▸ hS.2.2) d_De_touch_8
set_option maxHeartbeats 4000000 in
set_option maxRecDepth 100000 in
theorem c_De_mark (l : Launch) (dC : Nat → ClassId) (dI : Nat → Nat → Nat) (cB : ClassId) (cI : ClassId) (cJ : ClassId) (cZ : ClassId) (cQ : ClassId) (d0 r0 a0 w0 p0 i0 p1 : Nat) (sz : Nat) (N : Int) (bg : Int) (en : Int) (fl : Int) (rs : Int) (pf : Nat → Int64) (pn : Int) : Met l y_De_mark ((Cond.code y_De_mark prog_1_method_9_code 1 (some .int)) :: gw) ({ frames := 2, cells := 0, slots := 0, locals := 44 } : Room) (zPc (dC, dI) [(cB, .byte), (cI, .int), (cJ, .long), (cZ, .boolean), (cQ, .object "LogDesk$Block")] [.ref d0] [(d0, .inr (6, [.int (iZ N), .ref r0, .ref a0, .ref w0, .ref p0, .ref i0, .int (iZ bg), .int (iZ en), .int (iZ fl), .int (iZ rs)])), (p0, .inr (3, [.ref p1, .int (iZ pn)])), (p1, .inl (cJ, 32, .inr (.inl pf)))] sz) (va_Qi (fun (r : Int32) (_ : Unit) => r = iZ en) (zB (dC, dI) [(cB, .byte), (cI, .int), (cJ, .long), (cZ, .boolean), (cQ, .object "LogDesk$Block")] (va_A [(d0, .inr (6, [.int (iZ N), .ref r0, .ref a0, .ref w0, .ref p0, .ref i0, .int (iZ bg), .int (iZ en), .int (iZ fl), .int (iZ rs)])), (p0, .inr (3, [.ref p1, .int (iZ pn)])), (p1, .inl (cJ, 32, .inr (.inl pf)))] sz) [(d0, .inr (6, [.int (iZ N), .ref r0, .ref a0, .ref w0, .ref p0, .ref i0, .int (iZ bg), .int (iZ en), .int (iZ fl), .int (iZ rs)])), (p0, .inr (3, [.ref p1, .int (iZ 0)])), (p1, .inl (cJ, 32, .inr (.inl (fun j => if j < 32 then 0 else pf j))))]) (va_A [(d0, .inr (6, [.int (iZ N), .ref r0, .ref a0, .ref w0, .ref p0, .ref i0, .int (iZ bg), .int (iZ en), .int (iZ fl), .int (iZ rs)])), (p0, .inr (3, [.ref p1, .int (iZ pn)])), (p1, .inl (cJ, 32, .inr (.inl pf)))] sz)) 0 0 (va_A [(d0, .inr (6, [.int (iZ N), .ref r0, .ref a0, .ref w0, .ref p0, .ref i0, .int (iZ bg), .int (iZ en), .int (iZ fl), .int (iZ rs)])), (p0, .inr (3, [.ref p1, .int (iZ pn)])), (p1, .inl (cJ, 32, .inr (.inl pf)))] sz) := by
  refine Met.ofW (cc := prog_1_method_9_code) (maxL := 1) (ret := (some .int)) (by decide) rfl ?_
  intro p e s m args below meth c s₁ B hml hv
  obtain ⟨rfl, hsz, hP, hK, hD0, hZ⟩ := hv
  have hx := B.exec
  have hb := B.bytes
  have hr := B.returns
  have hts := atoms_spec (ws := (Cond.code y_De_mark prog_1_method_9_code 1 (some .int)) :: gw) B.pre
  have htg : ∀ w ∈ gw, w.before _ s = true := fun w h => hts w (List.mem_cons_of_mem _ h)
  have hown : s.vm.findClass "LogDesk" = some m.cls := findClass_of_methodNamed B.named
  have hlocks := B.notSynchronized
  subst hsz
  have hD := hD0.self (sz := s.heap.size)
  generalize hAe : va_A [(d0, .inr (6, [.int (iZ N), .ref r0, .ref a0, .ref w0, .ref p0, .ref i0, .int (iZ bg), .int (iZ en), .int (iZ fl), .int (iZ rs)])), (p0, .inr (3, [.ref p1, .int (iZ pn)])), (p1, .inl (cJ, 32, .inr (.inl pf)))] s.heap.size = A at hD ⊢
  have hRc : (headSpec ((Cond.code y_De_mark prog_1_method_9_code 1 (some .int)) :: gw) ({ frames := 2, cells := 0, slots := 0, locals := 44 } : Room)).room.cells = 0 := rfl
  have hRs : (headSpec ((Cond.code y_De_mark prog_1_method_9_code 1 (some .int)) :: gw) ({ frames := 2, cells := 0, slots := 0, locals := 44 } : Room)).room.slots = 0 := rfl
  have hA : ∀ q : Nat, s.heap.size ≤ q → A q := fun q h => by rw [← hAe]; exact Or.inr h
  have hS : va_S A s.heap s.heap [] := va_S.rf
  have hP : va_P (dC, dI) vwCl [(d0, .inr (6, [.int (iZ N), .ref r0, .ref a0, .ref w0, .ref p0, .ref i0, .int (iZ bg), .int (iZ en), .int (iZ fl), .int (iZ rs)])), (p0, .inr (3, [.ref p1, .int (iZ pn)])), (p1, .inl (cJ, 32, .inr (.inl pf)))] s.heap := hP
  have hl := lv_entry ([.ref d0]) (n := 1) (Nat.le_of_ble_eq_true rfl)
  rw [lg_entry_eq]
  generalize (lg_sl ([.ref d0]) ++ List.replicate (1 - (lg_sl ([.ref d0])).length) Slot.unset).toArray = ls at hl ⊢
  have hl : lv_has ls 1 [(0, .ref d0)] := hl
  refine lv_aload_n hx hb d_De_mark_0 rfl (lv_at hl 0 rfl) ?_
  refine va_get (D := (dC, dI)) (ci := 6) (v := .ref p0) (C := "LogDesk") (T := F_De) (N := 10) hx hb htg hin_De hown hK hP 0 rfl rfl 4 (by decide) (htg _ k_94) (fun _ h9 => h9) rfl d_De_mark_1 ?_
  refine z_v (wr := [(d0, .inr (6, [.int (iZ N), .ref r0, .ref a0, .ref w0, .ref p0, .ref i0, .int (iZ bg), .int (iZ en), .int (iZ fl), .int (iZ rs)]))]) (va_runV (As := []) (rest := []) ⟨hx, hb, hml, hown, htg⟩ (c_Pa_clear l dC dI cB cI cJ cZ cQ p0 p1 s.heap.size pf pn) (cwV 0 htg (gw_V k_173 k_174 k_175 k_5 k_176) rfl rfl rfl (by decide +kernel) ⟨Nat.le_of_ble_eq_true rfl, Nat.le_of_ble_eq_true rfl⟩) (zPreV hK hP hD hZ [1, 2] rfl (by decide) 1 (ci := 3) rfl rfl) rfl rfl hl.1 rfl (lv_room (Nat.le_of_ble_eq_true rfl)) d_De_mark_4 ⟨by omega, by omega⟩) hP hD hS hA [1, 2] [0] rfl rfl (by decide) (by decide) (fun H locs hP hD hS => ?_)
  have hP : va_P (dC, dI) vwCl [(d0, .inr (6, [.int (iZ N), .ref r0, .ref a0, .ref w0, .ref p0, .ref i0, .int (iZ bg), .int (iZ en), .int (iZ fl), .int (iZ rs)])), (p0, .inr (3, [.ref p1, .int (iZ 0)])), (p1, .inl (cJ, 32, .inr (.inl (fun j => if j < 32 then 0 else pf j))))] H := hP
  have hD : va_D A [(d0, .inr (6, [.int (iZ N), .ref r0, .ref a0, .ref w0, .ref p0, .ref i0, .int (iZ bg), .int (iZ en), .int (iZ fl), .int (iZ rs)])), (p0, .inr (3, [.ref p1, .int (iZ 0)])), (p1, .inl (cJ, 32, .inr (.inl (fun j => if j < 32 then 0 else pf j))))] := hD
  refine lv_aload_n hx hb d_De_mark_7 rfl (lv_at hl 0 rfl) ?_
  refine va_get (D := (dC, dI)) (ci := 6) (v := .int (iZ en)) (C := "LogDesk") (T := F_De) (N := 10) hx hb htg hin_De hown hK hP 0 rfl rfl 7 (by decide) (htg _ k_97) (fun _ h9 => h9) rfl d_De_mark_8 ?_
  exact W.iret (v := (iZ en)) hx hb hr (fun t ht hW => ⟨⟨_, (), rfl, rfl, by rw [ht]; exact hP, va_K.moved hW.alike hK, hAe ▸ hD⟩, hAe ▸ hS.F ht⟩) (hAe ▸ hS.2.2) d_De_mark_11
set_option maxHeartbeats 4000000 in
set_option maxRecDepth 100000 in
theorem c_De_isFullFor (l : Launch) (dC : Nat → ClassId) (dI : Nat → Nat → Nat) (cB : ClassId) (cI : ClassId) (cJ : ClassId) (cZ : ClassId) (cQ : ClassId) (d0 r0 a0 w0 p0 i0 : Nat) (sz : Nat) (N : Int) (bg : Int) (en : Int) (fl : Int) (rs : Int) (n : Int) (hpl : 0 ≤ bg ∧ bg ≤ en ∧ en ≤ 1000000000 ∧ 0 ≤ fl ∧ fl ≤ 1000000000) (hn0 : 0 ≤ n ∧ n ≤ 600) (hN : 3 ≤ N ∧ N ≤ 32) : Met l y_De_isFullFor ((Cond.code y_De_isFullFor prog_1_method_18_code 3 (some .boolean)) :: gw) ({ frames := 1, cells := 0, slots := 0, locals := 20 } : Room) (zPc (dC, dI) [(cB, .byte), (cI, .int), (cJ, .long), (cZ, .boolean), (cQ, .object "LogDesk$Block")] [.ref d0, .int (iZ n)] [(d0, .inr (6, [.int (iZ N), .ref r0, .ref a0, .ref w0, .ref p0, .ref i0, .int (iZ bg), .int (iZ en), .int (iZ fl), .int (iZ rs)]))] sz) (va_Qi (fun (r : Int32) (_ : Unit) => r = iZ (if 1000000000 < en + 3 + n ∨ N ≤ (en + 3 + n - 1) / 500 - bg / 500 then 1 else 0)) (zB (dC, dI) [(cB, .byte), (cI, .int), (cJ, .long), (cZ, .boolean), (cQ, .object "LogDesk$Block")] (va_A [(d0, .inr (6, [.int (iZ N), .ref r0, .ref a0, .ref w0, .ref p0, .ref i0, .int (iZ bg), .int (iZ en), .int (iZ fl), .int (iZ rs)]))] sz) [(d0, .inr (6, [.int (iZ N), .ref r0, .ref a0, .ref w0, .ref p0, .ref i0, .int (iZ bg), .int (iZ en), .int (iZ fl), .int (iZ rs)]))]) (va_A [(d0, .inr (6, [.int (iZ N), .ref r0, .ref a0, .ref w0, .ref p0, .ref i0, .int (iZ bg), .int (iZ en), .int (iZ fl), .int (iZ rs)]))] sz)) 0 0 (va_A [(d0, .inr (6, [.int (iZ N), .ref r0, .ref a0, .ref w0, .ref p0, .ref i0, .int (iZ bg), .int (iZ en), .int (iZ fl), .int (iZ rs)]))] sz) := by
  refine Met.ofW (cc := prog_1_method_18_code) (maxL := 3) (ret := (some .boolean)) (by decide) rfl ?_
  intro p e s m args below meth c s₁ B hml hv
  obtain ⟨rfl, hsz, hP, hK, hD0, hZ⟩ := hv
  have hx := B.exec
  have hb := B.bytes
  have hr := B.returns
  have hts := atoms_spec (ws := (Cond.code y_De_isFullFor prog_1_method_18_code 3 (some .boolean)) :: gw) B.pre
  have htg : ∀ w ∈ gw, w.before _ s = true := fun w h => hts w (List.mem_cons_of_mem _ h)
  have hown : s.vm.findClass "LogDesk" = some m.cls := findClass_of_methodNamed B.named
  have hlocks := B.notSynchronized
  subst hsz
  have hD := hD0.self (sz := s.heap.size)
  generalize hAe : va_A [(d0, .inr (6, [.int (iZ N), .ref r0, .ref a0, .ref w0, .ref p0, .ref i0, .int (iZ bg), .int (iZ en), .int (iZ fl), .int (iZ rs)]))] s.heap.size = A at hD ⊢
  have hRc : (headSpec ((Cond.code y_De_isFullFor prog_1_method_18_code 3 (some .boolean)) :: gw) ({ frames := 1, cells := 0, slots := 0, locals := 20 } : Room)).room.cells = 0 := rfl
  have hRs : (headSpec ((Cond.code y_De_isFullFor prog_1_method_18_code 3 (some .boolean)) :: gw) ({ frames := 1, cells := 0, slots := 0, locals := 20 } : Room)).room.slots = 0 := rfl
  have hA : ∀ q : Nat, s.heap.size ≤ q → A q := fun q h => by rw [← hAe]; exact Or.inr h
  have hS : va_S A s.heap s.heap [] := va_S.rf
  have hP : va_P (dC, dI) vwCl [(d0, .inr (6, [.int (iZ N), .ref r0, .ref a0, .ref w0, .ref p0, .ref i0, .int (iZ bg), .int (iZ en), .int (iZ fl), .int (iZ rs)]))] s.heap := hP
  have hl := lv_entry ([.ref d0, .int (iZ n)]) (n := 3) (Nat.le_of_ble_eq_true rfl)
  rw [lg_entry_eq]
  generalize (lg_sl ([.ref d0, .int (iZ n)]) ++ List.replicate (3 - (lg_sl ([.ref d0, .int (iZ n)])).length) Slot.unset).toArray = ls at hl ⊢
  have hl : lv_has ls 3 [(0, .ref d0), (1, .int (iZ n))] := hl
  refine lv_aload_n hx hb d_De_isFullFor_0 rfl (lv_at hl 0 rfl) ?_
  refine va_get (D := (dC, dI)) (ci := 6) (v := .int (iZ en)) (C := "LogDesk") (T := F_De) (N := 10) hx hb htg hin_De hown hK hP 0 rfl rfl 7 (by decide) (htg _ k_97) (fun _ h9 => h9) rfl d_De_isFullFor_1 ?_
  refine lv_iconst (v := iZ 3) hx hb d_De_isFullFor_4 rfl ?_
  refine zz_iadd hx hb d_De_isFullFor_5 ?_
  refine lv_iload_n hx hb d_De_isFullFor_6 rfl (lv_at hl 1 rfl) ?_
  refine zz_iadd hx hb d_De_isFullFor_7 ?_
  refine lv_istore_n (lv' := [(2, .int (iZ ((en + 3) + n))), (0, .ref d0), (1, .int (iZ n))]) hx hb d_De_isFullFor_8 rfl hl (by decide) rfl (fun ls hl => ?_)
  refine lv_iload_n hx hb d_De_isFullFor_9 rfl (lv_at hl 0 rfl) ?_
  refine lv_ldc hx hb hown (htg _ k_326) d_De_isFullFor_10 ?_
  refine zz_num (z := 1000000000) (by decide) ?_
  refine zz_icmp_gt (tgt := 36) hx hb d_De_isFullFor_12 (by decide) ⟨by omega, by omega⟩ ⟨by omega, by omega⟩ (fun c_1 => ?_) (fun c_1 => ?_)
  · refine lv_iconst (v := iZ 1) hx hb d_De_isFullFor_36 rfl ?_
    refine lv_goto (tgt := 41) hx hb d_De_isFullFor_37 (by decide) ?_
    exact W.zret (v := (iZ 1)) hx hb hr rfl (fun t ht hW => ⟨⟨_, (), rfl, (congrArg iZ (by omega)), by rw [ht]; exact hP, va_K.moved hW.alike hK, hAe ▸ hD⟩, hAe ▸ hS.F ht⟩) (hAe ▸ hS.2.2) d_De_isFullFor_41
  · refine lv_iload_n hx hb d_De_isFullFor_15 rfl (lv_at hl 0 rfl) ?_
    refine lv_iconst (v := iZ 1) hx hb d_De_isFullFor_16 rfl ?_
    refine zz_isub hx hb d_De_isFullFor_17 ?_
    refine z_i (wr := [(d0, .inr (6, [.int (iZ N), .ref r0, .ref a0, .ref w0, .ref p0, .ref i0, .int (iZ bg), .int (iZ en), .int (iZ fl), .int (iZ rs)]))]) (va_runS (As := [.int (iZ (((en + 3) + n) - 1))]) (rest := []) ⟨hx, hb, hml, hown, htg⟩ (c_De_blockOf l dC dI cB cI cJ cZ cQ s.heap.size (((en + 3) + n) - 1) (by omega)) (va_cwS 1 htg (gw_S k_327 k_201 k_1 k_202) rfl rfl rfl (by decide +kernel) ⟨Nat.le_of_ble_eq_true rfl, Nat.le_of_ble_eq_true rfl⟩) (zPreS hK hP hD hZ [] rfl (by decide)) rfl rfl hl.1 rfl (lv_room (Nat.le_of_ble_eq_true rfl)) d_De_isFullFor_18 ⟨by omega, by omega⟩) hP hD hS hA [] [0] rfl rfl (by decide) (by decide) (fun H locs hP hD hS => ?_)
    have hP : va_P (dC, dI) vwCl [(d0, .inr (6, [.int (iZ N), .ref r0, .ref a0, .ref w0, .ref p0, .ref i0, .int (iZ bg), .int (iZ en), .int (iZ fl), .int (iZ rs)]))] H := hP
    have hD : va_D A [(d0, .inr (6, [.int (iZ N), .ref r0, .ref a0, .ref w0, .ref p0, .ref i0, .int (iZ bg), .int (iZ en), .int (iZ fl), .int (iZ rs)]))] := hD
    refine lv_aload_n hx hb d_De_isFullFor_21 rfl (lv_at hl 1 rfl) ?_
    refine va_get (D := (dC, dI)) (ci := 6) (v := .int (iZ bg)) (C := "LogDesk") (T := F_De) (N := 10) hx hb htg hin_De hown hK hP 0 rfl rfl 6 (by decide) (htg _ k_96) (fun _ h9 => h9) rfl d_De_isFullFor_22 ?_
    refine z_i (wr := [(d0, .inr (6, [.int (iZ N), .ref r0, .ref a0, .ref w0, .ref p0, .ref i0, .int (iZ bg), .int (iZ en), .int (iZ fl), .int (iZ rs)]))]) (va_runS (As := [.int (iZ bg)]) (rest := [.int (iZ ((((en + 3) + n) - 1) / 500))]) ⟨hx, hb, hml, hown, htg⟩ (c_De_blockOf l dC dI cB cI cJ cZ cQ H.size bg (by omega)) (va_cwS 1 htg (gw_S k_327 k_201 k_1 k_202) rfl rfl rfl (by decide +kernel) ⟨Nat.le_of_ble_eq_true rfl, Nat.le_of_ble_eq_true rfl⟩) (zPreS hK hP hD hZ [] rfl (by decide)) rfl rfl hl.1 rfl (lv_room (Nat.le_of_ble_eq_true rfl)) d_De_isFullFor_25 ⟨by omega, by omega⟩) hP hD hS hA [] [0] rfl rfl (by decide) (by decide) (fun H locs hP hD hS => ?_)
    have hP : va_P (dC, dI) vwCl [(d0, .inr (6, [.int (iZ N), .ref r0, .ref a0, .ref w0, .ref p0, .ref i0, .int (iZ bg), .int (iZ en), .int (iZ fl), .int (iZ rs)]))] H := hP
    have hD : va_D A [(d0, .inr (6, [.int (iZ N), .ref r0, .ref a0, .ref w0, .ref p0, .ref i0, .int (iZ bg), .int (iZ en), .int (iZ fl), .int (iZ rs)]))] := hD
    refine zz_isub hx hb d_De_isFullFor_28 ?_
    refine lv_aload_n hx hb d_De_isFullFor_29 rfl (lv_at hl 1 rfl) ?_
    refine va_get (D := (dC, dI)) (ci := 6) (v := .int (iZ N)) (C := "LogDesk") (T := F_De) (N := 10) hx hb htg hin_De hown hK hP 0 rfl rfl 0 (by decide) (htg _ k_90) (fun _ h9 => h9) rfl d_De_isFullFor_30 ?_
    refine zz_icmp_lt (tgt := 40) hx hb d_De_isFullFor_33 (by decide) ⟨by omega, by omega⟩ ⟨by omega, by omega⟩ (fun c_2 => ?_) (fun c_2 => ?_)
    · refine lv_iconst (v := iZ 0) hx hb d_De_isFullFor_40 rfl ?_
      exact W.zret (v := (iZ 0)) hx hb hr rfl (fun t ht hW => ⟨⟨_, (), rfl, (congrArg iZ (by omega)), by rw [ht]; exact hP, va_K.moved hW.alike hK, hAe ▸ hD⟩, hAe ▸ hS.F ht⟩) (hAe ▸ hS.2.2) d_De_isFullFor_41
    · refine lv_iconst (v := iZ 1) hx hb d_De_isFullFor_36 rfl ?_
      refine lv_goto (tgt := 41) hx hb d_De_isFullFor_37 (by decide) ?_
      exact W.zret (v := (iZ 1)) hx hb hr rfl (fun t ht hW => ⟨⟨_, (), rfl, (congrArg iZ (by omega)), by rw [ht]; exact hP, va_K.moved hW.alike hK, hAe ▸ hD⟩, hAe ▸ hS.F ht⟩) (hAe ▸ hS.2.2) d_De_isFullFor_41
