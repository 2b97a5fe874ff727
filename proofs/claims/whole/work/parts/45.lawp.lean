def R_law : String := "LogDeskLaw"
def lw_P (b : Addr) (xs : List Int32) (args : Array Value) (s : State) : Prop := args = #[.ref b] ∧ s.IntsAt b xs ∧ xs.length ≤ 2049 ∧ (Jvm.Cond.and given_1 narrow_1).before args s = true
def lw_Q (_ : Array Value) (s : State) (o : Outcome) (t : State) : Prop := o = .returned (some (.int 1)) ∧ Framed s o t [] 601024 7293000
def lw_Z (below : List Frame) (a : Array Value) (s : State) : State → Prop := fun t => ∃ o, t.status = .running ∧ Ended t below o ∧ lw_Q a s o t
theorem lw_ret {p : Program} {l : Launch} {e : Env} {s : State} {m : MethodId} {below : List Frame} {meth : Method} {c : Code} {b : Nat} (hx : p.tables.exec = Jvm.exec) (hb : c.code = code) (hr : meth.sig.returnType = ret) (hlocks : meth.locks = false) {pc : Nat} {H : Heap} {ls : Array Slot} (hdg : decode code pc = .ok (.ireturn, 1)) : W p l e room_1 s m #[Value.ref b] below meth c H [] 601024 7293000 (lw_Z below #[Value.ref b] s) (F0 m pc ls [.int 1]) := by
  intro T hT X
  obtain ⟨fs, hret, hrun, hended, hW, hframe⟩ := X.leave (v := some (.int 1)) (hlocks := hlocks) (fun h => by rw [hr] at h; cases h)
  have hmeth' : T.vm.method? m = some meth := X.method'
  refine ⟨T.setFrames fs, ?_, .returned (some (.int 1)), hrun, hended, rfl, ⟨_, rfl⟩, hW, hframe⟩
  jvm_step X.here [X.here.top, hx, hb, hdg, hmeth', hr, ret, narrow_b1]
  (try refine ⟨rfl, ?_⟩); (try refine ⟨rfl, ?_⟩)
  first | (intro acts; rw [hret _ acts rfl rfl rfl]) | rw [hret _ _ rfl rfl rfl]
  exact Steps.refl _
def lw_At (p : Program) (s : State) (m : MethodId) (meth : Method) (c : Code) (b L : Nat) (xs : Nat → Int32) : Prop :=
  p.tables.exec = Jvm.exec ∧ c.code = code ∧ meth.sig.returnType = ret ∧ c.maxLocals = 7 ∧ s.vm.findClass R_law = some m.cls ∧ (∀ w ∈ lw_tbl, w.before #[Value.ref b] s = true) ∧ va_X b L xs s s.heap ∧ b < s.heap.size ∧ meth.locks = false ∧ (Jvm.Cond.and given_1 narrow_1).before #[Value.ref b] s = true

theorem wt0_in : ∀ j : Nat, j < 6 → ((va_up (va_up (va_up (va_up (va_up (va_up (fun _ => 0) (0 : Int).toNat (-1)) (1 : Int).toNat (-1)) (2 : Int).toNat (-1)) (3 : Int).toNat (-1)) (4 : Int).toNat (-1)) (5 : Int).toNat (-1)) : Nat → Int) j = -1 := by
  intro j hj
  rcases (show j = 0 ∨ j = 1 ∨ j = 2 ∨ j = 3 ∨ j = 4 ∨ j = 5 by omega) with rfl | rfl | rfl | rfl | rfl | rfl <;> simp [va_up]
theorem wt0_B : ∀ j : Nat, -1 ≤ ((va_up (va_up (va_up (va_up (va_up (va_up (fun _ => 0) (0 : Int).toNat (-1)) (1 : Int).toNat (-1)) (2 : Int).toNat (-1)) (3 : Int).toNat (-1)) (4 : Int).toNat (-1)) (5 : Int).toNat (-1)) : Nat → Int) j ∧ ((va_up (va_up (va_up (va_up (va_up (va_up (fun _ => 0) (0 : Int).toNat (-1)) (1 : Int).toNat (-1)) (2 : Int).toNat (-1)) (3 : Int).toNat (-1)) (4 : Int).toNat (-1)) (5 : Int).toNat (-1)) : Nat → Int) j < 1000000000 := by
  intro j
  simp only [va_up]
  repeat' split
  all_goals omega
theorem st_arr {args : Array Value} {s : State} {ty : FieldType} (h : (Cond.arrayClass ty).before args s = true) : ∃ cA, ArrOfT s cA ty ∧ s.vm.findClass ("[" ++ ty.toString) = some cA := by
  obtain ⟨cA, kA, comp, h1, h2, h3⟩ := Cond.arrayClass_spec h
  exact ⟨cA, fun n z => ⟨fun k h => (by cases h), kA, h2, comp, h3⟩, h1⟩
theorem st_obj {s : State} {C : String} (h : va_AO C s) : ∃ cA, ArrOfT s cA (.object C) ∧ va_RA s cA (.object C) := by
  obtain ⟨comp, cA, kA, h1, h2, h3, h4, h5⟩ := Cond.arrayOver_spec h
  exact ⟨cA, fun n z => ⟨fun k h => (by cases h), kA, h3, comp, h4⟩, kA, comp, h3, h4, h1, h5⟩
theorem st_K {args : Array Value} {s : State} (htg : ∀ w ∈ gw, w.before args s = true) (hAO : va_AO "LogDesk$Block" s) : ∃ (dC : Nat → ClassId) (dI : Nat → Nat → Nat) (cB cI cJ cZ cQ : ClassId), va_K (dC, dI) vwCl [(cB, .byte), (cI, .int), (cJ, .long), (cZ, .boolean), (cQ, .object "LogDesk$Block")] s := by
  obtain ⟨c0, f0, g0⟩ := u_known (C := "LogDesk$Block") (T := F_Bl) (N := 1) (n := 1) htg hin_Bl (htg _ k_352)
  obtain ⟨c1, f1, g1⟩ := u_known (C := "LogDesk$Disk") (T := F_Di) (N := 2) (n := 2) htg hin_Di (htg _ k_78)
  obtain ⟨c2, f2, g2⟩ := u_known (C := "LogDesk$Hand") (T := F_Ha) (N := 2) (n := 2) htg hin_Ha (htg _ k_39)
  obtain ⟨c3, f3, g3⟩ := u_known (C := "LogDesk$Pages") (T := F_Pa) (N := 2) (n := 2) htg hin_Pa (htg _ k_64)
  obtain ⟨c4, f4, g4⟩ := u_known (C := "LogDesk$Ring") (T := F_Ri) (N := 1) (n := 1) htg hin_Ri (htg _ k_27)
  obtain ⟨c5, f5, g5⟩ := u_known (C := "LogDesk$Waiting") (T := F_Wa) (N := 1) (n := 1) htg hin_Wa (htg _ k_53)
  obtain ⟨c6, f6, g6⟩ := u_known (C := "LogDesk") (T := F_De) (N := 10) (n := 10) htg hin_De (htg _ k_19)
  obtain ⟨c7, f7, g7⟩ := u_known (C := "LogDeskModel") (T := F_Mo) (N := 20) (n := 20) htg hin_Mo (htg _ k_469)
  obtain ⟨cB, b1, b2⟩ := st_arr (htg _ k_51)
  obtain ⟨cI, i1, i2⟩ := st_arr (htg _ k_62)
  obtain ⟨cJ, j1, j2⟩ := st_arr (htg _ k_76)
  obtain ⟨cZ, z1, z2⟩ := st_arr (htg _ k_535)
  obtain ⟨cQ, q1, q2⟩ := st_obj hAO
  refine ⟨fun k => match k with | 0 => c0 | 1 => c1 | 2 => c2 | 3 => c3 | 4 => c4 | 5 => c5 | 6 => c6 | _ => c7, fun k => match k with | 0 => f0 | 1 => f1 | 2 => f2 | 3 => f3 | 4 => f4 | 5 => f5 | 6 => f6 | _ => f7, cB, cI, cJ, cZ, cQ, fun k q hq => ?_, fun k q hq => ?_⟩
  · match k, hq with
    | 0, hq => cases hq; exact g0
    | 1, hq => cases hq; exact g1
    | 2, hq => cases hq; exact g2
    | 3, hq => cases hq; exact g3
    | 4, hq => cases hq; exact g4
    | 5, hq => cases hq; exact g5
    | 6, hq => cases hq; exact g6
    | 7, hq => cases hq; exact g7
    | k + 8, hq => simp [vwCl] at hq
  · match k, hq with
    | 0, hq => cases hq; exact ⟨b1, b2⟩
    | 1, hq => cases hq; exact ⟨i1, i2⟩
    | 2, hq => cases hq; exact ⟨j1, j2⟩
    | 3, hq => cases hq; exact ⟨z1, z2⟩
    | 4, hq => cases hq; exact ⟨q1, q2⟩
    | k + 5, hq => simp at hq
theorem st_Z {b : Nat} {s : State} (hts : ∀ w ∈ lw_tbl, w.before #[Value.ref b] s = true) : NZ s := by
  refine ⟨fun w hw => ?_, fun w hw => ?_, va_AO.of (hts _ (by decide +kernel))⟩
  · simp only [nzW, List.mem_cons, List.not_mem_nil, or_false] at hw
    rcases hw with rfl | rfl | rfl | rfl | rfl | rfl | rfl <;> exact va_Nw.of rfl (hts _ (by decide +kernel))
  · simp only [nzF, List.mem_cons, List.not_mem_nil, or_false] at hw
    subst hw
    exact va_Nw.of rfl (hts _ (by decide +kernel))
theorem st_T {b : Nat} {s : State} (hts : ∀ w ∈ lw_tbl, w.before #[Value.ref b] s = true) (hgv : (Jvm.Cond.and given_1 narrow_1).before #[Value.ref b] s = true) : ∀ w ∈ thW, w.before #[] s = true := by
  have hs := flat_of_before _ hgv
  have h0 : ∀ w ∈ thW, w.before #[Value.ref b] s = true := by
    intro w hw
    simp only [thW, List.mem_cons, List.not_mem_nil, or_false] at hw
    rcases hw with rfl | rfl | rfl | rfl | rfl | rfl | rfl | rfl | rfl | rfl | rfl | rfl | rfl | rfl | rfl | rfl | rfl | rfl | rfl | rfl | rfl | rfl
    all_goals first
      | exact hs _ (by decide +kernel)
      | exact hts _ (by decide +kernel)
  intro w hw
  have h1 := h0 w hw
  simp only [thW, List.mem_cons, List.not_mem_nil, or_false] at hw
  rcases hw with rfl | rfl | rfl | rfl | rfl | rfl | rfl | rfl | rfl | rfl | rfl | rfl | rfl | rfl | rfl | rfl | rfl | rfl | rfl | rfl | rfl | rfl
  all_goals exact h1
