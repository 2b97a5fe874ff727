def TH2 (A : Nat → Prop) (U : State) : Prop := ∃ s0 : State, s0.WarmedH U.vm ∧ s0.heap.size ≤ U.heap.size ∧ (∀ a : Nat, a < s0.heap.size → U.heap[a]? = s0.heap[a]?) ∧ (∀ q : Nat, A q → s0.heap.size ≤ q) ∧ ∀ w ∈ thW, w.before #[] s0 = true
theorem TH.two {ws : va_W} {s : State} {A : Nat → Prop} (h : TH ws s) (hAe : va_A ws s.heap.size = A) : TH2 A s := by
  obtain ⟨s0, h1, h2, h3, h4, h5⟩ := h
  refine ⟨s0, h1, h2, h3, fun q hq => ?_, h5⟩
  rw [← hAe] at hq
  rcases hq with ⟨k, e, hk⟩ | hk
  · exact h4 k _ hk
  · omega
theorem TH2.call {ws : va_W} {s U : State} {A : Nat → Prop} {H : Heap} {locs : List Loc} (h : TH2 A s) (hS : va_S A s.heap H locs) (hD : va_D A ws) (hU : U.heap = H) (hW : s.WarmedH U.vm) : TH ws U := by
  obtain ⟨s0, h1, h2, h3, h4, h5⟩ := h
  refine ⟨s0, State.WarmedH.trans h1 hW, by rw [hU]; exact Nat.le_trans h2 hS.1, fun a ha => ?_, fun k q hk => h4 _ (hD.2 k q hk), h5⟩
  rw [hU, hS.2.1 a (Nat.lt_of_lt_of_le ha h2) (fun q => by have := h4 a q; omega), h3 a ha]
theorem TH2.no {A : Nat → Prop} {s : State} (h : TH2 A s) {C N : String} (hw : Cond.not (.castable C N) ∈ thW) : ∀ c1 c2, s.vm.findClass C = some c1 → s.vm.findClass N = some c2 → s.vm.assignable c1 c2 = false := by
  obtain ⟨s0, h1, h2, h3, h4, h5⟩ := h
  obtain ⟨a, b, g1, g2, g3⟩ := va_Nc.moved h1.alike (va_Nc.of (h5 _ hw))
  intro c1 c2 e1 e2
  cases g1.symm.trans e1
  cases g2.symm.trans e2
  exact g3
section ZP41
variable {s : State} {H : Heap} {D : va_G} {A : Nat → Prop} {tys : List (ClassId × FieldType)} {ws wc X cx pl : va_W} {locs : List Loc} {H0 : Heap}
theorem zPreST {As : List Value} (hK : va_K D vwCl tys s) (hP : va_P D vwCl ws H) (hD : va_D A ws) (hZ : NZ s) (hT : TH2 A s) (hS : va_S A s.heap H locs) (isC : List Nat) (hC : isC.map (fun i => ws[i]?) = wc.map some) (hn : va_nd isC = true) : PreS s H (zPcT D tys As wc H.size) As :=
  ⟨zPcT_blind, fun U hU hW => ⟨rfl, ⟨by rw [hU], by rw [hU]; exact hP.sub isC (zSub hC), va_K.moved hW.alike hK, (hD.sub isC hn hC).weaken (fun _ _ _ _ => trivial), hZ.warm hW⟩, hT.call hS (hD.sub isC hn hC) hU hW⟩⟩
theorem zPreVT {As : List Value} {b ci : Nat} {q : vw_C} {fs : List Value} (hK : va_K D vwCl tys s) (hP : va_P D vwCl ws H) (hD : va_D A ws) (hZ : NZ s) (hT : TH2 A s) (hS : va_S A s.heap H locs) (isC : List Nat) (hC : isC.map (fun i => ws[i]?) = wc.map some) (hn : va_nd isC = true) (q0 : Nat) (hq : vwCl[ci]? = some q) (he : ws[q0]? = some (b, .inr (ci, fs))) : PreV s H q.1 b (zPcT D tys (.ref b :: As) wc H.size) As :=
  ⟨zPcT_blind, va_recv hK hP hq he, (zPreST (As := .ref b :: As) hK hP hD hZ hT hS isC hC hn).2⟩
theorem zPreSPT {As : List Value} (hK : va_K D vwCl tys s) (hP : va_P D vwCl (X ++ pl) H) (hD : va_D A (X ++ pl)) (hZ : NZ s) (hT : TH2 A s) (hS : va_S A s.heap H locs) (isC : List Nat) (hC : isC.map (fun i => X[i]?) = cx.map some) (hn : va_nd isC = true) : PreS s H (zPcT D tys As (cx ++ pl) H.size) As :=
  ⟨zPcT_blind, fun U hU hW => ⟨rfl, ⟨by rw [hU], by rw [hU]; exact hP.part isC hC, va_K.moved hW.alike hK, (hD.part isC hn hC).weaken (fun _ _ _ _ => trivial), hZ.warm hW⟩, hT.call hS (hD.part isC hn hC) hU hW⟩⟩
theorem zPreVPT {As : List Value} {b ci : Nat} {q : vw_C} {fs : List Value} (hK : va_K D vwCl tys s) (hP : va_P D vwCl (X ++ pl) H) (hD : va_D A (X ++ pl)) (hZ : NZ s) (hT : TH2 A s) (hS : va_S A s.heap H locs) (isC : List Nat) (hC : isC.map (fun i => X[i]?) = cx.map some) (hn : va_nd isC = true) (q0 : Nat) (hq : vwCl[ci]? = some q) (he : (X ++ pl)[q0]? = some (b, .inr (ci, fs))) : PreV s H q.1 b (zPcT D tys (.ref b :: As) (cx ++ pl) H.size) As :=
  ⟨zPcT_blind, va_recv hK hP hq he, (zPreSPT (As := .ref b :: As) hK hP hD hZ hT hS isC hC hn).2⟩
end ZP41
section ZC41
variable {p : Program} {l : Launch} {e : Env} {R : Room} {s : State} {m : MethodId} {args : Array Value} {below : List Frame} {meth : Method} {c : Code} {H : Heap} {locs : List Loc} {cells slots : Nat} {Q : State → Prop}
def zHK (p : Program) (l : Launch) (e : Env) (R : Room) (s : State) (m : MethodId) (args : Array Value) (below : List Frame) (meth : Method) (c : Code) (kc : Int) (n1 n2 : String) (pc : Nat) (ls : Array Slot) (rest : List Value) (h1 h2 : Nat) : Prop :=
  ∀ (T : State) (locs1 : List Loc) (k1 k2 x : Nat) (ce : Cell), Stand p l e R s m args below meth c T locs1 k1 k2 → T.heap[x]? = some ce → ce.vm = .none →
    (kc = 1 → T.vm.findClass n1 = some ce.cls → ∃ vm', s.WarmedH vm' ∧ ∀ target, Steps p.tables e below ((T.setVm vm').setTop (F0 m h1 ls [.ref x])) target → Steps p.tables e below ((T.setTop (F0 m pc ls rest)).pushFrame (.throwing x)) target) ∧
    (kc = 2 → T.vm.findClass n2 = some ce.cls → ∃ vm', s.WarmedH vm' ∧ ∀ target, Steps p.tables e below ((T.setVm vm').setTop (F0 m h2 ls [.ref x])) target → Steps p.tables e below ((T.setTop (F0 m pc ls rest)).pushFrame (.throwing x)) target)
theorem zf_hands2 {kc : Int} {own n1 n2 : String} {pc h1 h2 i1 i2 a1 b1 a2 b2 : Nat} {ls : Array Slot} {rest : List Value} (hown : s.vm.findClass own = some m.cls) (htab : c.exceptionTable.toList.map (fun h => (h.startPc, h.endPc, h.handlerPc, h.catchType)) = [(a1, b1, h1, i1), (a2, b2, h2, i2)]) (hl1 : (Cond.classLink own i1 n1).before args s = true) (hl2 : (Cond.classLink own i2 n2).before args s = true)
    (hno : ∀ c1 c2, s.vm.findClass n2 = some c1 → s.vm.findClass n1 = some c2 → s.vm.assignable c1 c2 = false) (hz : (a1 ≤ pc ∧ pc < b1 ∧ i1 ≠ 0) ∧ (a2 ≤ pc ∧ pc < b2 ∧ i2 ≠ 0)) : zHK p l e R s m args below meth c kc n1 n2 pc ls rest h1 h2 := by
  obtain ⟨x1, x2, ht, ⟨rfl, rfl, rfl, rfl⟩, ⟨rfl, rfl, rfl, rfl⟩⟩ := zf_tab2 htab
  intro T locs1 k1 k2 x ce X hc hv
  refine ⟨fun _ hn => ?_, fun _ hn => ?_⟩
  · exact zf_first X hown (g := F0 m pc ls rest) rfl hc hv hn ht (by simp [covers]; omega) hz.1.2.2 hl1
  · exact zf_second X hown (g := F0 m pc ls rest) rfl hc hv hn ht (by simp [covers]; omega) hz.1.2.2 hl1 (by simp [covers]; omega) hz.2.2.2 hl2 hno
theorem zf_hands1 {kc : Int} {own n1 n2 : String} {pc h1 h2 i1 a1 b1 : Nat} {ls : Array Slot} {rest : List Value} (hown : s.vm.findClass own = some m.cls) (htab : c.exceptionTable.toList.map (fun h => (h.startPc, h.endPc, h.handlerPc, h.catchType)) = [(a1, b1, h1, i1)]) (hl1 : (Cond.classLink own i1 n1).before args s = true) (hk2 : kc ≠ 2) (hz : a1 ≤ pc ∧ pc < b1 ∧ i1 ≠ 0) : zHK p l e R s m args below meth c kc n1 n2 pc ls rest h1 h2 := by
  obtain ⟨x1, ht, rfl, rfl, rfl, rfl⟩ := zf_tab1 htab
  intro T locs1 k1 k2 x ce X hc hv
  refine ⟨fun _ hn => ?_, fun h _ => absurd h hk2⟩
  exact zf_first X hown (g := F0 m pc ls rest) rfl hc hv hn ht (by simp [covers]; omega) hz.2.2 hl1
variable {pc h1 h2 : Nat} {ls : Array Slot} {rest st0 : List Value} {D : va_G} {A : Nat → Prop} {tys : List (ClassId × FieldType)} {ws wc wr X cx pl : va_W} {H0 : Heap} {mc ms : Nat} {a : Array Value} {S : Type} {Φ : S → Prop} {w1 rx pl1 : S → va_W} {c1 c2 : String} {kc : Int} {rv : Option Value}
theorem zt_end {free : Addr → Prop} {A1 : Nat → Prop} {w : S → va_W} (hr : zRunT p l e R s m args below meth c H locs cells slots mc ms (F0 m pc ls st0) rest (zQT D tys A1 c1 c2 kc rv Φ w a) free) (hS : va_S A H0 H locs) (hF1 : ∀ q, A1 q → A q) (hF2 : ∀ q, free q → A q) (hk : zHK p l e R s m args below meth c kc c1 c2 pc ls rest h1 h2)
    (kk : ∀ (u : S), Φ u → ∀ (H1 : Heap) (locs1 : List Loc), va_P D vwCl (w u) H1 → va_D A1 (w u) → H.size ≤ H1.size → (∀ q : Nat, q < H.size → ¬ A1 q → H1[q]? = H[q]?) → va_S A H0 H1 locs1 →
      (kc = 0 → W p l e R s m args below meth c H1 locs1 (cells + mc) (slots + ms) Q (F0 m (pc + 3) ls (rv.toList ++ rest))) ∧ (kc = 1 → ∀ x : Nat, W p l e R s m args below meth c H1 locs1 (cells + mc) (slots + ms) Q (F0 m h1 ls [.ref x])) ∧ (kc = 2 → ∀ x : Nat, W p l e R s m args below meth c H1 locs1 (cells + mc) (slots + ms) Q (F0 m h2 ls [.ref x]))) :
    W p l e R s m args below meth c H locs cells slots Q (F0 m pc ls st0) := by
  intro T hT Y
  obtain ⟨o, st₀, t, T', L, g0, Y', hL, e1, e2, ⟨⟨u, hu, ⟨hP1, hK1, hD1⟩, ho⟩, hz, hkp⟩, hgo⟩ := hr T hT Y
  rw [g0] at hz hkp
  rw [← e1] at hP1 hz
  have hkp' : ∀ q : Nat, q < H.size → ¬ A1 q → T'.heap[q]? = H[q]? := fun q q1 q2 => by rw [e1]; exact hkp q q1 q2
  have hS1 : va_S A H0 T'.heap (locs ++ L) := ⟨Nat.le_trans hS.1 hz, fun q q1 q2 => by rw [hkp' q (Nat.lt_of_lt_of_le q1 hS.1) (fun z => q2 (hF1 q z))]; exact hS.2.1 q q1 q2, fun q hq => by
    rcases List.mem_append.mp hq with h | h
    · exact hS.2.2 q h
    · exact hF2 _ (hL q h)⟩
  obtain ⟨r0, r1, r2⟩ := kk u hu T'.heap (locs ++ L) hP1 hD1 hz hkp' hS1
  rcases ho with ⟨k0, rfl⟩ | ⟨k1, x, ce, rfl, hx1, hx2, hx3⟩ | ⟨k2, x, ce, rfl, hx1, hx2, hx3⟩
  · rcases hgo with ⟨v, hv, st⟩ | ⟨x, hx, -⟩
    · cases hv
      obtain ⟨t2, a1, b1⟩ := r0 k0 T' rfl Y'
      exact ⟨t2, st t2 a1, b1⟩
    · cases hx
  · rcases hgo with ⟨v, hv, -⟩ | ⟨x', hx, st⟩
    · cases hv
    · cases hx
      obtain ⟨vm', hW', hq⟩ := (hk T' _ _ _ x ce Y' (by rw [e1]; exact hx1) hx3).1 k1 (by rw [e2]; exact hx2)
      obtain ⟨t2, a1, b1⟩ := r1 k1 x (T'.setVm vm') rfl (Y'.noted hW')
      exact ⟨t2, st t2 (hq t2 a1), b1⟩
  · rcases hgo with ⟨v, hv, -⟩ | ⟨x', hx, st⟩
    · cases hv
    · cases hx
      obtain ⟨vm', hW', hq⟩ := (hk T' _ _ _ x ce Y' (by rw [e1]; exact hx1) hx3).2 k2 (by rw [e2]; exact hx2)
      obtain ⟨t2, a1, b1⟩ := r2 k2 x (T'.setVm vm') rfl (Y'.noted hW')
      exact ⟨t2, st t2 (hq t2 a1), b1⟩
theorem zt_call (hr : zRunT p l e R s m args below meth c H locs cells slots mc ms (F0 m pc ls st0) rest (zQT D tys (va_A wc H.size) c1 c2 kc rv Φ w1 a) (va_A wc H.size)) (hP : va_P D vwCl ws H) (hD : va_D A ws) (hS : va_S A H0 H locs) (hA : ∀ q, H0.size ≤ q → A q) (isC isR : List Nat) (hC : isC.map (fun i => ws[i]?) = wc.map some) (hR : isR.map (fun i => ws[i]?) = wr.map some) (hn : va_nd isR = true) (hdis : ∀ i ∈ isR, i ∉ isC) (hk : zHK p l e R s m args below meth c kc c1 c2 pc ls rest h1 h2)
    (kk0 : kc = 0 → ∀ (u : S), Φ u → ∀ (H1 : Heap) (locs1 : List Loc), va_P D vwCl (wr ++ w1 u) H1 → va_D A (wr ++ w1 u) → va_S A H0 H1 locs1 → W p l e R s m args below meth c H1 locs1 (cells + mc) (slots + ms) Q (F0 m (pc + 3) ls (rv.toList ++ rest)))
    (kk1 : kc = 1 → ∀ (u : S), Φ u → ∀ (H1 : Heap) (locs1 : List Loc) (x : Nat), va_P D vwCl (wr ++ w1 u) H1 → va_D A (wr ++ w1 u) → va_S A H0 H1 locs1 → W p l e R s m args below meth c H1 locs1 (cells + mc) (slots + ms) Q (F0 m h1 ls [.ref x]))
    (kk2 : kc = 2 → ∀ (u : S), Φ u → ∀ (H1 : Heap) (locs1 : List Loc) (x : Nat), va_P D vwCl (wr ++ w1 u) H1 → va_D A (wr ++ w1 u) → va_S A H0 H1 locs1 → W p l e R s m args below meth c H1 locs1 (cells + mc) (slots + ms) Q (F0 m h2 ls [.ref x])) : W p l e R s m args below meth c H locs cells slots Q (F0 m pc ls st0) := by
  have hFc := va_free (wc := wc) hD hS hA isC hC
  refine zt_end hr hS hFc hFc hk (fun u hu H1 locs1 hP1 hD1 hz hk1 hS1 => ?_)
  obtain ⟨hP2, hD2⟩ := va_join hP hD isC isR hC hR hn hdis hk1 hFc hP1 hD1
  exact ⟨fun k => kk0 k u hu H1 locs1 hP2 hD2 hS1, fun k x => kk1 k u hu H1 locs1 x hP2 hD2 hS1, fun k x => kk2 k u hu H1 locs1 x hP2 hD2 hS1⟩
theorem zt_callP (hr : zRunT p l e R s m args below meth c H locs cells slots mc ms (F0 m pc ls st0) rest (zQT D tys (va_A (cx ++ pl) H.size) c1 c2 kc rv Φ (fun u => rx u ++ pl1 u) a) (va_A (cx ++ pl) H.size)) (hP : va_P D vwCl (X ++ pl) H) (hD : va_D A (X ++ pl)) (hS : va_S A H0 H locs) (hA : ∀ q, H0.size ≤ q → A q) (isC isR : List Nat) (hC : isC.map (fun i => X[i]?) = cx.map some) (hR : isR.map (fun i => X[i]?) = wr.map some) (hn : va_nd isR = true) (hdis : ∀ i ∈ isR, i ∉ isC) (hk : zHK p l e R s m args below meth c kc c1 c2 pc ls rest h1 h2)
    (kk0 : kc = 0 → ∀ (u : S), Φ u → ∀ (H1 : Heap) (locs1 : List Loc), va_P D vwCl ((wr ++ rx u) ++ pl1 u) H1 → va_D A ((wr ++ rx u) ++ pl1 u) → va_S A H0 H1 locs1 → W p l e R s m args below meth c H1 locs1 (cells + mc) (slots + ms) Q (F0 m (pc + 3) ls (rv.toList ++ rest)))
    (kk1 : kc = 1 → ∀ (u : S), Φ u → ∀ (H1 : Heap) (locs1 : List Loc) (x : Nat), va_P D vwCl ((wr ++ rx u) ++ pl1 u) H1 → va_D A ((wr ++ rx u) ++ pl1 u) → va_S A H0 H1 locs1 → W p l e R s m args below meth c H1 locs1 (cells + mc) (slots + ms) Q (F0 m h1 ls [.ref x]))
    (kk2 : kc = 2 → ∀ (u : S), Φ u → ∀ (H1 : Heap) (locs1 : List Loc) (x : Nat), va_P D vwCl ((wr ++ rx u) ++ pl1 u) H1 → va_D A ((wr ++ rx u) ++ pl1 u) → va_S A H0 H1 locs1 → W p l e R s m args below meth c H1 locs1 (cells + mc) (slots + ms) Q (F0 m h2 ls [.ref x])) : W p l e R s m args below meth c H locs cells slots Q (F0 m pc ls st0) := by
  have hFc := va_freeP (cx := cx) hD hS hA isC hC
  refine zt_end hr hS hFc hFc hk (fun u hu H1 locs1 hP1 hD1 hz hk1 hS1 => ?_)
  obtain ⟨hP2, hD2⟩ := va_joinP hP hD isC isR hC hR hn hdis hk1 hFc hP1 hD1
  exact ⟨fun k => kk0 k u hu H1 locs1 hP2 hD2 hS1, fun k x => kk1 k u hu H1 locs1 x hP2 hD2 hS1, fun k x => kk2 k u hu H1 locs1 x hP2 hD2 hS1⟩
theorem zl_runSW {y : MethodName} {bytes cc : ByteArray} {maxL nL n index : Nat} {ret : Option FieldType} {hh : List (Nat × Nat × Nat × Nat)} {ws : List Cond} {rm : Room} {Pc : Array Value → State → Prop} {Qc : Array Value → State → Outcome → State → Prop} {free : Addr → Prop} {Ts : List Cond} {own : String} {As : List Value} {g : JFrame}
    (hS : CallFix p m c cc nL s args Ts own) (hM : Met l y ws rm Pc Qc mc ms free) (hw : ∀ w ∈ ws, ∀ (a' : Array Value) (U : State), s.WarmedH U.vm → w.before a' U = true) (hcw : Cond.codeWith y bytes maxL ret hh ∈ ws) (hlink : (Cond.methodLink own index y).before args s = true) (hstat : (Cond.static y).before args s = true) (hinit : (Cond.initialized y.cls).before args s = true)
    (hrm : rm.cells = mc ∧ rm.slots = ms ∧ rm.frames + 1 ≤ R.frames ∧ 8 + (maxL + 11) + rm.locals ≤ R.locals) (hd : y.cls ≠ "java/lang/invoke/MethodHandle" ∧ y.cls ≠ "java/lang/invoke/VarHandle" ∧ (parseMethodDescriptor y.desc).map (fun d => d.parameters.length) = some n) (hp : PreS s H Pc As)
    (hg : g.method = m) (hn : As.length = n) (hsize : g.locals.size = nL) (hstack : g.stack = As.reverse ++ rest) (hW : 2 * g.monitorRoom + (rest.map fun v => v.category).sum ≤ 8) (hdg : decode cc g.pc = .ok (.invokestatic index, 3)) (hf : cells + mc ≤ R.cells ∧ slots + ms ≤ R.slots) :
    va_Run p l e R s m args below meth c H locs cells slots mc ms g rest (Qc As.toArray) free := by
  have hK : Back l R p e below s args y 3 8 (PreOf R mc ms Pc) (PostOf Qc mc ms free) := va_backW (hh := hh) (bytes := bytes) (maxL := maxL) (ret := ret) hM hp.1 hrm.1 hrm.2.1 hrm.2.2.1 hrm.2.2.2 hw hcw (fun a' U hW => word_at hW (Or.inl (by first | rfl | simp [Cond.onTables, Cond.keeps, Cond.steady])) hinit)
  obtain ⟨hx, hb, hml, ho, -⟩ := hS
  intro T hT Y
  obtain ⟨mk, methM, cM, hnamed, hmethM, -, -, -, -, -, -, hsigM⟩ := Cond.codeWith_spec (hw _ hcw args s (State.WarmedH.refl _))
  have hstatic : methM.isStatic = true := Cond.static_spec hnamed hmethM hstat
  obtain ⟨kP, hkP, -⟩ := className_of_methodNamed hnamed
  have hinitP : kP.init = .initialized := Cond.initialized_spec (findClass_of_methodNamed hnamed) hkP hinit
  have hlen : As.length = methM.sig.parameters.length := by
    have h2 := hd.2.2
    rw [hsigM] at h2
    exact hn.trans (Option.some.inj h2).symm
  obtain ⟨vm₁, X₁, hstep₁⟩ := Y.invokestatic hx ho hlink hnamed hmethM hstatic hkP hinitP ⟨hd.1, hd.2.1⟩ (g := g) hg (argsL := As) (rest := rest) hlen hstack (by rw [hb]; exact hdg)
  obtain ⟨v, ⟨U', l2, c2, s2⟩, X', ⟨g', mk', t, L, e1, e2, hq, q1, hL, q2, q3⟩, hsteps⟩ := hK m meth c ⟨T.setVm vm₁, locs, cells, slots⟩ { g with stack := rest } (.invokestatic index) mk As.toArray X₁ hg (hsize.trans hml.symm) (by rw [hb]; exact hdg) hW (X₁.named hnamed) ⟨hf.1, hf.2, hp.2 (T.setVm vm₁) hT X₁.warmed⟩
  dsimp only [Pt.U, Pt.locs, Pt.cells, Pt.slots] at X' e1 e2 q1 q2 q3 hsteps
  subst q1; subst q2; subst q3
  exact ⟨v, (T.setVm vm₁).calling g' mk' As.toArray, t, U', L, hT, X', hL, e1, e2, hq, fun target h => hstep₁ _ fun acts => by rw [doInvoke_state]; exact hsteps.trans h⟩
end ZC41
def xz (xs : Nat → Int32) (j : Nat) : Int := (xs j).toInt
theorem xz_B (xs : Nat → Int32) (j : Nat) : iB (xz xs j) := iB_toInt _
theorem iZ_and15 (a : Int) : iZ a &&& iZ 15 = iZ (a % 16) := by
  have h := pk_and (iZ a) (m := iZ 15) 4 (by decide)
  rw [h, ← iZ_nat]
  congr 1
  have := iZ_tn a
  omega
section ZL41
variable {p : Program} {l : Launch} {e : Env} {R : Room} {s : State} {m : MethodId} {args : Array Value} {below : List Frame} {meth : Method} {c : Code} {H : Heap} {locs : List Loc} {cells slots : Nat} {Q : State → Prop} {cc : ByteArray} {pc : Nat} {ls : Array Slot} {rest : List Value} {A : Nat → Prop} {H0 : Heap}
theorem zl_slen (hexec : p.tables.exec = Jvm.exec) (hb : c.code = cc) {b L : Nat} {xs : Nat → Int32} (hX : va_X b L xs s H0) (hbl : b < H0.size) (hbA : ¬ A b) (hS : va_S A H0 H locs) (hdg : decode cc pc = .ok (.arraylength, 1))
    (kk : W p l e R s m args below meth c H locs cells slots Q (F0 m (pc + 1) ls (.int (iZ (L : Int)) :: rest))) : W p l e R s m args below meth c H locs cells slots Q (F0 m pc ls (.ref b :: rest)) := by
  refine va_slen hexec hb hX hbl hbA hS hdg ?_
  rw [iZ_nat] at kk
  exact kk
theorem zl_sld (hexec : p.tables.exec = Jvm.exec) (hb : c.code = cc) {b L : Nat} {xs : Nat → Int32} (hX : va_X b L xs s H0) (hbl : b < H0.size) (hbA : ¬ A b) (hS : va_S A H0 H locs) {x : Int} (h0 : 0 ≤ x) (h1 : x < L) (hn : L < 2147483648) (hdg : decode cc pc = .ok (.iaload, 1))
    (kk : W p l e R s m args below meth c H locs cells slots Q (F0 m (pc + 1) ls (.int (iZ (xz xs x.toNat)) :: rest))) : W p l e R s m args below meth c H locs cells slots Q (F0 m pc ls (.int (iZ x) :: .ref b :: rest)) := by
  refine va_sld hexec hb hX hbl hbA hS (iZ_in h0 h1 hn) hdg ?_
  rw [iZ_cl h0 (by omega)]
  have : iZ (xz xs x.toNat) = xs x.toNat := iZ_self _
  rw [this] at kk
  exact kk
theorem zl_and15 (hexec : p.tables.exec = Jvm.exec) (hb : c.code = cc) {x : Int} (hdg : decode cc pc = .ok (.iand, 1)) (k : W p l e R s m args below meth c H locs cells slots Q (F0 m (pc + 1) ls (.int (iZ (x % 16)) :: rest))) : W p l e R s m args below meth c H locs cells slots Q (F0 m pc ls (.int (iZ 15) :: .int (iZ x) :: rest)) := by
  refine lv_iand hexec hb hdg ?_
  rw [iZ_and15]
  exact k
end ZL41
set_option maxHeartbeats 4000000 in
theorem c_La_cell (l : Launch) (b L : Nat) (xs : Nat → Int32) (sz : Nat) (hbl : b < sz) (hL : L < 2147483648) : Met l y_La_cell ((Cond.code y_La_cell method_2_code 2 (some .int)) :: gw) ({ frames := 0, cells := 0, slots := 0, locals := 0 } : Room) (va_Pc [.ref b, .int (iZ 0)] (fun U => U.heap.size = sz ∧ va_X b L xs U U.heap)) (va_Qi (fun (r : Int32) (_ : Unit) => r = iZ (if 0 < (L : Int) then xz xs 0 else 0)) (fun _ _ => True) (fun q : Nat => sz ≤ q)) 0 0 (fun q : Nat => sz ≤ q) := by
  refine Met.ofW (cc := method_2_code) (maxL := 2) (ret := (some .int)) (by decide) rfl ?_
  intro p e s m args below meth c s₁ B hml hv
  obtain ⟨rfl, hsz, hX⟩ := hv
  have hx := B.exec
  have hb := B.bytes
  have hr := B.returns
  subst hsz
  have hS : va_S (fun q : Nat => s.heap.size ≤ q) s.heap s.heap [] := va_S.rf
  have hbA : ¬ (fun q : Nat => s.heap.size ≤ q) b := Nat.not_le.mpr hbl
  have hl := lv_entry ([.ref b, .int (iZ 0)]) (n := 2) (Nat.le_of_ble_eq_true rfl)
  rw [lg_entry_eq]
  generalize (lg_sl ([.ref b, .int (iZ 0)]) ++ List.replicate (2 - (lg_sl ([.ref b, .int (iZ 0)])).length) Slot.unset).toArray = ls at hl ⊢
  have hl : lv_has ls 2 [(0, .ref b), (1, .int (iZ 0))] := hl
  refine lv_iload_n hx hb d_La_cell_0 rfl (lv_at hl 1 rfl) ?_
  refine lv_aload_n hx hb d_La_cell_1 rfl (lv_at hl 0 rfl) ?_
  refine zl_slen hx hb hX hbl hbA hS d_La_cell_2 ?_
  refine zz_icmp_ge (tgt := 12) hx hb d_La_cell_3 (by decide) ⟨by omega, by omega⟩ ⟨by omega, by omega⟩ (fun c1 => ?_) (fun c1 => ?_)
  · refine lv_iconst (v := iZ 0) hx hb d_La_cell_12 rfl ?_
    exact W.iret (v := iZ 0) hx hb hr (fun t ht hW => ⟨⟨_, (), rfl, congrArg iZ (if_neg (by omega)).symm, trivial⟩, hS.F ht⟩) hS.2.2 d_La_cell_13
  · refine lv_aload_n hx hb d_La_cell_6 rfl (lv_at hl 0 rfl) ?_
    refine lv_iload_n hx hb d_La_cell_7 rfl (lv_at hl 1 rfl) ?_
    refine zl_sld hx hb hX hbl hbA hS (by omega) (by omega) hL d_La_cell_8 ?_
    refine lv_goto (tgt := 13) hx hb d_La_cell_9 (by decide) ?_
    exact W.iret (v := iZ (xz xs (0 : Int).toNat)) hx hb hr (fun t ht hW => ⟨⟨_, (), rfl, congrArg iZ (if_pos (by omega)).symm, trivial⟩, hS.F ht⟩) hS.2.2 d_La_cell_13
