def zRunT (p : Program) (l : Launch) (e : Env) (R : Room) (s : State) (m : MethodId) (args : Array Value) (below : List Frame) (meth : Method) (c : Code) (H : Heap) (locs : List Loc) (cells slots mc ms : Nat) (g : JFrame) (rest : List Value) (Qa : State → Outcome → State → Prop) (free : Addr → Prop) : Prop :=
  ∀ T : State, T.heap = H → Stand p l e R s m args below meth c T locs cells slots → ∃ (o : Outcome) (st₀ t T' : State) (L : List Loc), st₀.heap = H ∧ Stand p l e R s m args below meth c T' (locs ++ L) (cells + mc) (slots + ms) ∧ (∀ q ∈ L, free q.base) ∧ T'.heap = t.heap ∧ T'.vm = t.vm ∧ Qa st₀ o t ∧
    ((∃ v, o = .returned v ∧ Goes p e below T g T' { g with pc := g.pc + 3, stack := v.toList ++ rest }) ∨
     (∃ x, o = .threw x ∧ ∀ target, Steps p.tables e below ((T'.setTop { g with stack := rest }).pushFrame (.throwing x)) target → Steps p.tables e below (T.setTop g) target))
section ZT40
variable {p : Program} {l : Launch} {e : Env} {R : Room} {s : State} {m : MethodId} {args : Array Value} {below : List Frame} {meth : Method} {c : Code} {H : Heap} {locs : List Loc} {cells slots : Nat} {Q : State → Prop}
variable {y : MethodName} {bytes cc : ByteArray} {maxL nL mc ms n index : Nat} {ret : Option FieldType} {ws : List Cond} {rm : Room} {Pc : Array Value → State → Prop} {Qc : Array Value → State → Outcome → State → Prop} {free : Addr → Prop} {Ts : List Cond} {own C : String} {b : Addr} {As rest : List Value} {g : JFrame}
theorem zt_runV (S : CallFix p m c cc nL s args Ts own) (hM : MetT l y ws rm Pc Qc mc ms free) (cw : CallW R s args own C index y bytes maxL ret ws rm mc ms n) (hp : PreV s H C b Pc As)
    (hg : g.method = m) (hn : As.length = n) (hsize : g.locals.size = nL) (hstack : g.stack = As.reverse ++ .ref b :: rest) (hW : 2 * g.monitorRoom + (rest.map fun v => v.category).sum ≤ 8) (hdg : decode cc g.pc = .ok (.invokevirtual index, 3)) (hf : cells + mc ≤ R.cells ∧ slots + ms ≤ R.slots) :
    zRunT p l e R s m args below meth c H locs cells slots mc ms g rest (Qc (Value.ref b :: As).toArray) free := by
  obtain ⟨⟨hrc, hrs, hframes, hlocals, hws, hcw, hcode, hini, hy, hlen, hlink⟩, hinst, hsel⟩ := cw
  obtain ⟨hx, hb, hml, hown, -⟩ := S
  obtain ⟨hblind, ⟨cellB, hcell, hobj, hcls⟩, hPc⟩ := hp
  intro T hT X
  subst hg
  have hdg' : decode c.code g.pc = .ok (.invokevirtual index, 3) := by rw [hb]; exact hdg
  obtain ⟨mk, methM, hnamed, hmethM, hstM, habM⟩ := Cond.instanceMethod_spec hinst
  obtain ⟨methM', cM, hmethM', -, -, -, -, -, -, hsigM⟩ := Cond.code_spec hnamed hcode
  cases hmethM.symm.trans hmethM'
  obtain ⟨c2, r2, m2, q1, q2, q3, q4, kP, hkP, hkPi⟩ := Cond.selects_spec hsel
  cases hcls.symm.trans q1
  cases (State.methodFound?_of_named hnamed hy).symm.trans q2
  cases hnamed.symm.trans q3
  have hselP : selectMethod e.platform s.vm cellB.cls mk = .method mk := by rw [Launch.admits_selectMethod X.admits]; exact q4
  obtain ⟨vm₁, X₁, hstep₁⟩ := X.invokevirtual hx hown hlink hnamed hmethM hstM hkP hkPi hy (a := b) (cell := cellB) (by rw [hT]; exact hcell)
    (fun z h => by rw [h] at hobj; cases hobj) hselP hmethM habM hkP hkPi (g := g) rfl (argsL := As) (rest := rest) (hn.trans (hlen _ hsigM)) hstack hdg'
  have hdG : decode c.code ({ g with stack := rest } : JFrame).pc = .ok (.invokevirtual index, 3) := hdg'
  obtain ⟨methY, cY, hmY, hcY, -, hlY, -, -, -, -⟩ := Cond.code_spec (X₁.named hnamed) (hws _ hcw (Value.ref b :: As).toArray (T.setVm vm₁) X₁.warmed)
  obtain ⟨kY, hkY, -⟩ := className_of_methodNamed (X₁.named hnamed)
  have hinitY : kY.init = .initialized := Cond.initialized_spec (findClass_of_methodNamed (X₁.named hnamed)) hkY (word_at (a' := (Value.ref b :: As).toArray) X₁.warmed (Or.inl (by first | rfl | simp [Cond.onTables, Cond.keeps, Cond.steady])) hini)
  have hat : At (T.setVm vm₁) ({ g with stack := rest } : JFrame).method c below := X₁.here
  have happ : (headSpec ws rm).appliesLoose y e.platform ((T.setVm vm₁).calling { g with stack := rest } mk (Value.ref b :: As).toArray) = true :=
    Spec.appliesLoose_calling (g := { g with stack := rest }) hat hdG (X₁.named hnamed) hkY hinitY
      (X₁.room_calling (g := { g with stack := rest }) (R' := (headSpec ws rm).room) (hsize.trans hml.symm) hmY hcY hframes (by
        rw [hlY]
        have h9 : 8 + (maxL + 11) + (headSpec ws rm).room.locals ≤ R.locals := hlocals
        have h8 : 2 * ({ g with stack := rest } : JFrame).monitorRoom + (({ g with stack := rest } : JFrame).stack.map fun v => v.category).sum ≤ 8 := hW
        omega) (by show cells + rm.cells ≤ R.cells; rw [hrc]; exact hf.1) (by show slots + rm.slots ≤ R.slots; rw [hrs]; exact hf.2)) (atoms_intro fun w hw => hws w hw _ _ X₁.warmed)
  obtain ⟨mid, hmid⟩ := hat.above
  have hfr : ((T.setVm vm₁).setTop { g with stack := rest }).frames = (.java { g with stack := rest } :: mid) ++ below := by rw [State.frames_setTop' _ hat.top, hmid]; rfl
  obtain ⟨o, s₂, hsteps, -, hend, hq⟩ := Steps.callFree hM p X.admits X.cas X.clock (acts := []) hfr happ (hblind _ _ _ _ (hPc (T.setVm vm₁) hT X₁.warmed)) trivial
  rw [State.frames_setTop' _ hat.top] at hend
  obtain ⟨hqc, L, ⟨ho, hW₂, e2, w2, w3, w4, w5, w6⟩, hL⟩ := hq
  have e3 : s₂ = ({ ((T.setVm vm₁).calling { g with stack := rest } mk (Value.ref b :: As).toArray).setFrames s₂.frames with heap := s₂.heap, slotsUsed := s₂.slotsUsed } : State).setVm s₂.vm := by
    have h9 : s₂ = ({ s₂ with vm := ((T.setVm vm₁).calling { g with stack := rest } mk (Value.ref b :: As).toArray).vm } : State).setVm s₂.vm := rfl
    have e2' : ({ s₂ with vm := ((T.setVm vm₁).calling { g with stack := rest } mk (Value.ref b :: As).toArray).vm } : State) = _ := e2
    rw [e2'] at h9
    exact h9
  have hW' : (T.setVm vm₁).WarmedH s₂.vm := hW₂
  obtain ⟨g₀, hg0⟩ := Option.isSome_iff_exists.mp hat.top
  obtain ⟨r, hr⟩ := State.topJava?_eq_some.mp hg0
  have hr' : (({ T.setVm vm₁ with heap := s₂.heap, slotsUsed := s₂.slotsUsed } : State).setVm s₂.vm).frames = .java g₀ :: r := hr
  have hsame : (T.setVm vm₁).sameButNew ({ T.setVm vm₁ with heap := s₂.heap, slotsUsed := s₂.slotsUsed } : State) L mc ms := by
    refine ⟨?_, w2, w3, w4, w5, w6⟩
    obtain ⟨t, ht, -⟩ := State.frames_cons hr
    show ({ T.setVm vm₁ with heap := s₂.heap, slotsUsed := s₂.slotsUsed } : State) = { (T.setVm vm₁).setFrames (T.setVm vm₁).frames with heap := s₂.heap, slotsUsed := s₂.slotsUsed }
    rw [State.setFrames_self ht]
  have X₂ : Stand p l e R s g.method args below meth c (({ T.setVm vm₁ with heap := s₂.heap, slotsUsed := s₂.slotsUsed } : State).setVm s₂.vm) (locs ++ L) (cells + mc) (slots + ms) :=
    ⟨X.admits, X.cas, X.clock, X.frames, X.room, X.hears, X.method, X.code, (X₁.here.setHeapUsed s₂.heap s₂.slotsUsed).setVm hW'.alike, X₁.tail, State.WarmedH.trans X₁.warmed hW', X₁.limits, X₁.bytes, X₁.same.trans (hsame.setVm s.vm)⟩
  refine ⟨o, _, s₂, _, L, ?_, X₂, hL, rfl, rfl, hqc, ?_⟩
  · exact hT
  rcases ho with ⟨v, rfl⟩ | ⟨x, rfl⟩
  · refine Or.inl ⟨v, rfl, fun target htg => hstep₁ _ fun acts => ?_⟩
    obtain ⟨c₂, i₂, len₂, hc₂, hd₂, hf₂⟩ := hend
    have hcc : c₂ = c := by
      have h1 : s₂.code? g.method = (T.setVm vm₁).code? g.method := by
        rw [State.code?_eq, State.code?_eq, hW'.alike.method?]
      exact Option.some.inj (hc₂.symm.trans (h1.trans hat.code))
    subst hcc
    have hlen2 : len₂ = 3 := by rw [hdG] at hd₂; cases hd₂; rfl
    subst hlen2
    have hs₂ : s₂ = (({ T.setVm vm₁ with heap := s₂.heap, slotsUsed := s₂.slotsUsed } : State).setVm s₂.vm).setTop { g with pc := g.pc + 3, stack := v.toList ++ rest } := by
      refine e3.trans ?_
      rw [hf₂, State.calling_eq hat.top, State.setFrames_setFrames, State.setTop_of_frames _ hr', hr]
      rfl
    rw [doInvoke_state]
    refine hsteps.trans ?_
    rw [hs₂]
    exact htg
  · refine Or.inr ⟨x, rfl, fun target htg => hstep₁ _ fun acts => ?_⟩
    have hf₂ : s₂.frames = .throwing x :: .java { g with stack := rest } :: (T.setVm vm₁).frames.tail := hend
    have hs₂ : s₂ = ((({ T.setVm vm₁ with heap := s₂.heap, slotsUsed := s₂.slotsUsed } : State).setVm s₂.vm).setTop { g with stack := rest }).pushFrame (.throwing x) := by
      refine e3.trans ?_
      rw [State.pushFrame, State.setTop_of_frames _ hr', State.setFrames_setFrames, hf₂, State.calling_eq hat.top, State.setFrames_setFrames]
      have hc1 : (({ T.setVm vm₁ with heap := s₂.heap, slotsUsed := s₂.slotsUsed } : State).setVm s₂.vm).cur < (({ T.setVm vm₁ with heap := s₂.heap, slotsUsed := s₂.slotsUsed } : State).setVm s₂.vm).threads.size := State.cur_lt_of_frames hr'
      rw [State.frames_setFrames _ hc1, hr]
      rfl
    rw [doInvoke_state]
    refine hsteps.trans ?_
    rw [hs₂]
    exact htg
end ZT40
section ZF40
variable {e : Env} {s : State} {f : JFrame} {a : Addr}
theorem zf_row {x : ExceptionTableEntry} {t : List ExceptionTableEntry} {c : ClassId} {cell : Cell} (hx : covers x f.pc = true) (h0 : x.catchType ≠ 0) (hl : s.vm.ClassLinks e.platform f.method.cls x.catchType c) (hcell : s.heap[a]? = some cell) (hv : cell.vm = .none) (hk : ∃ k, s.vm.classes[cell.cls]? = some k) (hc : ∃ k, s.vm.classes[c]? = some k) (Q : Handler → Pre) (E : CtlPost) (d : Bool) (acts : List Action) :
    wp (findHandler.go f a (x :: t)) Q E e d acts s ↔ if s.vm.assignable cell.cls c = true then Q (.found x.handlerPc) d acts (s.setVm (s.vm.noted f.method.cls x.catchType (.cls c))) else wp (findHandler.go f a t) Q E e d acts (s.setVm (s.vm.noted f.method.cls x.catchType (.cls c))) := by
  have hal : s.vm.Alike (s.vm.noted f.method.cls x.catchType (.cls c)) := (Vm.Alike.refl s.vm).noted _ _ _
  obtain ⟨g1, g2⟩ := (resolveClass_links e.toSetting hl).op (op := VmOp.resolveClass f.method.cls x.catchType) rfl
  obtain ⟨k1, hk1⟩ := hk
  obtain ⟨k2, hk2⟩ := hc
  obtain ⟨j1, hj1, -⟩ := hal.2.2 _ _ hk1
  obtain ⟨j2, hj2, -⟩ := hal.2.2 _ _ hk2
  have hobj : ∀ k, cell.vm ≠ .statics k := fun k h => by rw [hv] at h; cases h
  have hx' := hx
  simp only [covers] at hx'
  have ha : (s.vm.noted f.method.cls x.catchType (.cls c)).assignable cell.cls c = s.vm.assignable cell.cls c := by rw [hal.assignable]
  cases hb : s.vm.assignable cell.cls c with
  | true =>
    rw [hb] at ha
    simp [findHandler.go, hx', h0, g1, g2, hcell, hobj, hj1, hj2, ha, VmOp.dirties, VmOp.acts]
  | false =>
    rw [hb] at ha
    simp [findHandler.go, hx', h0, g1, g2, hcell, hobj, hj1, hj2, ha, VmOp.dirties, VmOp.acts]
end ZF40
section ZG40
theorem zf_step {tb : Tables} {e : Env} {s target : State} {g : JFrame} {c : Code} {below : List Frame} {a : Addr} (h : At s g.method c below) {pc : Nat} {vm' : Vm}
    (hfind : ∀ (Q : Handler → Pre) (E : CtlPost) (d : Bool) (acts : List Action), wp (findHandler g a) Q E e d acts ((s.setTop g).pushFrame (.throwing a)) ↔ Q (.found pc) d acts (((s.setTop g).pushFrame (.throwing a)).setVm vm'))
    (hrest : Steps tb e below ((s.setVm vm').setTop { g with pc := pc, stack := [.ref a] }) target) : Steps tb e below ((s.setTop g).pushFrame (.throwing a)) target := by
  have hone : ∀ r : List Frame, (stepThrowing e ((s.setTop g).pushFrame (.throwing a)) a (.java g :: r)).Is ((((s.setTop g).pushFrame (.throwing a)).setVm vm').setFrames (.java { g with pc := pc, stack := [.ref a] } :: r)) [] := by
    intro r
    simp only [stepThrowing, searchFrame, vmDo]
    generalize hr : Sem.go _ e false [] _ = res
    obtain ⟨as, rfl, ha⟩ := Sem.eq_ok_of hr (a := Handler.found pc) (s' := ((s.setTop g).pushFrame (.throwing a)).setVm vm') (acts' := []) (by simp [hfind _ _ _ _])
    exact ⟨rfl, ha⟩
  obtain ⟨hgo, hw⟩ := h.throwing a
  refine Steps.head hgo hw ?_
  rw [stepThread_throwing (frames_entered h.top _), (hone _).1]
  obtain ⟨g₀, hg⟩ := Option.isSome_iff_exists.mp h.top
  obtain ⟨r, hr⟩ := State.topJava?_eq_some.mp hg
  have hr' : (s.setVm vm').frames = .java g₀ :: r := hr
  rw [State.setTop_of_frames _ hr'] at hrest
  rw [hr, List.tail_cons, State.pushFrame, State.setTop_of_frames _ hr]
  have hmove : ∀ (u : State) (F G : List Frame), ((u.setFrames F).setVm vm').setFrames G = (u.setVm vm').setFrames G := fun u F G => by
    have h1 : (u.setFrames F).setVm vm' = (u.setVm vm').setFrames F := rfl
    rw [h1, State.setFrames_setFrames]
  rw [hmove, hmove]
  exact hrest
theorem zf_self (vm : Vm) (c : ClassId) : vm.assignable c c = true := by
  show vm.assignableAux (255 + 1) c c = true
  rw [Vm.assignableAux]
  simp
variable {p : Program} {l : Launch} {e : Env} {R : Room} {s : State} {m : MethodId} {args : Array Value} {below : List Frame} {meth : Method} {c : Code} {T : State} {locs : List Loc} {cells slots : Nat}
theorem zf_link (X : Stand p l e R s m args below meth c T locs cells slots) {own n : String} (hown : s.vm.findClass own = some m.cls) {i : Nat} (hlink : (Cond.classLink own i n).before args s = true) :
    ∃ cT, s.vm.findClass n = some cT ∧ ∀ vm, s.WarmedH vm → vm.ClassLinks e.platform m.cls i cT ∧ s.WarmedH (vm.noted m.cls i (.cls cT)) ∧ ∃ k, vm.classes[cT]? = some k := by
  have hpl : e.platform.magicAccessors = ({} : Platform).magicAccessors := by rw [X.admits.platform]
  obtain ⟨cT, hcT, hl⟩ := Cond.classLink_spec hown hlink e.platform hpl
  obtain ⟨dk, _, _, kt, hd, _, _, _, _, hkt, _, hopen⟩ := hl.here
  refine ⟨cT, hcT, fun vm hW => ⟨hW.classLinks hl, hW.noted hd hopen (State.rightAt_cls hl), ?_⟩⟩
  obtain ⟨k', hk', -⟩ := hW.alike.2.2 _ _ hkt
  exact ⟨k', hk'⟩
theorem zf_first (X : Stand p l e R s m args below meth c T locs cells slots) {own n : String} (hown : s.vm.findClass own = some m.cls) {g : JFrame} (hg : g.method = m) {a : Addr} {cell : Cell} (hcell : T.heap[a]? = some cell) (hv : cell.vm = .none) (hcls : T.vm.findClass n = some cell.cls)
    {x : ExceptionTableEntry} {tl : List ExceptionTableEntry} (htab : c.exceptionTable.toList = x :: tl) (hx : covers x g.pc = true) (h0 : x.catchType ≠ 0) (hlink : (Cond.classLink own x.catchType n).before args s = true) :
    ∃ vm', s.WarmedH vm' ∧ ∀ target, Steps p.tables e below ((T.setVm vm').setTop { g with pc := x.handlerPc, stack := [.ref a] }) target → Steps p.tables e below ((T.setTop g).pushFrame (.throwing a)) target := by
  subst hg
  obtain ⟨cT, hcT, hlk⟩ := zf_link X hown hlink
  obtain ⟨h1, h2, h3⟩ := hlk T.vm X.warmed
  have hce : cT = cell.cls := by
    rw [X.warmed.alike.findClass, hcT] at hcls
    exact Option.some.inj hcls
  refine ⟨_, h2, fun target hrest => zf_step (vm' := T.vm.noted g.method.cls x.catchType (.cls cT)) X.here (fun Q E d acts => ?_) hrest⟩
  rw [W.findHandler_eq (s := (T.setTop g).pushFrame (.throwing a)) (meth := meth) (code := c) X.method' X.code, htab, zf_row (s := (T.setTop g).pushFrame (.throwing a)) (c := cT) (cell := cell) hx h0 h1 hcell hv (Vm.classAt_of_findClass hcls) h3, if_pos (by rw [hce]; exact zf_self _ _)]
  rfl
theorem zf_second (X : Stand p l e R s m args below meth c T locs cells slots) {own n1 n : String} (hown : s.vm.findClass own = some m.cls) {g : JFrame} (hg : g.method = m) {a : Addr} {cell : Cell} (hcell : T.heap[a]? = some cell) (hv : cell.vm = .none) (hcls : T.vm.findClass n = some cell.cls)
    {x1 x : ExceptionTableEntry} {tl : List ExceptionTableEntry} (htab : c.exceptionTable.toList = x1 :: x :: tl) (hx1 : covers x1 g.pc = true) (h01 : x1.catchType ≠ 0) (hlink1 : (Cond.classLink own x1.catchType n1).before args s = true) (hx : covers x g.pc = true) (h0 : x.catchType ≠ 0) (hlink : (Cond.classLink own x.catchType n).before args s = true)
    (hno : ∀ c1 c2, s.vm.findClass n = some c1 → s.vm.findClass n1 = some c2 → s.vm.assignable c1 c2 = false) :
    ∃ vm', s.WarmedH vm' ∧ ∀ target, Steps p.tables e below ((T.setVm vm').setTop { g with pc := x.handlerPc, stack := [.ref a] }) target → Steps p.tables e below ((T.setTop g).pushFrame (.throwing a)) target := by
  subst hg
  obtain ⟨cA, hcA, hlkA⟩ := zf_link X hown hlink1
  obtain ⟨cT, hcT, hlk⟩ := zf_link X hown hlink
  obtain ⟨h1, h2, h3⟩ := hlkA T.vm X.warmed
  obtain ⟨g1, g2, g3⟩ := hlk _ h2
  have hcls0 : s.vm.findClass n = some cell.cls := by rw [← X.warmed.alike.findClass]; exact hcls
  have hce : cT = cell.cls := Option.some.inj (hcT.symm.trans hcls0)
  have hnA : T.vm.assignable cell.cls cA = false := by rw [X.warmed.alike.assignable]; exact hno _ _ hcls0 hcA
  refine ⟨_, g2, fun target hrest => zf_step (vm' := (T.vm.noted g.method.cls x1.catchType (.cls cA)).noted g.method.cls x.catchType (.cls cT)) X.here (fun Q E d acts => ?_) hrest⟩
  have hk2 : ∃ k, (T.vm.noted g.method.cls x1.catchType (.cls cA)).classes[cell.cls]? = some k := Vm.classAt_of_findClass (name := n) (by rw [h2.alike.findClass]; exact hcls0)
  rw [W.findHandler_eq (s := (T.setTop g).pushFrame (.throwing a)) (meth := meth) (code := c) X.method' X.code, htab, zf_row (s := (T.setTop g).pushFrame (.throwing a)) (c := cA) (cell := cell) hx1 h01 h1 hcell hv (Vm.classAt_of_findClass hcls) h3, if_neg (by rw [show (((T.setTop g).pushFrame (.throwing a)).vm).assignable cell.cls cA = false from hnA]; decide),
    zf_row (s := ((T.setTop g).pushFrame (.throwing a)).setVm (((T.setTop g).pushFrame (.throwing a)).vm.noted g.method.cls x1.catchType (.cls cA))) (c := cT) (cell := cell) hx h0 g1 hcell hv hk2 g3, if_pos (by rw [hce]; exact zf_self _ _)]
  rfl
theorem zf_tab1 {ts : List ExceptionTableEntry} {a1 b1 h1 k1 : Nat} (h : ts.map (fun h => (h.startPc, h.endPc, h.handlerPc, h.catchType)) = [(a1, b1, h1, k1)]) : ∃ x, ts = [x] ∧ x.startPc = a1 ∧ x.endPc = b1 ∧ x.handlerPc = h1 ∧ x.catchType = k1 := by
  match ts, h with
  | [x], h =>
    simp at h
    exact ⟨x, rfl, h⟩
  | x :: y :: z, h => simp at h
theorem zf_tab2 {ts : List ExceptionTableEntry} {a1 b1 h1 k1 a2 b2 h2 k2 : Nat} (h : ts.map (fun h => (h.startPc, h.endPc, h.handlerPc, h.catchType)) = [(a1, b1, h1, k1), (a2, b2, h2, k2)]) : ∃ x y, ts = [x, y] ∧ (x.startPc = a1 ∧ x.endPc = b1 ∧ x.handlerPc = h1 ∧ x.catchType = k1) ∧ (y.startPc = a2 ∧ y.endPc = b2 ∧ y.handlerPc = h2 ∧ y.catchType = k2) := by
  match ts, h with
  | [x, y], h =>
    simp at h
    exact ⟨x, y, rfl, ⟨h.1.1, h.1.2.1, h.1.2.2.1, h.1.2.2.2⟩, ⟨h.2.1, h.2.2.1, h.2.2.2.1, h.2.2.2.2⟩⟩
  | [x], h => simp at h
  | x :: y :: z :: w, h => simp at h
end ZG40
