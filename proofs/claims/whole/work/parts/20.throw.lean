def FET (st : State) (o : Outcome) (t : State) (L : List Loc) (k n : Nat) : Prop := ((∃ v, o = .returned v) ∨ ∃ x, o = .threw x) ∧ st.WarmedH t.vm ∧ st.sameButNew { t with vm := st.vm } L k n
def MetT (l : Launch) (y : MethodName) (ws : List Cond) (rm : Room) (Pc : Array Value → State → Prop) (Qc : Array Value → State → Outcome → State → Prop) (mc ms : Nat) (free : Addr → Prop) : Prop :=
  MetFree l y (headSpec ws rm) Pc (fun _ _ _ _ _ => True) (fun a st o t => Qc a st o t ∧ ∃ L, FET st o t L mc ms ∧ ∀ q ∈ L, free q.base)
def MQT (below : List Frame) (Qc : Array Value → State → Outcome → State → Prop) (a : Array Value) (s : State) (mc ms : Nat) (free : Addr → Prop) : State → Prop := fun t =>
  ∃ o, t.status = .running ∧ Ended t below o ∧ Qc a s o t ∧ ∃ L, FET s o t L mc ms ∧ ∀ q ∈ L, free q.base
theorem MQT.of {below : List Frame} {Qc : Array Value → State → Outcome → State → Prop} {a : Array Value} {s : State} {mc ms : Nat} {free : Addr → Prop} {t : State} (h : MQ below Qc a s mc ms free t) : MQT below Qc a s mc ms free t := by
  obtain ⟨o, h1, h2, h3, L, h4, h5⟩ := h
  exact ⟨o, h1, h2, h3, L, ⟨Or.inl h4.1, h4.2⟩, h5⟩
section ZT
variable {p : Program} {l : Launch} {e : Env} {R : Room} {s : State} {m : MethodId} {args : Array Value} {below : List Frame} {meth : Method} {c : Code} {H : Heap} {locs : List Loc} {cells slots : Nat} {Q : State → Prop} {T : State}
theorem W.mono {Q' : State → Prop} {g : JFrame} (h : ∀ t, Q t → Q' t) (k : W p l e R s m args below meth c H locs cells slots Q g) : W p l e R s m args below meth c H locs cells slots Q' g := by
  intro T hT X
  obtain ⟨t, a, b⟩ := k T hT X
  exact ⟨t, a, h t b⟩
theorem MetT.ofW {y : MethodName} {ws ws' : List Cond} {rm : Room} {Pc : Array Value → State → Prop} {Qc : Array Value → State → Outcome → State → Prop} {mc ms : Nat} {free : Addr → Prop} {cc : ByteArray} {maxL : Nat} {ret : Option FieldType}
    (hy : plainName y.cls = true) (hw : ws = Cond.code y cc maxL ret :: ws')
    (body : ∀ p e s m args below meth c s₁, BodyLoose p l y (headSpec ws rm) cc maxL ret e s m args below meth c s₁ → c.maxLocals = maxL → c.exceptionTable.isEmpty = true → Pc args s →
      W p l e (headSpec ws rm).room s m args below meth c s.heap [] 0 0 (MQT below Qc args s mc ms free) (entryFrame m args maxL)) : MetT l y ws rm Pc Qc mc ms free := by
  refine MetFree.of_bodyS (code := cc) (maxLocals := maxL) (ret := ret) hy ?_ ?_
  · intro args s m h hn
    obtain ⟨meth, c, h1, h2, h3, h4, h5, h6, -, -⟩ := Cond.code_spec hn (atoms_spec (ws := ws) h _ (by rw [hw]; exact List.mem_cons_self))
    exact ⟨meth, c, h1, h2, h3, h4, h5, h6⟩
  · intro p e s m args below meth c s₁ B hml hP _
    have hh0 : s₁.heap = s.heap := by rw [B.state]; rfl
    have hne : c.exceptionTable.isEmpty = true := B.noHandlers (atoms_spec (ws := ws) B.pre _ (by rw [hw]; exact List.mem_cons_self))
    obtain ⟨t, a1, o, b1, b2, b3⟩ := body p e s m args below meth c s₁ B hml hne hP s₁ hh0 (Stand.of_body B)
    exact ⟨t, o, a1, b1, b2, ⟨b3.1, b3.2⟩⟩
theorem zt_rebase (X : Stand p l e R s m args below meth c T locs cells slots) (h1 : cells ≤ R.cells) (h2 : slots ≤ R.slots) : Stand p l e { frames := R.frames, locals := R.locals, cells := R.cells - cells, slots := R.slots - slots } (T.setFrames (.invoking m args :: below)) m args below meth c T [] 0 0 := by
  obtain ⟨g₀, hfr⟩ := X.frames_eq
  have hcur := State.cur_lt_of_frames hfr
  have hF : (T.setFrames (.invoking m args :: below)).frames = .invoking m args :: below := State.frames_setFrames _ hcur
  refine ⟨X.admits, X.cas, X.clock, hF, ?_, ?_, X.method', X.code, X.here, X.tail, State.WarmedH.refl _, by rw [State.stackLimits_setFrames], by rw [State.stackBytes_setFrames], ?_⟩
  · have hr := X.room
    have hz := X.heapSize
    have hu := X.used
    have hbk := X.book
    have hlim := X.limits
    have hby := X.bytes
    have e1 := State.localsInUse_invoking X.frames X.method X.code
    have e2 := State.localsInUse_invoking hF X.method' X.code
    simp only [State.hasRoom, Bool.and_eq_true, decide_eq_true_eq] at hr ⊢
    rw [e1, X.frames] at hr
    rw [e2, hF, State.stackLimits_setFrames, State.stackBytes_setFrames, hlim, hby]
    obtain ⟨⟨⟨⟨r1, r2⟩, r3⟩, r4⟩, r5⟩ := hr
    refine ⟨⟨⟨⟨r1, r2⟩, ?_⟩, ?_⟩, hbk⟩
    · show T.heap.size + (R.cells - cells) ≤ _
      omega
    · show T.slotsUsed + (R.slots - slots) ≤ _
      omega
  · have hh := X.hears
    have hal := X.warmed.alike
    cases below with
    | nil =>
      show ((T.vm.method? m).any _) = true
      rw [X.method']
      have : ((s.vm.method? m).any (·.sig.returnType.isNone)) = true := hh
      rw [X.method] at this
      exact this
    | cons f r =>
      cases f with
      | java g =>
        show (((T.setFrames _).code? g.method).bind fun c => (decode c.code g.pc).toOption).isSome = true
        have h3 : ((s.code? g.method).bind fun c => (decode c.code g.pc).toOption).isSome = true := hh
        rw [State.code?_eq] at h3 ⊢
        show (((T.vm.method? g.method).bind _).bind _).isSome = true
        rw [hal.method?]
        exact h3
      | native _ => rfl
      | proc _ => rfl
      | _ =>
        show ((T.vm.method? m).any _) = true
        rw [X.method']
        have : ((s.vm.method? m).any (·.sig.returnType.isNone)) = true := hh
        rw [X.method] at this
        exact this
  · refine ⟨?_, Nat.le_refl _, Nat.le_refl _, ?_, ?_, ?_⟩
    · show T.setVm T.vm = _
      obtain ⟨t, ht, -⟩ := State.frames_cons hfr
      show T = { (T.setFrames (.invoking m args :: below)).setFrames T.frames with heap := T.heap, slotsUsed := T.slotsUsed }
      rw [State.setFrames_setFrames, State.setFrames_self ht]
    · show T.slotsUsed = T.slotsUsed + ((T.heap.toList.drop T.heap.size).map (·.slots.size)).sum
      rw [List.drop_eq_nil_of_le (by simp)]
      rfl
    · show ((T.heap.toList.drop T.heap.size).map (·.slots.size)).sum ≤ 0
      rw [List.drop_eq_nil_of_le (by simp)]
      exact Nat.le_refl _
    · intro a cc hc
      exact ⟨cc, hc, rfl, rfl, fun _ _ => rfl⟩
theorem zt_same {u U : State} {n k : Nat} (h : u.sameButNew U [] n k) {a : Nat} (ha : a < u.heap.size) : U.heap[a]? = u.heap[a]? := by
  obtain ⟨-, -, -, -, -, h6⟩ := h
  have hc : u.heap[a]? = some u.heap[a] := Array.getElem?_eq_getElem ha
  obtain ⟨c', h1, h2, h3, h4⟩ := h6 a _ hc
  rw [h1, hc, h2]
  congr 1
  have e : c'.slots = (u.heap[a]).slots := Array.ext_getElem? (fun i => h4 i (by simp))
  rw [e]
theorem zt_dup {pc : Nat} {ls : Array Slot} {rest : List Value} {a : Nat} (X : Stand p l e R s m args below meth c T locs cells slots) (hexec : p.tables.exec = Jvm.exec) (d3 : decode c.code pc = .ok (.dup, 1)) (tg : State) (h : Steps p.tables e below (T.setTop (F0 m (pc + 1) ls (.ref a :: .ref a :: rest))) tg) : Steps p.tables e below (T.setTop (F0 m pc ls (.ref a :: rest))) tg := by
  jvm_step X.here [X.here.top, hexec, d3, Value.category]
  exact h
theorem zt_throw {cc : ByteArray} {pc : Nat} {ls : Array Slot} {rest : List Value} {Qc : Array Value → State → Outcome → State → Prop} {free : Addr → Prop} (hexec : p.tables.exec = Jvm.exec) (hb : c.code = cc) (hne : c.exceptionTable.isEmpty = true) (hlocks : meth.locks = false) (hfl : l.flags = flags0) {own cls text : String} {i0 i1 i2 q : Nat} (hfit : Bundle.fit cls = true)
    (hw : ∀ U : State, U.heap = H → s.WarmedH U.vm → U.vm.findClass own = some m.cls ∧ (Cond.classLink own i0 cls).before args U = true ∧ (Cond.instantiable cls 6).before args U = true ∧ (Cond.initialized cls).before args U = true ∧ vk_R own i1 text q U ∧ ∀ a ∈ Bundle.ownAtoms own i2 cls ["java/lang/RuntimeException", "java/lang/Exception"], a.before args U = true)
    (d0 : decode cc pc = .ok (.new i0, 3)) (d3 : decode cc (pc + 3) = .ok (.dup, 1)) (d4 : decode cc (pc + 4) = .ok (.ldc i1, 2)) (d6 : decode cc (pc + 6) = .ok (.invokespecial i2, 3)) (d9 : decode cc (pc + 9) = .ok (.athrow, 1)) (hsize : ls.size = c.maxLocals)
    (hRf : 5 < R.frames) (hRl : (rest.map fun v => v.category).sum + 82 ≤ R.locals) (hc : cells + 1 ≤ R.cells) (hs : slots + 6 ≤ R.slots)
    (hq : ∀ (t : State) (ce : Cell), H.size ≤ t.heap.size → (∀ a, a < H.size → t.heap[a]? = H[a]?) → t.heap[H.size]? = some ce → s.vm.findClass cls = some ce.cls → ce.vm = .none → s.WarmedH t.vm → Qc args s (.threw H.size) t)
    (hf : ∀ q ∈ locs, free q.base) : W p l e R s m args below meth c H locs cells slots (MQT below Qc args s (cells + 1) (slots + 6) free) (F0 m pc ls rest) := by
  intro T hT X
  subst hT; subst hb
  have X0 := zt_rebase X (by omega) (by omega)
  obtain ⟨o1, o2, o3, o4, o5, o6⟩ := hw (T.setFrames (.invoking m args :: below)) rfl X.warmed
  obtain ⟨vm', cC, kC, h1, h2, h3, h4, X1, st1⟩ := X0.newCold hexec o1 o2 o3 o4 (g := F0 m pc ls rest) rfl d0 (by show 0 + 1 ≤ R.cells - cells; omega) (by show 0 + 6 ≤ R.slots - slots; omega)
  have hcell : ((T.setVm vm').pushCell { cls := cC, slots := kC.instanceTypes.map defaultValue, vm := .none }).heap[T.heap.size]? = some (freshCell cC kC) := State.heap_pushCell_size _ _
  obtain ⟨U, hst, hrun, hend, hW, hsame, ce, hce, hO⟩ := X1.ctorThrowS hexec (Launch.traces_off hfl X.admits) (own := own) (cls := cls) (names := ["java/lang/RuntimeException", "java/lang/Exception"]) (ic := i2) o1 hfit (by decide) o6 (by intro x hx; cases hx)
    h1 h2 hcell (Nat.le_refl _) (msg := .ref q) rfl (g := F0 m (pc + 6) ls (.ref q :: .ref T.heap.size :: .ref T.heap.size :: rest)) rfl hsize rfl rfl rfl d6 d9 (by intro x hx; rw [Array.isEmpty_iff] at hne; rw [hne] at hx; cases hx)
    (by show 2 + 3 < R.frames; omega) (by show 2 * 0 + (1 + (rest.map fun v => v.category).sum) + (13 * (2 + 1) + 42) ≤ R.locals; omega) hlocks
  have hsteps : Steps p.tables e below (T.setTop (F0 m pc ls rest)) U := by
    refine st1 _ ?_
    refine zt_dup X1 hexec d3 _ ?_
    exact X1.ldcString hexec o1 o5.1 o5.2 (g := F0 m (pc + 4) ls (.ref T.heap.size :: .ref T.heap.size :: rest)) rfl d4 _ hst
  have hW' : T.WarmedH U.vm := hW
  have hs2 : T.sameButNew ({ U with vm := T.vm } : State) [] 1 6 := by
    obtain ⟨q1, q2, q3, q4, q5, q6⟩ := hsame
    refine ⟨?_, q2, by simpa using q3, q4, by simpa using q5, q6⟩
    have e1 : ({ U with vm := T.vm } : State) = { (T.setFrames (.invoking m args :: below)).setFrames U.frames with heap := U.heap, slotsUsed := U.slotsUsed } := q1
    rw [State.setFrames_setFrames] at e1
    exact e1
  have hz : T.heap.size ≤ U.heap.size := hs2.2.1
  refine ⟨U, hsteps, .threw T.heap.size, hrun, hend, hq U ce hz (fun a ha => zt_same hs2 ha) hce ?_ hO.vm (State.WarmedH.trans X.warmed hW'), locs, ⟨Or.inr ⟨_, rfl⟩, State.WarmedH.trans X.warmed hW', ?_⟩, hf⟩
  · have h7 : T.vm.findClass cls = some ce.cls := hO.cls
    rw [X.warmed.alike.findClass] at h7
    exact h7
  · have h8 := X.same.trans (hs2.setVm s.vm)
    rw [List.append_nil] at h8
    exact h8
end ZT
theorem tt_1 : ((Bundle.ownAtoms "LogDesk" 63 "java/lang/IllegalArgumentException" ["java/lang/RuntimeException", "java/lang/Exception"]).filter (fun w => !(decide (w ∈ lw_tbl)))).length = 2 := by decide +kernel
