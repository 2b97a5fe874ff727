section ZTN
variable {p : Program} {l : Launch} {e : Env} {R : Room} {s : State} {m : MethodId} {args : Array Value} {below : List Frame} {meth : Method} {c : Code} {H : Heap} {locs : List Loc} {cells slots : Nat} {Q : State → Prop} {T : State}
theorem zt_throwN {cc : ByteArray} {pc : Nat} {ls : Array Slot} {rest : List Value} {Qc : Array Value → State → Outcome → State → Prop} {free : Addr → Prop} (hexec : p.tables.exec = Jvm.exec) (hb : c.code = cc) (hne : c.exceptionTable.isEmpty = true) (hlocks : meth.locks = false) (hfl : l.flags = flags0) {own cls text : String} {i0 i1 i2 q ix : Nat} {rx : ByteArray} (x0 : decode rx 0 = .ok (.aload_n 0, 1)) (x1 : decode rx 1 = .ok (.aload_n 1, 1)) (x2 : decode rx 2 = .ok (.invokespecial ix, 3)) (x5 : decode rx 5 = .ok (.return_, 1)) (hfit : Bundle.fit cls = true)
    (hw : ∀ U : State, U.heap = H → s.WarmedH U.vm → U.vm.findClass own = some m.cls ∧ (Cond.classLink own i0 cls).before args U = true ∧ (Cond.instantiable cls 6).before args U = true ∧ (Cond.initialized cls).before args U = true ∧ vk_R own i1 text q U ∧ ∀ a ∈ nAtoms own i2 cls ix rx, a.before args U = true)
    (d0 : decode cc pc = .ok (.new i0, 3)) (d3 : decode cc (pc + 3) = .ok (.dup, 1)) (d4 : decode cc (pc + 4) = .ok (.ldc i1, 2)) (d6 : decode cc (pc + 6) = .ok (.invokespecial i2, 3)) (d9 : decode cc (pc + 9) = .ok (.athrow, 1)) (hsize : ls.size = c.maxLocals)
    (hRf : 5 < R.frames) (hRl : (rest.map fun v => v.category).sum + 82 ≤ R.locals) (hc : cells + 1 ≤ R.cells) (hs : slots + 6 ≤ R.slots)
    (hq : ∀ (t : State) (ce : Cell), H.size ≤ t.heap.size → (∀ a, a < H.size → t.heap[a]? = H[a]?) → t.heap[H.size]? = some ce → s.vm.findClass cls = some ce.cls → ce.vm = .none → s.WarmedH t.vm → Qc args s (.threw H.size) t)
    (hf : ∀ q ∈ locs, free q.base) : W p l e R s m args below meth c H locs cells slots (MQT below Qc args s (cells + 1) (slots + 6) free) (F0 m pc ls rest) := by
  intro T hT X
  subst hT; subst hb
  have X0 := zt_rebase X (by omega) (by omega)
  obtain ⟨o1, o2, o3, o4, o5, o6⟩ := hw (T.setFrames (.invoking m args :: below)) rfl X.warmed
  obtain ⟨vm', cC, kC, h1, h2, h3, h4, X1, st1⟩ := X0.newCold hexec o1 o2 o3 o4 (g := F0 m pc ls rest) rfl d0 (by show 0 + 1 ≤ R.cells - cells; omega) (by show 0 + 6 ≤ R.slots - slots; omega)
  have hcell : ((T.setVm vm').pushCell { cls := cC, slots := kC.instanceTypes.map defaultValue, vm := .none }).heap[T.heap.size]? = some (freshCell cC kC) := State.heap_pushCell_size _ _
  obtain ⟨U, hst, hrun, hend, hW, hsame, ce, hce, hOc, hOv⟩ := zt_ctorN X1 hexec (Launch.traces_off hfl X.admits) x0 x1 x2 x5 o1 hfit o6
    h1 h2 hcell (Nat.le_refl _) (msg := .ref q) rfl (g := F0 m (pc + 6) ls (.ref q :: .ref T.heap.size :: .ref T.heap.size :: rest)) rfl hsize rfl rfl rfl d6 d9 (by intro x hx; rw [Array.isEmpty_iff] at hne; rw [hne] at hx; cases hx)
    (by show 5 < R.frames; omega) (by show 2 * 0 + (1 + (rest.map fun v => v.category).sum) + 81 ≤ R.locals; omega) hlocks
  have hsteps : Steps p.tables e below (T.setTop (F0 m pc ls rest)) U := by
    refine st1 _ ?_
    refine zt_dup X1 hexec d3 _ ?_
    exact X1.ldcString hexec o1 o5.1 o5.2 (g := F0 m (pc + 4) ls (.ref T.heap.size :: .ref T.heap.size :: rest)) rfl d4 _ hst
  have hW' : T.WarmedH U.vm := hW
  have hs2 : T.sameButNew ({ U with vm := T.vm } : State) [] 1 6 := by
    obtain ⟨q1, q2, q3, q4, q5, q6⟩ := hsame
    refine ⟨?_, q2, by simpa using q3, q4, by simpa using q5, q6⟩
    have e1 : ({ U with vm := T.vm } : State) = { (T.setFrames (.invoking m args :: below)).setFrames U.frames with heap := U.heap, slotsUsed := U.slotsUsed } := q1
    rw [State.setFrames_setFrames] at e1
    exact e1
  have hz : T.heap.size ≤ U.heap.size := hs2.2.1
  refine ⟨U, hsteps, .threw T.heap.size, hrun, hend, hq U ce hz (fun a ha => zt_same hs2 ha) hce ?_ hOv (State.WarmedH.trans X.warmed hW'), locs, ⟨Or.inr ⟨_, rfl⟩, State.WarmedH.trans X.warmed hW', ?_⟩, hf⟩
  · have h7 : T.vm.findClass cls = some ce.cls := hOc
    rw [X.warmed.alike.findClass] at h7
    exact h7
  · have h8 := X.same.trans (hs2.setVm s.vm)
    rw [List.append_nil] at h8
    exact h8
end ZTN
section ZTHN
variable {p : Program} {l : Launch} {e : Env} {R : Room} {s : State} {m : MethodId} {args : Array Value} {below : List Frame} {meth : Method} {c : Code} {H : Heap} {locs : List Loc} {A : Nat → Prop} {ws : va_W}
theorem th_hwN (hown : s.vm.findClass "LogDesk" = some m.cls) (htg : ∀ w ∈ gw, w.before args s = true) (hT : TH ws s) (hAe : va_A ws s.heap.size = A) (hS : va_S A s.heap H locs) {cls text : String} {i0 i1 i2 ix : Nat} {rx : ByteArray} (k0 : Cond.classLink "LogDesk" i0 cls ∈ gw) (k1 : Cond.instantiable cls 6 ∈ gw) (k2 : Cond.initialized cls ∈ gw) (k3 : Cond.stringRef "LogDesk" i1 text ∈ thW) (k4 : ∀ a ∈ nAtoms "LogDesk" i2 cls ix rx, a ∈ gw ∨ a ∈ thW.take 11) :
    ∃ q, ∀ U : State, U.heap = H → s.WarmedH U.vm → U.vm.findClass "LogDesk" = some m.cls ∧ (Cond.classLink "LogDesk" i0 cls).before args U = true ∧ (Cond.instantiable cls 6).before args U = true ∧ (Cond.initialized cls).before args U = true ∧ vk_R "LogDesk" i1 text q U ∧ ∀ a ∈ nAtoms "LogDesk" i2 cls ix rx, a.before args U = true := by
  obtain ⟨s0, h1, h2, h3, h4, h5⟩ := hT
  obtain ⟨q, hq⟩ := th_str h1 (h5 _ k3) ⟨m.cls, by rw [← h1.alike.findClass]; exact hown⟩
  refine ⟨q, fun U hU hW => ?_⟩
  have hW0 : s0.WarmedH U.vm := State.WarmedH.trans h1 hW
  have hh : ∀ a : Nat, a < s0.heap.size → U.heap[a]? = s0.heap[a]? := by
    intro a ha
    rw [hU, hS.2.1 a (by omega), h3 a ha]
    rw [← hAe]
    rintro (⟨k, e, hk⟩ | hk)
    · have := h4 k _ hk
      omega
    · omega
  have pay := pay_in (ws := gw) htg (fun w hw => ⟨hw, gw_good hw⟩)
  refine ⟨by rw [hW.alike.findClass]; exact hown, pay _ k0 _ _ hW, pay _ k1 _ _ hW, pay _ k2 _ _ hW, hq.warm hW0, fun a ha => ?_⟩
  rcases k4 a ha with h | h
  · exact pay _ h _ _ hW
  · exact th_at hW0 hh h5 args a h
end ZTHN
