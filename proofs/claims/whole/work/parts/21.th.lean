def thW : List Cond := [.isRef (.static "java/lang/Throwable" "UNASSIGNED_STACK" "[Ljava/lang/StackTraceElement;"), .isRef (.static "java/lang/Throwable" "SUPPRESSED_SENTINEL" "Ljava/util/List;"), .laysStatic "java/lang/Throwable" "UNASSIGNED_STACK" "[Ljava/lang/StackTraceElement;", .laysStatic "java/lang/Throwable" "SUPPRESSED_SENTINEL" "Ljava/util/List;", .declares ⟨"java/lang/RuntimeException", "<init>", "(Ljava/lang/String;)V"⟩, .declares ⟨"java/lang/Exception", "<init>", "(Ljava/lang/String;)V"⟩, .declares ⟨"java/lang/Throwable", "<init>", "(Ljava/lang/String;)V"⟩, .castable "java/lang/IllegalArgumentException" "java/lang/IllegalArgumentException", .castable "java/lang/IllegalStateException" "java/lang/IllegalStateException", .castable "java/lang/UnsupportedOperationException" "java/lang/UnsupportedOperationException", .castable "java/util/NoSuchElementException" "java/util/NoSuchElementException", .stringRef "LogDesk" 61 "the kind is not 1 .. 14", .stringRef "LogDesk" 75 "the log is full", .stringRef "LogDesk" 96 "there is no such session", .stringRef "LogDesk" 101 "the session waits", .stringRef "LogDesk" 105 "the place is not in the log", .stringRef "LogDesk" 122 "the power went", .stringRef "LogDesk" 145 "the log can't begin there", .stringRef "LogDesk" 158 "there is no other record", .stringRef "LogDesk" 165 "the charge is not 0 .. 999", .not (.castable "java/lang/IllegalStateException" "java/lang/IllegalArgumentException"), .not (.castable "java/lang/UnsupportedOperationException" "java/lang/IllegalArgumentException")]
def TH (ws : va_W) (U : State) : Prop := ∃ s0 : State, s0.WarmedH U.vm ∧ s0.heap.size ≤ U.heap.size ∧ (∀ a : Nat, a < s0.heap.size → U.heap[a]? = s0.heap[a]?) ∧ (∀ (k : Nat) (q : Nat × va_E), ws[k]? = some q → s0.heap.size ≤ q.1) ∧ ∀ w ∈ thW, w.before #[] s0 = true
theorem th_lays {s0 U : State} {O f d : String} {a a' : Array Value} (hW : s0.WarmedH U.vm) (hh : ∀ a : Nat, a < s0.heap.size → U.heap[a]? = s0.heap[a]?) (h : (Cond.laysStatic O f d).before a s0 = true) : (Cond.laysStatic O f d).before a' U = true := by
  obtain ⟨c, k, i, fd, ad, cell, hc, hi, hst, ha, hcell, hs, hcls, hlt, hty⟩ := Cond.laysStatic_spec h
  obtain ⟨k', hi', hek⟩ := State.fieldFound?_setVm hW.alike hi
  have hlt2 : ad < s0.heap.size := (Array.getElem?_eq_some_iff.mp hcell).1
  exact Cond.laysStatic_of (s := U) (by rw [hW.alike.findClass]; exact hc) hi' hst (by rw [hek]; exact ha) (by rw [hh _ hlt2]; exact hcell) hs hcls hlt (by rw [hek]; exact hty)
theorem th_isref {s0 U : State} {O f d : String} {a a' : Array Value} (hW : s0.WarmedH U.vm) (hh : ∀ a : Nat, a < s0.heap.size → U.heap[a]? = s0.heap[a]?) (h : (Cond.laysStatic O f d).before a s0 = true) (h2 : (Cond.isRef (.static O f d)).before a s0 = true) : (Cond.isRef (.static O f d)).before a' U = true := by
  obtain ⟨c, k, i, fd, ad, cell, hc, hi, hst, ha, hcell, hs, hcls, hlt, hty⟩ := Cond.laysStatic_spec h
  obtain ⟨k', hi', hek⟩ := State.fieldFound?_setVm hW.alike hi
  have hi2 : U.fieldFound? O f d = some (c, k', i, fd) := hi'
  have hlt2 : ad < s0.heap.size := (Array.getElem?_eq_some_iff.mp hcell).1
  have hcU : U.heap[ad]? = some cell := by rw [hh _ hlt2]; exact hcell
  have haU : k'.statics = some ad := by rw [hek]; exact ha
  have e1 : (Term.static O f d).eval a s0 none [] s0 = cell.slots[fd.slot]? := by simp [Term.eval, State.fieldNamed?, hi, hst, ha, hcell, hs]
  have e2 : (Term.static O f d).eval a' U none [] U = cell.slots[fd.slot]? := by simp [Term.eval, State.fieldNamed?, hi2, hst, haU, hcU, hs]
  simp only [Cond.before, Cond.holds, Cond.value, e1] at h2
  simp only [Cond.before, Cond.holds, Cond.value, e2]
  exact h2
theorem th_cast {s0 U : State} {C D : String} {a a' : Array Value} (hW : s0.WarmedH U.vm) (h : (Cond.castable C D).before a s0 = true) : (Cond.castable C D).before a' U = true := by
  exact va_Nw.use rfl (va_Nw.warmC hW (va_Nw.of rfl h))
theorem th_decl {s0 U : State} {x : MethodName} {a a' : Array Value} (hW : s0.WarmedH U.vm) (h : (Cond.declares x).before a s0 = true) : (Cond.declares x).before a' U = true := va_Nw.use rfl (va_Nw.warmD hW (va_Nw.of rfl h))
theorem th_at {s0 U : State} (hW : s0.WarmedH U.vm) (hh : ∀ a : Nat, a < s0.heap.size → U.heap[a]? = s0.heap[a]?) (h : ∀ w ∈ thW, w.before #[] s0 = true) (a' : Array Value) : ∀ w ∈ thW.take 11, w.before a' U = true := by
  have h1 := h (.laysStatic "java/lang/Throwable" "UNASSIGNED_STACK" "[Ljava/lang/StackTraceElement;") (by simp [thW])
  have h2 := h (.laysStatic "java/lang/Throwable" "SUPPRESSED_SENTINEL" "Ljava/util/List;") (by simp [thW])
  have h3 := h (.isRef (.static "java/lang/Throwable" "UNASSIGNED_STACK" "[Ljava/lang/StackTraceElement;")) (by simp [thW])
  have h4 := h (.isRef (.static "java/lang/Throwable" "SUPPRESSED_SENTINEL" "Ljava/util/List;")) (by simp [thW])
  intro w hw
  have hw0 := h w (List.mem_of_mem_take hw)
  simp only [thW, List.take_succ_cons, List.take_zero, List.mem_cons, List.not_mem_nil, or_false] at hw
  rcases hw with rfl | rfl | rfl | rfl | rfl | rfl | rfl | rfl | rfl | rfl | rfl
  · exact th_isref hW hh h1 h3
  · exact th_isref hW hh h2 h4
  · exact th_lays hW hh h1
  · exact th_lays hW hh h2
  · exact th_decl hW hw0
  · exact th_decl hW hw0
  · exact th_decl hW hw0
  all_goals exact th_cast hW hw0
theorem th_str {s0 U : State} {own tx : String} {k : Nat} (hW : s0.WarmedH U.vm) (h : (Cond.stringRef own k tx).before #[] s0 = true) (hc : ∃ c, s0.vm.findClass own = some c) : ∃ q, vk_R own k tx q s0 := by
  obtain ⟨cur, hcur⟩ := hc
  obtain ⟨k', cf, i, a', hk, hcf, hcp, -, hr, hev'⟩ := Cond.stringRef_spec hcur h
  exact ⟨a', h, hev'⟩
section ZTH
variable {p : Program} {l : Launch} {e : Env} {R : Room} {s : State} {m : MethodId} {args : Array Value} {below : List Frame} {meth : Method} {c : Code} {H : Heap} {locs : List Loc} {A : Nat → Prop} {ws : va_W}
theorem th_hw (hown : s.vm.findClass "LogDesk" = some m.cls) (htg : ∀ w ∈ gw, w.before args s = true) (hT : TH ws s) (hAe : va_A ws s.heap.size = A) (hS : va_S A s.heap H locs) {cls text : String} {i0 i1 i2 : Nat} (k0 : Cond.classLink "LogDesk" i0 cls ∈ gw) (k1 : Cond.instantiable cls 6 ∈ gw) (k2 : Cond.initialized cls ∈ gw) (k3 : Cond.stringRef "LogDesk" i1 text ∈ thW) (k4 : ∀ a ∈ Bundle.ownAtoms "LogDesk" i2 cls ["java/lang/RuntimeException", "java/lang/Exception"], a ∈ gw ∨ a ∈ thW.take 11) :
    ∃ q, ∀ U : State, U.heap = H → s.WarmedH U.vm → U.vm.findClass "LogDesk" = some m.cls ∧ (Cond.classLink "LogDesk" i0 cls).before args U = true ∧ (Cond.instantiable cls 6).before args U = true ∧ (Cond.initialized cls).before args U = true ∧ vk_R "LogDesk" i1 text q U ∧ ∀ a ∈ Bundle.ownAtoms "LogDesk" i2 cls ["java/lang/RuntimeException", "java/lang/Exception"], a.before args U = true := by
  obtain ⟨s0, h1, h2, h3, h4, h5⟩ := hT
  obtain ⟨q, hq⟩ := th_str h1 (h5 _ k3) ⟨m.cls, by rw [← h1.alike.findClass]; exact hown⟩
  refine ⟨q, fun U hU hW => ?_⟩
  have hW0 : s0.WarmedH U.vm := State.WarmedH.trans h1 hW
  have hh : ∀ a : Nat, a < s0.heap.size → U.heap[a]? = s0.heap[a]? := by
    intro a ha
    rw [hU, hS.2.1 a (by omega), h3 a ha]
    rw [← hAe]
    rintro (⟨k, e, hk⟩ | hk)
    · have := h4 k _ hk
      omega
    · omega
  have pay := pay_in (ws := gw) htg (fun w hw => ⟨hw, gw_good hw⟩)
  refine ⟨by rw [hW.alike.findClass]; exact hown, pay _ k0 _ _ hW, pay _ k1 _ _ hW, pay _ k2 _ _ hW, hq.warm hW0, fun a ha => ?_⟩
  rcases k4 a ha with h | h
  · exact pay _ h _ _ hW
  · exact th_at hW0 hh h5 args a h
end ZTH
