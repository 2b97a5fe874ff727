def nzW : List Cond := [.methodLinkNest "LogDesk" 11 y_Ri_init "LogDesk", .methodLinkNest "LogDesk" 18 y_Ha_init "LogDesk", .methodLinkNest "LogDesk" 25 y_Wa_init "LogDesk", .methodLinkNest "LogDesk" 32 y_Pa_init "LogDesk", .methodLinkNest "LogDesk" 39 y_Di_init "LogDesk", .methodLinkNest "LogDesk$Ring" 17 y_De_blockOf "LogDesk", .methodLinkNest "LogDesk$Ring" 25 y_Bl_init "LogDesk"]
def nzF : List Cond := [.fieldLinkNest "LogDesk$Ring" 21 "LogDesk$Block" "cells" "[B" "LogDesk"]
def NZ (U : State) : Prop := (∀ w ∈ nzW, va_Nw w U) ∧ (∀ w ∈ nzF, va_Nw w U) ∧ va_AO "LogDesk$Block" U
theorem NZ.same {u U : State} (h : u.vm = U.vm) (z : NZ u) : NZ U := by
  refine ⟨fun w hw => ?_, fun w hw => ?_, ?_⟩
  · have hz := z.1 w hw
    simp only [nzW, List.mem_cons, List.not_mem_nil, or_false] at hw
    rcases hw with rfl | rfl | rfl | rfl | rfl | rfl | rfl <;> exact va_Nw.same rfl h hz
  · have hz := z.2.1 w hw
    simp only [nzF, List.mem_cons, List.not_mem_nil, or_false] at hw
    subst hw
    exact va_Nw.same rfl h hz
  · exact va_AO.moved (by rw [h]; exact Vm.Alike.refl _) z.2.2
theorem NZ.warm {s U : State} (h : s.WarmedH U.vm) (z : NZ s) : NZ U := by
  refine ⟨fun w hw => ?_, fun w hw => ?_, ?_⟩
  · have hz := z.1 w hw
    simp only [nzW, List.mem_cons, List.not_mem_nil, or_false] at hw
    rcases hw with rfl | rfl | rfl | rfl | rfl | rfl | rfl <;> exact va_Nw.warmM h hz
  · have hz := z.2.1 w hw
    simp only [nzF, List.mem_cons, List.not_mem_nil, or_false] at hw
    subst hw
    exact va_Nw.warmF h hz
  · exact va_AO.moved h.alike z.2.2
def zPc (D : va_G) (tys : List (ClassId × FieldType)) (av : List Value) (ws : va_W) (sz : Nat) : Array Value → State → Prop :=
  va_Pc av (fun U => U.heap.size = sz ∧ va_P D vwCl ws U.heap ∧ va_K D vwCl tys U ∧ va_D (fun _ => True) ws ∧ NZ U)
def zB (D : va_G) (tys : List (ClassId × FieldType)) (A : Nat → Prop) (ws : va_W) (_ : Unit) (t : State) : Prop := va_P D vwCl ws t.heap ∧ va_K D vwCl tys t ∧ va_D A ws
theorem zPc_blind {D : va_G} {tys : List (ClassId × FieldType)} {av : List Value} {ws : va_W} {sz : Nat} : FrameBlind (zPc D tys av ws sz) := fun a U g mk q => by
  obtain ⟨q0, q1, qP, qK, qD, qZ⟩ := q
  exact ⟨q0, q1, qP, va_K.moved (u := U) (U := U.calling g mk a) (Vm.Alike.refl U.vm) qK, qD, NZ.same (u := U) (U := U.calling g mk a) rfl qZ⟩
theorem zSub {ws wc : va_W} {is : List Nat} (h : is.map (fun i => ws[i]?) = wc.map some) : is.filterMap (fun i => ws[i]?) = wc := by
  have h1 : (is.map (fun i => ws[i]?)).filterMap id = (wc.map some).filterMap id := by rw [h]
  simpa [List.filterMap_map] using h1
section ZC
variable {p : Program} {l : Launch} {e : Env} {R : Room} {s : State} {m : MethodId} {args : Array Value} {below : List Frame} {meth : Method} {c : Code} {H : Heap} {locs : List Loc} {cells slots : Nat} {Q : State → Prop}
variable {cc : ByteArray} {pc : Nat} {ls : Array Slot} {rest st0 : List Value} {D : va_G} {A : Nat → Prop} {tys : List (ClassId × FieldType)} {ws wc wr w1 X cx rx pl pl1 : va_W} {H0 : Heap} {mc ms : Nat} {z : Int} {a : Array Value}
theorem zPreS {As : List Value} (hK : va_K D vwCl tys s) (hP : va_P D vwCl ws H) (hD : va_D A ws) (hZ : NZ s) (isC : List Nat) (hC : isC.map (fun i => ws[i]?) = wc.map some) (hn : va_nd isC = true) : PreS s H (zPc D tys As wc H.size) As :=
  ⟨zPc_blind, fun U hU hW => ⟨rfl, by rw [hU], by rw [hU]; exact hP.sub isC (zSub hC), va_K.moved hW.alike hK, (hD.sub isC hn hC).weaken (fun _ _ _ _ => trivial), hZ.warm hW⟩⟩
theorem zPreV {As : List Value} {b ci : Nat} {q : vw_C} {fs : List Value} (hK : va_K D vwCl tys s) (hP : va_P D vwCl ws H) (hD : va_D A ws) (hZ : NZ s) (isC : List Nat) (hC : isC.map (fun i => ws[i]?) = wc.map some) (hn : va_nd isC = true) (q0 : Nat) (hq : vwCl[ci]? = some q) (he : ws[q0]? = some (b, .inr (ci, fs))) : PreV s H q.1 b (zPc D tys (.ref b :: As) wc H.size) As :=
  ⟨zPc_blind, va_recv hK hP hq he, (zPreS (As := .ref b :: As) hK hP hD hZ isC hC hn).2⟩
theorem zPreSP {As : List Value} (hK : va_K D vwCl tys s) (hP : va_P D vwCl (X ++ pl) H) (hD : va_D A (X ++ pl)) (hZ : NZ s) (isC : List Nat) (hC : isC.map (fun i => X[i]?) = cx.map some) (hn : va_nd isC = true) : PreS s H (zPc D tys As (cx ++ pl) H.size) As :=
  ⟨zPc_blind, fun U hU hW => ⟨rfl, by rw [hU], by rw [hU]; exact hP.part isC hC, va_K.moved hW.alike hK, (hD.part isC hn hC).weaken (fun _ _ _ _ => trivial), hZ.warm hW⟩⟩
theorem zPreVP {As : List Value} {b ci : Nat} {q : vw_C} {fs : List Value} (hK : va_K D vwCl tys s) (hP : va_P D vwCl (X ++ pl) H) (hD : va_D A (X ++ pl)) (hZ : NZ s) (isC : List Nat) (hC : isC.map (fun i => X[i]?) = cx.map some) (hn : va_nd isC = true) (q0 : Nat) (hq : vwCl[ci]? = some q) (he : (X ++ pl)[q0]? = some (b, .inr (ci, fs))) : PreV s H q.1 b (zPc D tys (.ref b :: As) (cx ++ pl) H.size) As :=
  ⟨zPc_blind, va_recv hK hP hq he, (zPreSP (As := .ref b :: As) hK hP hD hZ isC hC hn).2⟩
theorem z_i (hr : va_Run p l e R s m args below meth c H locs cells slots mc ms (F0 m pc ls st0) rest (va_Qi (fun (r : Int32) (_ : Unit) => r = iZ z) (zB D tys (va_A wc H.size) w1) (va_A wc H.size) a) (va_A wc H.size)) (hP : va_P D vwCl ws H) (hD : va_D A ws) (hS : va_S A H0 H locs) (hA : ∀ q, H0.size ≤ q → A q) (isC isR : List Nat) (hC : isC.map (fun i => ws[i]?) = wc.map some) (hR : isR.map (fun i => ws[i]?) = wr.map some) (hn : va_nd isR = true) (hdis : ∀ i ∈ isR, i ∉ isC)
    (kk : ∀ (H1 : Heap) (locs1 : List Loc), va_P D vwCl (wr ++ w1) H1 → va_D A (wr ++ w1) → va_S A H0 H1 locs1 → W p l e R s m args below meth c H1 locs1 (cells + mc) (slots + ms) Q (F0 m (pc + 3) ls (.int (iZ z) :: rest))) : W p l e R s m args below meth c H locs cells slots Q (F0 m pc ls st0) := by
  have hFc := va_free (wc := wc) hD hS hA isC hC
  refine va_calli hr hS (fun q _ h => hFc q h) hFc (fun r u t H1 locs1 ht hvm hw hB hz1 hk1 hS1 => ?_)
  obtain ⟨hP1, hK1, hD1⟩ := hB
  rw [ht] at hP1
  obtain ⟨hP2, hD2⟩ := va_join hP hD isC isR hC hR hn hdis hk1 hFc hP1 hD1
  rw [hw]
  exact kk H1 locs1 hP2 hD2 hS1
theorem z_v (hr : va_Run p l e R s m args below meth c H locs cells slots mc ms (F0 m pc ls st0) rest (va_Qv (fun (_ : Unit) => True) (zB D tys (va_A wc H.size) w1) (va_A wc H.size) a) (va_A wc H.size)) (hP : va_P D vwCl ws H) (hD : va_D A ws) (hS : va_S A H0 H locs) (hA : ∀ q, H0.size ≤ q → A q) (isC isR : List Nat) (hC : isC.map (fun i => ws[i]?) = wc.map some) (hR : isR.map (fun i => ws[i]?) = wr.map some) (hn : va_nd isR = true) (hdis : ∀ i ∈ isR, i ∉ isC)
    (kk : ∀ (H1 : Heap) (locs1 : List Loc), va_P D vwCl (wr ++ w1) H1 → va_D A (wr ++ w1) → va_S A H0 H1 locs1 → W p l e R s m args below meth c H1 locs1 (cells + mc) (slots + ms) Q (F0 m (pc + 3) ls rest)) : W p l e R s m args below meth c H locs cells slots Q (F0 m pc ls st0) := by
  have hFc := va_free (wc := wc) hD hS hA isC hC
  refine va_callv hr hS (fun q _ h => hFc q h) hFc (fun u t H1 locs1 ht hvm hw hB hz1 hk1 hS1 => ?_)
  obtain ⟨hP1, hK1, hD1⟩ := hB
  rw [ht] at hP1
  obtain ⟨hP2, hD2⟩ := va_join hP hD isC isR hC hR hn hdis hk1 hFc hP1 hD1
  exact kk H1 locs1 hP2 hD2 hS1
theorem zq_i (hr : va_Run p l e R s m args below meth c H locs cells slots mc ms (F0 m pc ls st0) rest (va_Qi (fun (r : Int32) (_ : Unit) => r = iZ z) (zB D tys (va_A cx H.size) w1) (va_A cx H.size) a) (va_A cx H.size)) (hP : va_P D vwCl (X ++ pl) H) (hD : va_D A (X ++ pl)) (hS : va_S A H0 H locs) (hA : ∀ q, H0.size ≤ q → A q) (isC isR : List Nat) (hC : isC.map (fun i => X[i]?) = cx.map some) (hR : isR.map (fun i => X[i]?) = wr.map some) (hn : va_nd isR = true) (hdis : ∀ i ∈ isR, i ∉ isC) (hC2 : isC.map (fun i => (X ++ pl)[i]?) = cx.map some)
    (kk : ∀ (H1 : Heap) (locs1 : List Loc), va_P D vwCl ((wr ++ w1) ++ pl) H1 → va_D A ((wr ++ w1) ++ pl) → va_S A H0 H1 locs1 → W p l e R s m args below meth c H1 locs1 (cells + mc) (slots + ms) Q (F0 m (pc + 3) ls (.int (iZ z) :: rest))) : W p l e R s m args below meth c H locs cells slots Q (F0 m pc ls st0) := by
  have hFc := va_free (wc := cx) hD hS hA isC hC2
  refine va_calli hr hS (fun q _ h => hFc q h) hFc (fun r u t H1 locs1 ht hvm hw hB hz1 hk1 hS1 => ?_)
  obtain ⟨hP1, hK1, hD1⟩ := hB
  rw [ht] at hP1
  obtain ⟨hP2, hD2⟩ := va_joinQ hP hD isC isR hC hR hn hdis hk1 hFc hP1 hD1
  rw [hw]
  exact kk H1 locs1 hP2 hD2 hS1
theorem zq_v (hr : va_Run p l e R s m args below meth c H locs cells slots mc ms (F0 m pc ls st0) rest (va_Qv (fun (_ : Unit) => True) (zB D tys (va_A cx H.size) w1) (va_A cx H.size) a) (va_A cx H.size)) (hP : va_P D vwCl (X ++ pl) H) (hD : va_D A (X ++ pl)) (hS : va_S A H0 H locs) (hA : ∀ q, H0.size ≤ q → A q) (isC isR : List Nat) (hC : isC.map (fun i => X[i]?) = cx.map some) (hR : isR.map (fun i => X[i]?) = wr.map some) (hn : va_nd isR = true) (hdis : ∀ i ∈ isR, i ∉ isC) (hC2 : isC.map (fun i => (X ++ pl)[i]?) = cx.map some)
    (kk : ∀ (H1 : Heap) (locs1 : List Loc), va_P D vwCl ((wr ++ w1) ++ pl) H1 → va_D A ((wr ++ w1) ++ pl) → va_S A H0 H1 locs1 → W p l e R s m args below meth c H1 locs1 (cells + mc) (slots + ms) Q (F0 m (pc + 3) ls rest)) : W p l e R s m args below meth c H locs cells slots Q (F0 m pc ls st0) := by
  have hFc := va_free (wc := cx) hD hS hA isC hC2
  refine va_callv hr hS (fun q _ h => hFc q h) hFc (fun u t H1 locs1 ht hvm hw hB hz1 hk1 hS1 => ?_)
  obtain ⟨hP1, hK1, hD1⟩ := hB
  rw [ht] at hP1
  obtain ⟨hP2, hD2⟩ := va_joinQ hP hD isC isR hC hR hn hdis hk1 hFc hP1 hD1
  exact kk H1 locs1 hP2 hD2 hS1
theorem zp_i (hr : va_Run p l e R s m args below meth c H locs cells slots mc ms (F0 m pc ls st0) rest (va_Qi (fun (r : Int32) (_ : Unit) => r = iZ z) (zB D tys (va_A (cx ++ pl) H.size) (rx ++ pl1)) (va_A (cx ++ pl) H.size) a) (va_A (cx ++ pl) H.size)) (hP : va_P D vwCl (X ++ pl) H) (hD : va_D A (X ++ pl)) (hS : va_S A H0 H locs) (hA : ∀ q, H0.size ≤ q → A q) (isC isR : List Nat) (hC : isC.map (fun i => X[i]?) = cx.map some) (hR : isR.map (fun i => X[i]?) = wr.map some) (hn : va_nd isR = true) (hdis : ∀ i ∈ isR, i ∉ isC)
    (kk : ∀ (H1 : Heap) (locs1 : List Loc), va_P D vwCl ((wr ++ rx) ++ pl1) H1 → va_D A ((wr ++ rx) ++ pl1) → va_S A H0 H1 locs1 → W p l e R s m args below meth c H1 locs1 (cells + mc) (slots + ms) Q (F0 m (pc + 3) ls (.int (iZ z) :: rest))) : W p l e R s m args below meth c H locs cells slots Q (F0 m pc ls st0) := by
  have hFc := va_freeP (cx := cx) hD hS hA isC hC
  refine va_calli hr hS (fun q _ h => hFc q h) hFc (fun r u t H1 locs1 ht hvm hw hB hz1 hk1 hS1 => ?_)
  obtain ⟨hP1, hK1, hD1⟩ := hB
  rw [ht] at hP1
  obtain ⟨hP2, hD2⟩ := va_joinP hP hD isC isR hC hR hn hdis hk1 hFc hP1 hD1
  rw [hw]
  exact kk H1 locs1 hP2 hD2 hS1
theorem zp_v (hr : va_Run p l e R s m args below meth c H locs cells slots mc ms (F0 m pc ls st0) rest (va_Qv (fun (_ : Unit) => True) (zB D tys (va_A (cx ++ pl) H.size) (rx ++ pl1)) (va_A (cx ++ pl) H.size) a) (va_A (cx ++ pl) H.size)) (hP : va_P D vwCl (X ++ pl) H) (hD : va_D A (X ++ pl)) (hS : va_S A H0 H locs) (hA : ∀ q, H0.size ≤ q → A q) (isC isR : List Nat) (hC : isC.map (fun i => X[i]?) = cx.map some) (hR : isR.map (fun i => X[i]?) = wr.map some) (hn : va_nd isR = true) (hdis : ∀ i ∈ isR, i ∉ isC)
    (kk : ∀ (H1 : Heap) (locs1 : List Loc), va_P D vwCl ((wr ++ rx) ++ pl1) H1 → va_D A ((wr ++ rx) ++ pl1) → va_S A H0 H1 locs1 → W p l e R s m args below meth c H1 locs1 (cells + mc) (slots + ms) Q (F0 m (pc + 3) ls rest)) : W p l e R s m args below meth c H locs cells slots Q (F0 m pc ls st0) := by
  have hFc := va_freeP (cx := cx) hD hS hA isC hC
  refine va_callv hr hS (fun q _ h => hFc q h) hFc (fun u t H1 locs1 ht hvm hw hB hz1 hk1 hS1 => ?_)
  obtain ⟨hP1, hK1, hD1⟩ := hB
  rw [ht] at hP1
  obtain ⟨hP2, hD2⟩ := va_joinP hP hD isC isR hC hR hn hdis hk1 hFc hP1 hD1
  exact kk H1 locs1 hP2 hD2 hS1
end ZC
theorem gw_V {own C : String} {idx n : Nat} {y : MethodName} {b : ByteArray} {r : Option FieldType} (h1 : Cond.methodLink own idx y ∈ gw) (h2 : Cond.instanceMethod y ∈ gw) (h3 : Cond.selects C y y ∈ gw) (h4 : Cond.initialized C ∈ gw) (h5 : Cond.code y b n r ∈ gw) : GoodIn gw (wsV own idx C y (Cond.code y b n r :: gw)) := gw_callG (by
  intro w hw
  simp only [wsV, List.mem_append, List.mem_cons, List.not_mem_nil, or_false] at hw
  rcases hw with (rfl | rfl | rfl | rfl) | rfl | hw <;> assumption)
theorem gw_S {own : String} {idx n : Nat} {y : MethodName} {b : ByteArray} {r : Option FieldType} (h1 : Cond.methodLink own idx y ∈ gw) (h2 : Cond.static y ∈ gw) (h4 : Cond.initialized y.cls ∈ gw) (h5 : Cond.code y b n r ∈ gw) : GoodIn gw (va_wsS own idx y (Cond.code y b n r :: gw)) := gw_callG (by
  intro w hw
  simp only [va_wsS, List.mem_append, List.mem_cons, List.not_mem_nil, or_false] at hw
  rcases hw with (rfl | rfl | rfl) | rfl | hw <;> assumption)
theorem gw_I {n : Nat} {y : MethodName} {b : ByteArray} {r : Option FieldType} (h5 : Cond.code y b n r ∈ gw) : GoodIn gw (Cond.code y b n r :: gw) := gw_callG (gw_cons h5)
