def zl_blindP (b : Nat) (L : Nat) (xs : Nat → Int32) (sz : Nat) : Array Value → State → Prop := va_Pc [.ref b, .int (iZ 0)] (fun U => U.heap.size = sz ∧ va_X b L xs U U.heap)
theorem zl_blind {b L sz : Nat} {xs : Nat → Int32} : FrameBlind (va_Pc [.ref b, .int (iZ 0)] (fun U => U.heap.size = sz ∧ va_X b L xs U U.heap)) := fun a U g mk q => by
  obtain ⟨q0, q1, q2⟩ := q
  exact ⟨q0, q1, va_X.moved (u := U) (U := U.calling g mk a) (Vm.Alike.refl U.vm) q2⟩
section ZL43
variable {p : Program} {l : Launch} {e : Env} {R : Room} {s : State} {m : MethodId} {args : Array Value} {below : List Frame} {meth : Method} {c : Code} {H : Heap} {locs : List Loc} {cells slots : Nat} {Q : State → Prop} {pc : Nat} {ls : Array Slot} {rest st0 : List Value} {D : va_G} {A : Nat → Prop} {ws : va_W} {H0 : Heap} {a : Array Value} {z : Int}
theorem zl_cell (hr : va_Run p l e R s m args below meth c H locs cells slots 0 0 (F0 m pc ls st0) rest (va_Qi (fun (r : Int32) (_ : Unit) => r = iZ z) (fun _ _ => True) (fun q : Nat => H.size ≤ q) a) (fun q : Nat => H.size ≤ q)) (hP : va_P D vwCl ws H) (hS : va_S A H0 H locs) (hA : ∀ q : Nat, H0.size ≤ q → A q)
    (kk : ∀ (H1 : Heap) (locs1 : List Loc), va_P D vwCl ws H1 → va_S A H0 H1 locs1 → W p l e R s m args below meth c H1 locs1 cells slots Q (F0 m (pc + 3) ls (.int (iZ z) :: rest))) : W p l e R s m args below meth c H locs cells slots Q (F0 m pc ls st0) := by
  have hF : ∀ q : Nat, H.size ≤ q → A q := fun q h => hA q (Nat.le_trans hS.1 h)
  refine va_calli hr hS (fun q _ h => hF q h) hF (fun r u t H1 locs1 ht hvm hw hB hz1 hk1 hS1 => ?_)
  rw [hw]
  exact kk H1 locs1 (hP.kept (fun k q hq => hk1 q.1 (hP k q hq).lt (Nat.not_le.mpr (hP k q hq).lt))) hS1
theorem zl_eq {z z' : Int} (h : z = z') (k : W p l e R s m args below meth c H locs cells slots Q (F0 m pc ls (.int (iZ z') :: rest))) : W p l e R s m args below meth c H locs cells slots Q (F0 m pc ls (.int (iZ z) :: rest)) := h ▸ k
theorem zl_leq {z z' : Int64} (h : z = z') (k : W p l e R s m args below meth c H locs cells slots Q (F0 m pc ls (.long z' :: rest))) : W p l e R s m args below meth c H locs cells slots Q (F0 m pc ls (.long z :: rest)) := h ▸ k
end ZL43
