section ZZ3
variable {p : Program} {l : Launch} {e : Env} {R : Room} {s : State} {m : MethodId} {args : Array Value} {below : List Frame} {meth : Method} {c : Code} {H : Heap} {locs : List Loc} {cells slots : Nat} {Q : State → Prop}
variable {cc : ByteArray} {pc : Nat} {ls : Array Slot} {rest : List Value} {D : va_G} {cl : List vw_C} {A : Nat → Prop} {a : Nat} {tys : List (ClassId × FieldType)} {ws : va_W} {H0 : Heap}
theorem zz_zald (hexec : p.tables.exec = Jvm.exec) (hb : c.code = cc) (hK : va_K D cl tys s) (hP : va_P D cl ws H) (q0 t0 : Nat) {cA : ClassId} {n : Nat} {u : Nat → Int} {x : Int} (ha : ws[q0]? = some (a, .inl (cA, n, .inl (fun j => iZ (u j))))) (ht : tys[t0]? = some (cA, .boolean)) (h0 : 0 ≤ x) (h1 : x < n) (hn : n < 2147483648) (hdg : decode cc pc = .ok (.baload, 1)) (k : W p l e R s m args below meth c H locs cells slots Q (F0 m (pc + 1) ls (.int (iZ (u x.toNat)) :: rest))) : W p l e R s m args below meth c H locs cells slots Q (F0 m pc ls (.int (iZ x) :: .ref a :: rest)) := by
  refine va_zald hexec hb hK hP q0 t0 ha ht (iZ_in h0 h1 hn) hdg ?_
  rw [iZ_cl h0 (by omega)]
  exact k
theorem zz_zast (hexec : p.tables.exec = Jvm.exec) (hb : c.code = cc) (hK : va_K D cl tys s) (hP : va_P D cl ws H) (hD : va_D A ws) (hS : va_S A H0 H locs) (q0 t0 : Nat) {cA : ClassId} {n : Nat} {u : Nat → Int} {x v : Int} (ha : ws[q0]? = some (a, .inl (cA, n, .inl (fun j => iZ (u j))))) (ht : tys[t0]? = some (cA, .boolean)) (hv : v = 0 ∨ v = 1) (h0 : 0 ≤ x) (h1 : x < n) (hn : n < 2147483648) (hdg : decode cc pc = .ok (.bastore, 1)) (kk : ∀ (H1 : Heap) (locs1 : List Loc), va_P D cl (ws.set q0 (a, .inl (cA, n, .inl (fun j => iZ (va_up u x.toNat v j))))) H1 → va_D A (ws.set q0 (a, .inl (cA, n, .inl (fun j => iZ (va_up u x.toNat v j))))) → va_S A H0 H1 locs1 → W p l e R s m args below meth c H1 locs1 cells slots Q (F0 m (pc + 1) ls rest)) : W p l e R s m args below meth c H locs cells slots Q (F0 m pc ls (.int (iZ v) :: .int (iZ x) :: .ref a :: rest)) := by
  refine va_zast hexec hb hK hP hD hS q0 t0 ha ht (iZ_in h0 h1 hn) hdg (fun H1 l1 h1' h2 h3 => ?_)
  have hf : upd (fun j => iZ (u j)) (iZ x).toNatClampNeg (vp_nar .boolean (iZ v)) = (fun j => iZ (va_up u x.toNat v j)) := by
    have hz : vp_nar .boolean (iZ v) = iZ v := by rcases hv with rfl | rfl <;> decide
    funext j
    rw [iZ_cl h0 (by omega), hz]
    by_cases hj : j = x.toNat
    · subst hj; rw [pk_us, va_up_self]
    · rw [pk_un hj, va_up_ne _ _ hj]
  rw [hf] at h1' h2
  exact kk H1 l1 h1' h2 h3
end ZZ3
def mlb (v : Int64) (r : Int) : Int := ((v >>> ((iZ (8 * r)).toInt64 &&& 63)) &&& (255 : Int64)).toInt32.toInt
def mpU (v : Int64) : Nat → Int → (Nat → Int) → (Nat → Int)
  | 0, _, u => u
  | r + 1, c, u => mpU v r (c + 1) (va_up u c.toNat (mlb v r))
theorem mpU_succ {v : Int64} {i k : Int} {w : Nat → Int} (h : 0 ≤ i) : mpU v (i + 1).toNat k w = mpU v i.toNat (k + 1) (va_up w k.toNat (mlb v i)) := by
  have e : (i + 1).toNat = i.toNat + 1 := by omega
  have e2 : ((i.toNat : Nat) : Int) = i := Int.toNat_of_nonneg h
  rw [e]
  show mpU v i.toNat (k + 1) (va_up w k.toNat (mlb v ((i.toNat : Nat) : Int))) = _
  rw [e2]
theorem mfU_step {w uh : Nat → Int} {cnt k v : Int} (h0 : 0 ≤ cnt) (h1 : cnt ≤ k) (hw : ∀ j : Nat, w j = if cnt ≤ (j : Int) ∧ (j : Int) < k then v else uh j) : ∀ j : Nat, va_up w k.toNat v j = if cnt ≤ (j : Int) ∧ (j : Int) < k + 1 then v else uh j := by
  intro j
  by_cases hj : j = k.toNat
  · subst hj
    rw [va_up_self, if_pos (by omega)]
  · rw [va_up_ne _ _ hj, hw]
    by_cases h : cnt ≤ (j : Int) ∧ (j : Int) < k
    · rw [if_pos h, if_pos (by omega)]
    · rw [if_neg h, if_neg (by omega)]
def mfst (g : Nat → Int) : Nat → Int
  | 0 => -1
  | n + 1 => if 0 ≤ g n ∧ (mfst g n < 0 ∨ g n < g (mfst g n).toNat) then (n : Int) else mfst g n
theorem mfst_step {g : Nat → Int} {i f : Int} (h0 : 0 ≤ i) (hf : f = mfst g i.toNat) : mfst g (i + 1).toNat = if 0 ≤ g i.toNat ∧ (f < 0 ∨ g i.toNat < g f.toNat) then i else f := by
  have e : (i + 1).toNat = i.toNat + 1 := by omega
  rw [e, hf]
  show (if _ then ((i.toNat : Nat) : Int) else _) = _
  rw [Int.toNat_of_nonneg h0]
