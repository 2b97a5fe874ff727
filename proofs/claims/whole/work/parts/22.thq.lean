def zPcT (D : va_G) (tys : List (ClassId × FieldType)) (av : List Value) (ws : va_W) (sz : Nat) : Array Value → State → Prop :=
  va_Pc av (fun U => (U.heap.size = sz ∧ va_P D vwCl ws U.heap ∧ va_K D vwCl tys U ∧ va_D (fun _ => True) ws ∧ NZ U) ∧ TH ws U)
theorem zPcT_blind {D : va_G} {tys : List (ClassId × FieldType)} {av : List Value} {ws : va_W} {sz : Nat} : FrameBlind (zPcT D tys av ws sz) := fun a U g mk q => by
  obtain ⟨q0, ⟨q1, qP, qK, qD, qZ⟩, s0, h1, h2, h3, h4, h5⟩ := q
  exact ⟨q0, ⟨q1, qP, va_K.moved (u := U) (U := U.calling g mk a) (Vm.Alike.refl U.vm) qK, qD, NZ.same (u := U) (U := U.calling g mk a) rfl qZ⟩, s0, h1, h2, h3, h4, h5⟩
def ThrewC (c : String) (oc : Outcome) (t : State) : Prop := ∃ (x : Nat) (ce : Cell), oc = .threw x ∧ t.heap[x]? = some ce ∧ t.vm.findClass c = some ce.cls ∧ ce.vm = .none
def zQT {S : Type} (D : va_G) (tys : List (ClassId × FieldType)) (A : Nat → Prop) (c1 c2 : String) (kc : Int) (rv : Option Value) (Φ : S → Prop) (w : S → va_W) : Array Value → State → Outcome → State → Prop := fun _ st oc t =>
  (∃ u : S, Φ u ∧ zBx D tys A w u t ∧ ((kc = 0 ∧ oc = .returned rv) ∨ (kc = 1 ∧ ThrewC c1 oc t) ∨ (kc = 2 ∧ ThrewC c2 oc t))) ∧ va_F A st t
theorem zt_q {S : Type} {s : State} {args : Array Value} {D : va_G} {tys : List (ClassId × FieldType)} {A : Nat → Prop} {c1 c2 cls : String} {kc : Int} {rv : Option Value} {Φ : S → Prop} {w : S → va_W} {H : Heap} {locs : List Loc} (u : S) (hP : va_P D vwCl (w u) H) (hD : va_D A (w u)) (hK : va_K D vwCl tys s) (hS : va_S A s.heap H locs) (hΦ : Φ u) (hk : (kc = 1 ∧ cls = c1) ∨ (kc = 2 ∧ cls = c2)) :
    ∀ (t : State) (ce : Cell), H.size ≤ t.heap.size → (∀ a : Nat, a < H.size → t.heap[a]? = H[a]?) → t.heap[H.size]? = some ce → s.vm.findClass cls = some ce.cls → ce.vm = .none → s.WarmedH t.vm → zQT D tys A c1 c2 kc rv Φ w args s (.threw H.size) t := by
  intro t ce h1 h2 h3 h4 h5 h6
  refine ⟨⟨u, hΦ, ⟨hP.kept (fun k q hq => h2 q.1 (hP k q hq).lt), va_K.moved h6.alike hK, hD⟩, ?_⟩, ?_⟩
  · have hT : ThrewC cls (.threw H.size) t := ⟨H.size, ce, rfl, h3, by rw [h6.alike.findClass]; exact h4, h5⟩
    rcases hk with ⟨k1, rfl⟩ | ⟨k1, rfl⟩
    · exact Or.inr (Or.inl ⟨k1, hT⟩)
    · exact Or.inr (Or.inr ⟨k1, hT⟩)
  · exact ⟨Nat.le_trans hS.1 h1, fun q hq hA => by rw [h2 q (Nat.lt_of_lt_of_le hq hS.1)]; exact hS.2.1 q hq hA⟩
theorem own_63 : ∀ a ∈ Bundle.ownAtoms "LogDesk" 63 "java/lang/IllegalArgumentException" ["java/lang/RuntimeException", "java/lang/Exception"], a ∈ gw ∨ a ∈ thW.take 11 := by decide +kernel
theorem own_77 : ∀ a ∈ Bundle.ownAtoms "LogDesk" 77 "java/lang/IllegalStateException" ["java/lang/RuntimeException", "java/lang/Exception"], a ∈ gw ∨ a ∈ thW.take 11 := by decide +kernel
theorem own_124 : ∀ a ∈ Bundle.ownAtoms "LogDesk" 124 "java/lang/UnsupportedOperationException" ["java/lang/RuntimeException", "java/lang/Exception"], a ∈ gw ∨ a ∈ thW.take 11 := by decide +kernel
theorem aW_succ (al : Nat → Bool) (x : Int) {i : Int} (h : 0 ≤ i) : aW al x (i + 1).toNat = aP (aW al x i.toNat) (x + i) := by
  rw [show (i + 1).toNat = i.toNat + 1 by omega]
  show aP (aW al x i.toNat) (x + ((i.toNat : Nat) : Int)) = _
  rw [Int.toNat_of_nonneg h]
theorem uW_succ (u : Nat → Int) (x : Int) (f : Nat → Int) {i : Int} (h : 0 ≤ i) : uW u x f (i + 1).toNat = uP (uW u x f i.toNat) (x + i) (f i.toNat) := by
  rw [show (i + 1).toNat = i.toNat + 1 by omega]
  show uP (uW u x f i.toNat) (x + ((i.toNat : Nat) : Int)) (f i.toNat) = _
  rw [Int.toNat_of_nonneg h]
theorem aW_le (al : Nat → Bool) (x : Int) {m n : Nat} (h : m ≤ n) : cal (aW al x m) 32 ≤ cal (aW al x n) 32 := by
  induction n with
  | zero => rw [show m = 0 by omega]; exact Nat.le_refl _
  | succ n ih =>
    by_cases e : m = n + 1
    · subst e; exact Nat.le_refl _
    · exact Nat.le_trans (ih (by omega)) (aP_mono _ _)
theorem own_160 : ∀ a ∈ nAtoms "LogDesk" 160 "java/util/NoSuchElementException" 13 prog_19_method_4_code, a ∈ gw ∨ a ∈ thW.take 11 := by decide +kernel
