/-! adding to a list: what is given and what comes back -/
def EL (W : va_W) (U : State) (y : Nat) : Prop := va_Any "java/lang/Object" U U.heap y ∧ ∀ (k : Nat) (q : Nat × va_E), W[k]? = some q → y ≠ q.1
def ADp (D : va_G) (cy : Nat → ClassId) (e0 mi : Nat) (W : va_W) (P : Nat → Prop) (sz : Nat) : State → Prop := fun U => U.heap.size = sz ∧ va_P D vwCl W U.heap ∧ JX (va_A W sz) D cy e0 mi U U.heap ∧ va_D (fun _ => True) W ∧ ∀ y, P y → EL W U y
theorem AD_blind {D : va_G} {cy : Nat → ClassId} {e0 mi : Nat} {W : va_W} {P : Nat → Prop} {sz : Nat} {av : List Value} : FrameBlind (va_Pc av (ADp D cy e0 mi W P sz)) := fun x U g mk q => ⟨q.1, q.2.1, q.2.2.1, JX.blind q.2.2.2.1, q.2.2.2.2.1, q.2.2.2.2.2⟩
theorem va_Any.kept {E : String} {s : State} {H H1 : Heap} {y : Nat} (h : va_Any E s H y) (hq : H1[y]? = H[y]?) : va_Any E s H1 y := by
  obtain ⟨cell, h1, h2⟩ := h
  exact ⟨cell, by rw [hq]; exact h1, h2⟩
theorem va_Any.lt {E : String} {s : State} {H : Heap} {y : Nat} (h : va_Any E s H y) : y < H.size := by
  obtain ⟨cell, h1, h2⟩ := h
  exact (Array.getElem?_eq_some_iff.mp h1).1
theorem va_Any.moved {E : String} {u U : State} {H : Heap} {y : Nat} (hvm : u.vm.Alike U.vm) (h : va_Any E u H y) : va_Any E U H y := by
  obtain ⟨cell, h1, h2, ⟨kC, h3⟩, h4⟩ := h
  obtain ⟨k', hk', -⟩ := hvm.2.2 _ _ h3
  exact ⟨cell, h1, h2, ⟨k', hk'⟩, fun comp hc => by rw [hvm.assignable]; exact h4 comp (by rw [← hvm.findClass]; exact hc)⟩
theorem EL_out {W : va_W} {s : State} {y : Nat} {A : Nat → Prop} (hE : EL W s y) (hAe : va_A W s.heap.size = A) : ¬ A y := by
  rw [← hAe]
  rintro (⟨k, e, h⟩ | h)
  · exact hE.2 k _ h rfl
  · exact absurd hE.1.lt (Nat.not_lt.mpr h)
theorem EL_now {W : va_W} {s : State} {y : Nat} {A : Nat → Prop} {H : Heap} {locs : List Loc} (hE : EL W s y) (hAe : va_A W s.heap.size = A) (hS : va_S A s.heap H locs) : va_Any "java/lang/Object" s H y := hE.1.kept (hS.2.1 y hE.1.lt (EL_out hE hAe))
theorem cA_eq {D : va_G} {cy : Nat → ClassId} {s : State} {cA : ClassId} (h : KK D cy s) (h2 : va_K D vwCl (tysOf cy ++ [(cA, .object "java/lang/Object")]) s) : cA = cy 4 := by
  obtain ⟨-, -, -, -, -, a4⟩ := (h.2 4 _ rfl).2
  obtain ⟨-, -, -, -, -, b4⟩ := (h2.2 6 _ rfl).2
  exact Option.some.inj (b4.symm.trans a4)
/-- the world that a nested call finds -/
theorem AD_pre {D : va_G} {cy : Nat → ClassId} {e0 mi : Nat} {W W2 : va_W} {P : Nat → Prop} {s : State} {A : Nat → Prop} {H : Heap} {locs : List Loc} (hAe : va_A W s.heap.size = A) (hJ : JX A D cy e0 mi s s.heap) (hS : va_S A s.heap H locs) (hP : va_P D vwCl W2 H) (hD : va_D A W2) (hA : ∀ q : Nat, s.heap.size ≤ q → A q) (hE : ∀ y, P y → EL W s y) (av : List Value) :
    ∀ U : State, U.heap = H → s.WarmedH U.vm → va_Pc av (ADp D cy e0 mi W2 P H.size) av.toArray U := by
  intro U hU hW
  have hF : ∀ q, va_A W2 H.size q → A q := by
    rintro q (⟨k, e, h⟩ | h)
    · exact hD.2 k _ h
    · exact hA q (Nat.le_trans hS.1 h)
  refine ⟨rfl, by rw [hU], by rw [hU]; exact hP, ?_, hD.weaken (fun _ _ _ _ => trivial), fun y hy => ⟨?_, fun k q hk => ?_⟩⟩
  · rw [hU]
    exact JX.moved hW.alike (JX.narrow (JX.kept hJ hS.2.1) hF)
  · rw [hU]
    exact va_Any.moved hW.alike (EL_now (hE y hy) hAe hS)
  · rintro rfl
    exact EL_out (hE _ hy) hAe (hD.2 k q hk)
theorem cpy_in {f g : Nat → Option Nat} {n j : Nat} (hn : n < 2 ^ 31) (h : j < n) : va_cpy f g ((0 : Int32).toNatClampNeg) ((0 : Int32).toNatClampNeg) ((nI n).toNatClampNeg) j = f j := by
  rw [nI_clamp hn]
  have := pk_cpy_in (f := f) (g := g) (sp := 0) (dp := 0) (n := n) (j := j) (by omega) (by omega)
  simpa using this
theorem nI_half {n : Nat} (hn : n < 2 ^ 31) : nI n >>> ((1 : Int32) &&& 31) = nI (n / 2) := by
  have k := pk_shrN (n := n) hn ((1 : Int32) &&& 31) 1 (by decide)
  rw [Nat.pow_one] at k
  exact k
theorem nl_eq {n : Nat} (h2 : 2 ≤ n) (hn : n < 2 ^ 29) : (nI n + (if (nI (n + 1) - nI n) < (nI n >>> ((1 : Int32) &&& 31)) then (nI n >>> ((1 : Int32) &&& 31)) else (nI (n + 1) - nI n))) = nI (n + n / 2) := by
  rw [nI_half (by omega), pk_sub (by omega), Nat.add_sub_cancel_left]
  by_cases h : 1 < n / 2
  · rw [if_pos (nI_lt h (by omega)), nI_add]
  · rw [if_neg (nI_nlt (by omega) (by decide)), nI_add]
    have : n / 2 = 1 := by omega
    rw [this]
theorem arO_recv {D : va_G} {cy : Nat → ClassId} {s : State} {ea cap : Nat} {f : Nat → Option Nat} {H : Heap} (hK : KK D cy s) (h : va_at D vwCl (ea, arO cy cap f) H) : ∃ cell : Cell, H[ea]? = some cell ∧ cell.vm.isStatics = false ∧ s.vm.findClass "[Ljava/lang/Object;" = some cell.cls :=
  ⟨_, h, rfl, va_nmO (hK.2 4 _ rfl).2 (by decide)⟩
theorem sm_field {s : State} {args : Array Value} {ref owner n d : String} (h : (Cond.sameField ref owner n d).before args s = true) : ∀ x, s.fieldFound? owner n d = some x → s.fieldFound? ref n d = some x := by
  intro x hx
  cases hi : s.fieldFound? ref n d with
  | none =>
    exfalso
    have h2 : (Cond.sameField ref owner n d).holds args s none s [] = true := h
    simp [Cond.holds, Cond.value, hi] at h2
  | some y =>
    obtain ⟨c, k, i, f⟩ := y
    have h3 := Cond.sameField_spec hi h
    rw [← hx, h3]
