/-! joins and loops of a walk; a state's row put anew -/
def upr (S : St) (k : Nat) (r : Nat → Int32) : St := fun k' => if k' = k then r else S k'
theorem upr_ne {S : St} {k : Nat} {r : Nat → Int32} {k' : Nat} (h : k' ≠ k) : upr S k r k' = S k' := if_neg h
theorem upr_at (S : St) (k : Nat) (r : Nat → Int32) : upr S k r k = r := if_pos rfl
theorem upr_self {S : St} {k : Nat} {r : Nat → Int32} (h : S k = r) : upr S k r = S := by
  funext k'
  by_cases e : k' = k
  · subst e; rw [upr_at, h]
  · rw [upr_ne e]
theorem upr_up (S : St) (k : Nat) (r : Nat → Int32) (i : Nat) (v : Int32) : up (upr S k r) k i v = upr S k (upd r i v) := by
  funext k'
  by_cases e : k' = k
  · subst e; rw [up_row, upr_at, upr_at]
  · rw [up_ne e, upr_ne e, upr_ne e]
section WALK
variable {p : Program} {l : Launch} {e : Env} {R : Room} {s : State} {m : MethodId} {args : Array Value} {below : List Frame} {meth : Method} {c : Code} {H : Heap} {locs : List Loc} {cells slots : Nat} {Q : State → Prop}
theorem w_join {σ : Type} (pc2 : Nat) (Φ : σ → Heap → List Loc → Array Slot → Prop) (stk : σ → List Value) {g : JFrame}
    (h1 : ∀ (z : σ) (H1 : Heap) (locs1 : List Loc) (ls1 : Array Slot), Φ z H1 locs1 ls1 → W p l e R s m args below meth c H1 locs1 cells slots Q (F0 m pc2 ls1 (stk z)))
    (h2 : (∀ (z : σ) (H1 : Heap) (locs1 : List Loc) (ls1 : Array Slot), Φ z H1 locs1 ls1 → W p l e R s m args below meth c H1 locs1 cells slots Q (F0 m pc2 ls1 (stk z))) → W p l e R s m args below meth c H locs cells slots Q g) : W p l e R s m args below meth c H locs cells slots Q g := h2 h1
theorem w_loop {σ : Type} (N pc2 : Nat) (Φ : Nat → σ → Heap → List Loc → Array Slot → Prop)
    (hs : ∀ (i : Nat) (z : σ) (H1 : Heap) (locs1 : List Loc) (ls1 : Array Slot), Φ i z H1 locs1 ls1 → i ≤ N → (∀ (z2 : σ) (H2 : Heap) (locs2 : List Loc) (ls2 : Array Slot), i < N → Φ (i + 1) z2 H2 locs2 ls2 → W p l e R s m args below meth c H2 locs2 cells slots Q (F0 m pc2 ls2 [])) → W p l e R s m args below meth c H1 locs1 cells slots Q (F0 m pc2 ls1 []))
    {ls : Array Slot} (z0 : σ) (h0 : Φ 0 z0 H locs ls) : W p l e R s m args below meth c H locs cells slots Q (F0 m pc2 ls []) := by
  have key : ∀ (r i : Nat) (z : σ) (H1 : Heap) (locs1 : List Loc) (ls1 : Array Slot), i + r = N → Φ i z H1 locs1 ls1 → W p l e R s m args below meth c H1 locs1 cells slots Q (F0 m pc2 ls1 []) := by
    intro r
    induction r with
    | zero => exact fun i z H1 locs1 ls1 hi h => hs i z H1 locs1 ls1 h (by omega) (fun z2 H2 locs2 ls2 hlt _ => absurd hlt (by omega))
    | succ r ih => exact fun i z H1 locs1 ls1 hi h => hs i z H1 locs1 ls1 h (by omega) (fun z2 H2 locs2 ls2 hlt h2 => ih (i + 1) z2 H2 locs2 ls2 (by omega) h2)
  exact key N 0 z0 H locs ls (by omega) h0
end WALK
theorem w_exit {B : Int32} {i N : Nat} (hB : B = nI N) (hi : i ≤ N) (hN : N < 2 ^ 31) (c : B ≤ nI i) : i = N := by
  rw [hB] at c
  have := (nI_leI hN (by omega)).mp c
  omega
theorem w_in {B : Int32} {i N : Nat} (hB : B = nI N) (hi : i ≤ N) (hN : N < 2 ^ 31) (c : ¬ B ≤ nI i) : i < N := by
  rw [hB] at c
  rcases Nat.lt_or_ge i N with h | h
  · exact h
  · exact absurd (nI_le (by omega) (by omega)) c
theorem vp_ixl {x : Int32} {n : Nat} (h : vp_in x n) : ix x < n := Nat.not_le.mp (fun q => h (Or.inr q))
theorem vp_ixe {x : Int32} {n : Nat} (h : vp_in x n) : x = nI (ix x) := by
  obtain ⟨j, hj, rfl⟩ := nI_of (x := x) (fun q => h (Or.inl q))
  rw [show ix (nI j) = j from nI_clamp hj]
theorem w_swi (x : Int32) (j : Nat) (hj : j < 2 ^ 31) (h : x.toInt = (j : Int)) : x = nI j := by
  apply Int32.toInt_inj.mp
  rw [h, nI_toInt hj]
theorem w_sw {x : Int32} (k : Nat) (h : ∀ j, j ≤ k → ¬ x = nI j) (hk : k < 2 ^ 31 := by decide) : x.toInt < 0 ∨ (k : Int) < x.toInt := by
  by_cases h1 : x.toInt < 0
  · exact Or.inl h1
  · refine Or.inr (Int.not_le.mp fun h2 => ?_)
    obtain ⟨j, hj⟩ := Int.eq_ofNat_of_zero_le (Int.not_lt.mp h1)
    exact h j (by omega) (w_swi x j (by omega) hj)
/-! what is known of the reference's numbers -/
abbrev nsc (S : St) : Nat := ix (S 7 0)
abbrev ncl (S : St) : Nat := ix (S 15 0)
abbrev ndl (S : St) : Nat := ix (S 23 0)
abbrev nsu (S : St) : Nat := ix (S 28 0)
abbrev nam (S : St) : Nat := ix (S 42 0)
def bz (x : Int32) : Prop := x = 0 ∨ x = 1
theorem bz_nar {x : Int32} (h : bz x) : narrow .boolean (.int x) = .int x := by rcases h with h | h <;> subst h <;> rfl
theorem bz_vp {x : Int32} (h : bz x) : vp_nar .boolean x = x := by rcases h with h | h <;> subst h <;> rfl
def MInv (S : St) : Prop := (S 7 0 = nI (nsc S) ∧ nsc S ≤ 8) ∧ (S 15 0 = nI (ncl S) ∧ ncl S ≤ 40) ∧ (S 23 0 = nI (ndl S) ∧ ndl S ≤ 20) ∧ (S 28 0 = nI (nsu S) ∧ nsu S ≤ 12) ∧ (S 42 0 = nI (nam S) ∧ nam S ≤ 40) ∧
  (∀ i, vp_in (S 16 i) 8) ∧ (∀ i, vp_in (S 24 i) 8) ∧ (∀ i, vp_in (S 25 i) 8) ∧ (∀ i, vp_in (S 29 i) 8) ∧ (∀ i, vp_in (S 30 i) 6) ∧ (∀ i, i < nsc S → ¬ S 11 i = 0) ∧ (∀ i, bz (S 14 i)) ∧ (∀ i, bz (S 35 i)) ∧ (∀ i, bz (S 54 i))
theorem MInv.n7 {S : St} (h : MInv S) : S 7 0 = nI (nsc S) := h.1.1
theorem MInv.b7 {S : St} (h : MInv S) : nsc S ≤ 8 := h.1.2
theorem MInv.n15 {S : St} (h : MInv S) : S 15 0 = nI (ncl S) := h.2.1.1
theorem MInv.b15 {S : St} (h : MInv S) : ncl S ≤ 40 := h.2.1.2
theorem MInv.n23 {S : St} (h : MInv S) : S 23 0 = nI (ndl S) := h.2.2.1.1
theorem MInv.b23 {S : St} (h : MInv S) : ndl S ≤ 20 := h.2.2.1.2
theorem MInv.n28 {S : St} (h : MInv S) : S 28 0 = nI (nsu S) := h.2.2.2.1.1
theorem MInv.b28 {S : St} (h : MInv S) : nsu S ≤ 12 := h.2.2.2.1.2
theorem MInv.n42 {S : St} (h : MInv S) : S 42 0 = nI (nam S) := h.2.2.2.2.1.1
theorem MInv.b42 {S : St} (h : MInv S) : nam S ≤ 40 := h.2.2.2.2.1.2
theorem MInv.v16 {S : St} (h : MInv S) (i : Nat) : vp_in (S 16 i) 8 := h.2.2.2.2.2.1 i
theorem MInv.v24 {S : St} (h : MInv S) (i : Nat) : vp_in (S 24 i) 8 := h.2.2.2.2.2.2.1 i
theorem MInv.v25 {S : St} (h : MInv S) (i : Nat) : vp_in (S 25 i) 8 := h.2.2.2.2.2.2.2.1 i
theorem MInv.v29 {S : St} (h : MInv S) (i : Nat) : vp_in (S 29 i) 8 := h.2.2.2.2.2.2.2.2.1 i
theorem MInv.v30 {S : St} (h : MInv S) (i : Nat) : vp_in (S 30 i) 6 := h.2.2.2.2.2.2.2.2.2.1 i
theorem MInv.lk {S : St} (h : MInv S) (i : Nat) (hi : i < nsc S) : ¬ S 11 i = 0 := h.2.2.2.2.2.2.2.2.2.2.1 i hi
theorem MInv.z14 {S : St} (h : MInv S) (i : Nat) : bz (S 14 i) := h.2.2.2.2.2.2.2.2.2.2.2.1 i
theorem MInv.z35 {S : St} (h : MInv S) (i : Nat) : bz (S 35 i) := h.2.2.2.2.2.2.2.2.2.2.2.2.1 i
theorem MInv.z54 {S : St} (h : MInv S) (i : Nat) : bz (S 54 i) := h.2.2.2.2.2.2.2.2.2.2.2.2.2 i
theorem MInv.congr {S S' : St} (h : MInv S) (e : S' 7 = S 7 ∧ S' 15 = S 15 ∧ S' 23 = S 23 ∧ S' 28 = S 28 ∧ S' 42 = S 42 ∧ S' 16 = S 16 ∧ S' 24 = S 24 ∧ S' 25 = S 25 ∧ S' 29 = S 29 ∧ S' 30 = S 30 ∧ S' 11 = S 11 ∧ S' 14 = S 14 ∧ S' 35 = S 35 ∧ S' 54 = S 54) : MInv S' := by
  obtain ⟨e1, e2, e3, e4, e5, e6, e7, e8, e9, e10, e11, e12, e13, e14⟩ := e
  unfold MInv nsc ncl ndl nsu nam
  rw [e1, e2, e3, e4, e5, e6, e7, e8, e9, e10, e11, e12, e13, e14]
  exact h
