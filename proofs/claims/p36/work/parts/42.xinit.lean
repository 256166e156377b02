/-! the class is made: which cells there are while it is made (nf firms, nt tellers), and what they hold -/
def pval (nf nt k i : Nat) : Prop := match k with
  | 0 => i < nf
  | 1 => i < nf
  | 2 => i < nf
  | 3 => i < nf
  | 4 => i < nt
  | 12 => i < 4
  | 14 => i = 0
  | 15 => i = 0
  | 16 => i = 0
  | 17 => i = 0
  | 18 => i = 0
  | _ => False
def pcell (cy : Nat → ClassId) (g : CWt) (nf nt k i : Nat) : va_E := match k with
  | 14 => .inl (cy 2, 6, .inr (.inr (.inr (.inr (fun j => if j < nf then some (ga g 0 j) else none)))))
  | 15 => .inl (cy 3, 8, .inr (.inr (.inr (.inr (fun j => if j < nt then some (ga g 4 j) else none)))))
  | 16 => arI cy 16 (fun _ => 0)
  | k => ccell cy g S0 k i
def PM (A : Nat → Prop) (D : va_G) (cy : Nat → ClassId) (g : CWt) (nf nt : Nat) (H : Heap) : Prop := (∀ k i, pval nf nt k i → at1 D (ga g k i) (pcell cy g nf nt k i) H) ∧ (∀ k i, pval nf nt k i → A (ga g k i)) ∧ ∀ k i k' i', pval nf nt k i → pval nf nt k' i' → ga g k i = ga g k' i' → k = k' ∧ i = i'
theorem at_qc {D : va_G} {cA : ClassId} {n a : Nat} {f f' : Nat → Option Nat} {H : Heap} (h : ∀ t, t < n → f t = f' t) (h1 : at1 D a (.inl (cA, n, .inr (.inr (.inr (.inr f))))) H) : at1 D a (.inl (cA, n, .inr (.inr (.inr (.inr f'))))) H := by
  have h2 : H[a]? = some (vp_cell cA (n, .inr (.inr (.inr (.inr f))))) := h1
  show H[a]? = some (vp_cell cA (n, .inr (.inr (.inr (.inr f')))))
  rw [h2, vp_cell_q, vp_cell_q, arrV_congr (fun t ht => by rw [h t ht])]

section GX5
variable {g : CWt}
def gx5 (g : CWt) (n q0 q1 q2 q3 : Nat) : CWt := fun k => if k = 0 then (fun i => if i = n then (q0, 0, 0, fun _ => none) else g 0 i) else if k = 1 then (fun i => if i = n then (q1, 0, 0, fun _ => none) else g 1 i) else if k = 2 then (fun i => if i = n then (q2, 0, 0, fun _ => none) else g 2 i) else if k = 3 then (fun i => if i = n then (q3, 0, 0, fun _ => none) else g 3 i) else g k
theorem gx5_n0 {n q0 q1 q2 q3 : Nat} : gx5 g n q0 q1 q2 q3 0 (n) = (q0, 0, 0, fun _ => none) := by simp [gx5]
theorem gx5_o0 {n q0 q1 q2 q3 : Nat} {i : Nat} (h : i ≠ n) : gx5 g n q0 q1 q2 q3 0 i = g 0 i := by simp [gx5, h]
theorem gx5_n1 {n q0 q1 q2 q3 : Nat} : gx5 g n q0 q1 q2 q3 1 (n) = (q1, 0, 0, fun _ => none) := by simp [gx5]
theorem gx5_o1 {n q0 q1 q2 q3 : Nat} {i : Nat} (h : i ≠ n) : gx5 g n q0 q1 q2 q3 1 i = g 1 i := by simp [gx5, h]
theorem gx5_n2 {n q0 q1 q2 q3 : Nat} : gx5 g n q0 q1 q2 q3 2 (n) = (q2, 0, 0, fun _ => none) := by simp [gx5]
theorem gx5_o2 {n q0 q1 q2 q3 : Nat} {i : Nat} (h : i ≠ n) : gx5 g n q0 q1 q2 q3 2 i = g 2 i := by simp [gx5, h]
theorem gx5_n3 {n q0 q1 q2 q3 : Nat} : gx5 g n q0 q1 q2 q3 3 (n) = (q3, 0, 0, fun _ => none) := by simp [gx5]
theorem gx5_o3 {n q0 q1 q2 q3 : Nat} {i : Nat} (h : i ≠ n) : gx5 g n q0 q1 q2 q3 3 i = g 3 i := by simp [gx5, h]
theorem gx5_e {n q0 q1 q2 q3 : Nat} {k : Nat} (h : k ≠ 0 ∧ k ≠ 1 ∧ k ≠ 2 ∧ k ≠ 3 ∧ True) : gx5 g n q0 q1 q2 q3 k = g k := by
  obtain ⟨h0, h1, h2, h3, -⟩ := h
  simp [gx5, h0, h1, h2, h3]
theorem gx5_ga {n q0 q1 q2 q3 : Nat} {k i : Nat} (h : ¬ ((k = 0 ∧ i = n) ∨ (k = 1 ∧ i = n) ∨ (k = 2 ∧ i = n) ∨ (k = 3 ∧ i = n))) : ga (gx5 g n q0 q1 q2 q3) k i = ga g k i := by
  by_cases c0 : k = 0
  · subst c0
    exact congrArg Prod.fst (gx5_o0 (fun q => h (by simp [q])))
  by_cases c1 : k = 1
  · subst c1
    exact congrArg Prod.fst (gx5_o1 (fun q => h (by simp [q])))
  by_cases c2 : k = 2
  · subst c2
    exact congrArg Prod.fst (gx5_o2 (fun q => h (by simp [q])))
  by_cases c3 : k = 3
  · subst c3
    exact congrArg Prod.fst (gx5_o3 (fun q => h (by simp [q])))
  exact congrArg Prod.fst (congrFun (gx5_e ⟨c0, c1, c2, c3, trivial⟩) i)
def gx6 (g : CWt) (n q0 : Nat) : CWt := fun k => if k = 4 then (fun i => if i = n then (q0, 0, 0, fun _ => none) else g 4 i) else g k
theorem gx6_n4 {n q0 : Nat} : gx6 g n q0 4 (n) = (q0, 0, 0, fun _ => none) := by simp [gx6]
theorem gx6_o4 {n q0 : Nat} {i : Nat} (h : i ≠ n) : gx6 g n q0 4 i = g 4 i := by simp [gx6, h]
theorem gx6_e {n q0 : Nat} {k : Nat} (h : k ≠ 4 ∧ True) : gx6 g n q0 k = g k := by
  obtain ⟨h4, -⟩ := h
  simp [gx6, h4]
theorem gx6_ga {n q0 : Nat} {k i : Nat} (h : ¬ ((k = 4 ∧ i = n))) : ga (gx6 g n q0) k i = ga g k i := by
  by_cases c4 : k = 4
  · subst c4
    exact congrArg Prod.fst (gx6_o4 (fun q => h (by simp [q])))
  exact congrArg Prod.fst (congrFun (gx6_e ⟨c4, trivial⟩) i)
end GX5
section PMS
variable {A : Nat → Prop} {D : va_G} {cy : Nat → ClassId} {g : CWt} {H H1 H2 : Heap}
set_option maxHeartbeats 4000000 in
/-- a firm more -/
theorem PM_firm {nf nt q0 q1 q2 q3 : Nat} (hM : PM A D cy g nf nt H) (hk : ∀ z : Nat, z < H.size → H1[z]? = H[z]?) (h0 : at1 D q0 (.inr (3, [.int 0, .int 0, .int 0, .int 0, .ref q1, .ref q2, .ref q3])) H1) (h1 : at1 D q1 (arI cy 8 (fun _ => -1)) H1) (h2 : at1 D q2 (arI cy 8 (fun _ => -1)) H1) (h3 : at1 D q3 (arI cy 8 (fun _ => 0)) H1) (n0 : H.size ≤ q0) (n1 : H.size ≤ q1) (n2 : H.size ≤ q2) (n3 : H.size ≤ q3) (d1 : q0 ≠ q1) (d2 : q0 ≠ q2) (d3 : q0 ≠ q3) (d4 : q1 ≠ q2) (d5 : q1 ≠ q3) (d6 : q2 ≠ q3) (hA : ∀ z, H.size ≤ z → A z)
    (h14 : at1 D (ga g 14 0) (.inl (cy 2, 6, .inr (.inr (.inr (.inr (va_up (fun j => if j < nf then some (ga g 0 j) else none) nf (some q0))))))) H2) (hk2 : ∀ z : Nat, z ≠ ga g 14 0 → H2[z]? = H1[z]?) : PM A D cy (gx5 g nf q0 q1 q2 q3) (nf + 1) nt H2 := by
  obtain ⟨m1, m2, m3⟩ := hM
  have hlt : ∀ k i, pval nf nt k i → ga g k i < H.size := fun k i hv => (m1 k i hv).lt
  have hkeep : ∀ k i, pval nf nt k i → k ≠ 14 → at1 D (ga g k i) (pcell cy g nf nt k i) H2 := fun k i hv hn => ((m1 k i hv).kept (hk _ (hlt k i hv))).kept (hk2 _ (fun h => hn (m3 k i 14 0 hv rfl h).1))
  have l14 := hlt 14 0 rfl
  have knew : ∀ (z : Nat) (E : va_E), at1 D z E H1 → H.size ≤ z → at1 D z E H2 := fun z E hz hn => hz.kept (hk2 z (by omega))
  have hval2 : ∀ k i, pval (nf + 1) nt k i → ¬ ((k = 0 ∧ i = nf) ∨ (k = 1 ∧ i = nf) ∨ (k = 2 ∧ i = nf) ∨ (k = 3 ∧ i = nf)) → pval nf nt k i := by
    intro k i hv hx
    match k, hv, hx with
    | 0, hv, hx => have h1 : i < nf + 1 := hv; have h2 : i ≠ nf := fun h => hx (by simp [h]); show i < nf; omega
    | 1, hv, hx => have h1 : i < nf + 1 := hv; have h2 : i ≠ nf := fun h => hx (by simp [h]); show i < nf; omega
    | 2, hv, hx => have h1 : i < nf + 1 := hv; have h2 : i ≠ nf := fun h => hx (by simp [h]); show i < nf; omega
    | 3, hv, hx => have h1 : i < nf + 1 := hv; have h2 : i ≠ nf := fun h => hx (by simp [h]); show i < nf; omega
    | 4, hv, _ => exact hv
    | 12, hv, _ => exact hv
    | 14, hv, _ => exact hv
    | 15, hv, _ => exact hv
    | 16, hv, _ => exact hv
    | 17, hv, _ => exact hv
    | 18, hv, _ => exact hv
    | 5, hv, _ => exact hv.elim
    | 6, hv, _ => exact hv.elim
    | 7, hv, _ => exact hv.elim
    | 8, hv, _ => exact hv.elim
    | 9, hv, _ => exact hv.elim
    | 10, hv, _ => exact hv.elim
    | 11, hv, _ => exact hv.elim
    | 13, hv, _ => exact hv.elim
    | x + 19, hv, _ => exact hv.elim
  have hold : ∀ k i, pval nf nt k i → ga (gx5 g nf q0 q1 q2 q3) k i = ga g k i := by
    intro k i hv
    refine gx5_ga ?_
    rintro (⟨rfl, rfl⟩ | ⟨rfl, rfl⟩ | ⟨rfl, rfl⟩ | ⟨rfl, rfl⟩) <;> exact absurd hv (Nat.lt_irrefl _)
  have e0 : ga (gx5 g nf q0 q1 q2 q3) 0 nf = q0 := congrArg Prod.fst gx5_n0
  have e1 : ga (gx5 g nf q0 q1 q2 q3) 1 nf = q1 := congrArg Prod.fst gx5_n1
  have e2 : ga (gx5 g nf q0 q1 q2 q3) 2 nf = q2 := congrArg Prod.fst gx5_n2
  have e3 : ga (gx5 g nf q0 q1 q2 q3) 3 nf = q3 := congrArg Prod.fst gx5_n3
  refine ⟨fun k i hv => ?_, fun k i hv => ?_, fun k i k' i' hv hv' he => ?_⟩
  · match k, hv with
    | 0, hv =>
      by_cases hin : i = nf
      · rw [hin, e0]
        show at1 D q0 (.inr (3, [.int 0, .int 0, .int 0, .int 0, .ref (ga (gx5 g nf q0 q1 q2 q3) 1 nf), .ref (ga (gx5 g nf q0 q1 q2 q3) 2 nf), .ref (ga (gx5 g nf q0 q1 q2 q3) 3 nf)])) H2
        rw [e1, e2, e3]
        exact knew q0 _ h0 n0
      · have hv2 := hval2 0 i hv (by simp [hin])
        rw [hold 0 i hv2]
        have h := hkeep 0 i hv2 (by decide)
        show at1 D (ga g 0 i) (.inr (3, [.int 0, .int 0, .int 0, .int 0, .ref (ga (gx5 g nf q0 q1 q2 q3) 1 i), .ref (ga (gx5 g nf q0 q1 q2 q3) 2 i), .ref (ga (gx5 g nf q0 q1 q2 q3) 3 i)])) H2
        rw [hold 1 i hv2, hold 2 i hv2, hold 3 i hv2]
        exact h
    | 1, hv =>
      by_cases hin : i = nf
      · rw [hin, e1]
        exact knew q1 _ h1 n1
      · have hv2 := hval2 1 i hv (by simp [hin])
        rw [hold 1 i hv2]
        exact hkeep 1 i hv2 (by decide)
    | 2, hv =>
      by_cases hin : i = nf
      · rw [hin, e2]
        exact knew q2 _ h2 n2
      · have hv2 := hval2 2 i hv (by simp [hin])
        rw [hold 2 i hv2]
        exact hkeep 2 i hv2 (by decide)
    | 3, hv =>
      by_cases hin : i = nf
      · rw [hin, e3]
        exact knew q3 _ h3 n3
      · have hv2 := hval2 3 i hv (by simp [hin])
        rw [hold 3 i hv2]
        exact hkeep 3 i hv2 (by decide)
    | 4, hv =>
      rw [hold 4 i hv]
      exact hkeep 4 i hv (by decide)
    | 12, hv =>
      rw [hold 12 i hv]
      exact hkeep 12 i hv (by decide)
    | 16, hv =>
      rw [hold 16 i hv]
      exact hkeep 16 i hv (by decide)
    | 17, hv =>
      rw [hold 17 i hv]
      exact hkeep 17 i hv (by decide)
    | 18, hv =>
      rw [hold 18 i hv]
      exact hkeep 18 i hv (by decide)
    | 15, hv =>
      rw [hold 15 i hv]
      exact hkeep 15 i hv (by decide)
    | 14, hv =>
      obtain rfl : i = 0 := hv
      rw [hold 14 0 rfl]
      refine at_qc (fun j hj => ?_) h14
      show va_up _ nf (some q0) j = if j < nf + 1 then some (ga (gx5 g nf q0 q1 q2 q3) 0 j) else none
      by_cases hjn : j = nf
      · rw [hjn, va_up_self, if_pos (Nat.lt_succ_self _), e0]
      · rw [va_up_ne _ _ hjn]
        by_cases hl : j < nf
        · rw [if_pos hl, if_pos (by omega), hold 0 j hl]
        · rw [if_neg hl, if_neg (by omega)]
    | 5, hv => exact hv.elim
    | 6, hv => exact hv.elim
    | 7, hv => exact hv.elim
    | 8, hv => exact hv.elim
    | 9, hv => exact hv.elim
    | 10, hv => exact hv.elim
    | 11, hv => exact hv.elim
    | 13, hv => exact hv.elim
    | x + 19, hv => exact hv.elim
  · by_cases hx : (k = 0 ∧ i = nf) ∨ (k = 1 ∧ i = nf) ∨ (k = 2 ∧ i = nf) ∨ (k = 3 ∧ i = nf)
    · rcases hx with ⟨rfl, hi⟩ | ⟨rfl, hi⟩ | ⟨rfl, hi⟩ | ⟨rfl, hi⟩ <;> rw [hi]
      · rw [e0]; exact hA _ n0
      · rw [e1]; exact hA _ n1
      · rw [e2]; exact hA _ n2
      · rw [e3]; exact hA _ n3
    · have hv2 := hval2 k i hv hx
      rw [hold k i hv2]
      exact m2 k i hv2
  · have hnew : ∀ k i, pval (nf + 1) nt k i → ((k = 0 ∧ i = nf) ∨ (k = 1 ∧ i = nf) ∨ (k = 2 ∧ i = nf) ∨ (k = 3 ∧ i = nf)) → H.size ≤ ga (gx5 g nf q0 q1 q2 q3) k i := by
      rintro k i _ (⟨rfl, hi⟩ | ⟨rfl, hi⟩ | ⟨rfl, hi⟩ | ⟨rfl, hi⟩) <;> rw [hi]
      · rw [e0]; exact n0
      · rw [e1]; exact n1
      · rw [e2]; exact n2
      · rw [e3]; exact n3
    by_cases hx : (k = 0 ∧ i = nf) ∨ (k = 1 ∧ i = nf) ∨ (k = 2 ∧ i = nf) ∨ (k = 3 ∧ i = nf)
    · by_cases hx' : (k' = 0 ∧ i' = nf) ∨ (k' = 1 ∧ i' = nf) ∨ (k' = 2 ∧ i' = nf) ∨ (k' = 3 ∧ i' = nf)
      · rcases hx with ⟨rfl, hi⟩ | ⟨rfl, hi⟩ | ⟨rfl, hi⟩ | ⟨rfl, hi⟩ <;> rcases hx' with ⟨rfl, hi'⟩ | ⟨rfl, hi'⟩ | ⟨rfl, hi'⟩ | ⟨rfl, hi'⟩ <;> first | exact ⟨rfl, hi.trans hi'.symm⟩ | (exfalso; rw [hi, hi'] at he; simp only [e0, e1, e2, e3] at he; first | exact d1 he | exact d1 he.symm | exact d2 he | exact d2 he.symm | exact d3 he | exact d3 he.symm | exact d4 he | exact d4 he.symm | exact d5 he | exact d5 he.symm | exact d6 he | exact d6 he.symm)
      · have hv2 := hval2 k' i' hv' hx'
        have a := hnew k i hv hx
        have b := hlt k' i' hv2
        rw [he, hold k' i' hv2] at a
        omega
    · have hv2 := hval2 k i hv hx
      by_cases hx' : (k' = 0 ∧ i' = nf) ∨ (k' = 1 ∧ i' = nf) ∨ (k' = 2 ∧ i' = nf) ∨ (k' = 3 ∧ i' = nf)
      · have a := hnew k' i' hv' hx'
        have b := hlt k i hv2
        rw [← he, hold k i hv2] at a
        omega
      · have hv3 := hval2 k' i' hv' hx'
        rw [hold k i hv2, hold k' i' hv3] at he
        exact m3 k i k' i' hv2 hv3 he

set_option maxHeartbeats 4000000 in
/-- a teller more -/
theorem PM_teller {nf nt q0 : Nat} (hM : PM A D cy g nf nt H) (hk : ∀ z : Nat, z < H.size → H1[z]? = H[z]?) (h0 : at1 D q0 (.inr (7, [.int 0, .int 0, .int (-1), .int 0, .int 0, .int 0, .int 0])) H1) (n0 : H.size ≤ q0) (hA : ∀ z, H.size ≤ z → A z)
    (h15 : at1 D (ga g 15 0) (.inl (cy 3, 8, .inr (.inr (.inr (.inr (va_up (fun j => if j < nt then some (ga g 4 j) else none) nt (some q0))))))) H2) (hk2 : ∀ z : Nat, z ≠ ga g 15 0 → H2[z]? = H1[z]?) : PM A D cy (gx6 g nt q0) nf (nt + 1) H2 := by
  obtain ⟨m1, m2, m3⟩ := hM
  have hlt : ∀ k i, pval nf nt k i → ga g k i < H.size := fun k i hv => (m1 k i hv).lt
  have hkeep : ∀ k i, pval nf nt k i → k ≠ 15 → at1 D (ga g k i) (pcell cy g nf nt k i) H2 := fun k i hv hn => ((m1 k i hv).kept (hk _ (hlt k i hv))).kept (hk2 _ (fun h => hn (m3 k i 15 0 hv rfl h).1))
  have l15 := hlt 15 0 rfl
  have hval2 : ∀ k i, pval nf (nt + 1) k i → ¬ (k = 4 ∧ i = nt) → pval nf nt k i := by
    intro k i hv hx
    match k, hv, hx with
    | 0, hv, _ => exact hv
    | 1, hv, _ => exact hv
    | 2, hv, _ => exact hv
    | 3, hv, _ => exact hv
    | 4, hv, hx => have h1 : i < nt + 1 := hv; have h2 : i ≠ nt := fun h => hx (by simp [h]); show i < nt; omega
    | 12, hv, _ => exact hv
    | 14, hv, _ => exact hv
    | 15, hv, _ => exact hv
    | 16, hv, _ => exact hv
    | 17, hv, _ => exact hv
    | 18, hv, _ => exact hv
    | 5, hv, _ => exact hv.elim
    | 6, hv, _ => exact hv.elim
    | 7, hv, _ => exact hv.elim
    | 8, hv, _ => exact hv.elim
    | 9, hv, _ => exact hv.elim
    | 10, hv, _ => exact hv.elim
    | 11, hv, _ => exact hv.elim
    | 13, hv, _ => exact hv.elim
    | x + 19, hv, _ => exact hv.elim
  have hold : ∀ k i, pval nf nt k i → ga (gx6 g nt q0) k i = ga g k i := by
    intro k i hv
    refine gx6_ga ?_
    rintro ⟨rfl, rfl⟩
    exact absurd hv (Nat.lt_irrefl _)
  have e0 : ga (gx6 g nt q0) 4 nt = q0 := congrArg Prod.fst gx6_n4
  refine ⟨fun k i hv => ?_, fun k i hv => ?_, fun k i k' i' hv hv' he => ?_⟩
  · match k, hv with
    | 4, hv =>
      by_cases hin : i = nt
      · rw [hin, e0]
        exact h0.kept (hk2 q0 (by omega))
      · have hv2 := hval2 4 i hv (by simp [hin])
        rw [hold 4 i hv2]
        exact hkeep 4 i hv2 (by decide)
    | 0, hv =>
      rw [hold 0 i hv]
      exact hkeep 0 i hv (by decide)
    | 1, hv =>
      rw [hold 1 i hv]
      exact hkeep 1 i hv (by decide)
    | 2, hv =>
      rw [hold 2 i hv]
      exact hkeep 2 i hv (by decide)
    | 3, hv =>
      rw [hold 3 i hv]
      exact hkeep 3 i hv (by decide)
    | 12, hv =>
      rw [hold 12 i hv]
      exact hkeep 12 i hv (by decide)
    | 14, hv =>
      rw [hold 14 i hv]
      exact hkeep 14 i hv (by decide)
    | 16, hv =>
      rw [hold 16 i hv]
      exact hkeep 16 i hv (by decide)
    | 17, hv =>
      rw [hold 17 i hv]
      exact hkeep 17 i hv (by decide)
    | 18, hv =>
      rw [hold 18 i hv]
      exact hkeep 18 i hv (by decide)
    | 15, hv =>
      obtain rfl : i = 0 := hv
      rw [hold 15 0 rfl]
      refine at_qc (fun j hj => ?_) h15
      show va_up _ nt (some q0) j = if j < nt + 1 then some (ga (gx6 g nt q0) 4 j) else none
      by_cases hjn : j = nt
      · rw [hjn, va_up_self, if_pos (Nat.lt_succ_self _), e0]
      · rw [va_up_ne _ _ hjn]
        by_cases hl : j < nt
        · rw [if_pos hl, if_pos (by omega), hold 4 j hl]
        · rw [if_neg hl, if_neg (by omega)]
    | 5, hv => exact hv.elim
    | 6, hv => exact hv.elim
    | 7, hv => exact hv.elim
    | 8, hv => exact hv.elim
    | 9, hv => exact hv.elim
    | 10, hv => exact hv.elim
    | 11, hv => exact hv.elim
    | 13, hv => exact hv.elim
    | x + 19, hv => exact hv.elim
  · by_cases hx : k = 4 ∧ i = nt
    · obtain ⟨rfl, hi⟩ := hx
      rw [hi, e0]; exact hA _ n0
    · have hv2 := hval2 k i hv hx
      rw [hold k i hv2]
      exact m2 k i hv2
  · by_cases hx : k = 4 ∧ i = nt
    · by_cases hx' : k' = 4 ∧ i' = nt
      · exact ⟨hx.1.trans hx'.1.symm, hx.2.trans hx'.2.symm⟩
      · have hv2 := hval2 k' i' hv' hx'
        have b := hlt k' i' hv2
        rw [hx.1, hx.2, e0, hold k' i' hv2] at he
        omega
    · have hv2 := hval2 k i hv hx
      by_cases hx' : k' = 4 ∧ i' = nt
      · have b := hlt k i hv2
        rw [hx'.1, hx'.2, e0, hold k i hv2] at he
        omega
      · have hv3 := hval2 k' i' hv' hx'
        rw [hold k i hv2, hold k' i' hv3] at he
        exact m3 k i k' i' hv2 hv3 he
end PMS

