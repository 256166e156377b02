/-! an element added to one of the class's lists, cell by cell -/
section RAD
variable {p : Program} {l : Launch} {e : Env} {R : Room} {s : State} {m : MethodId} {args : Array Value} {below : List Frame} {meth : Method} {c : Code} {H : Heap} {locs : List Loc} {cells slots : Nat} {Q : State → Prop}
variable {cc : ByteArray} {pc nL : Nat} {ls : Array Slot} {rest : List Value} {D : va_G} {cy : Nat → ClassId} {A : Nat → Prop} {Ts : List Cond} {own : String} {bytes : ByteArray} {maxL index e0 mi : Nat} {ret : Option FieldType}
/-- what adding finds, at the caller's heap -/
theorem ra_pre {W : va_W} {P : Nat → Prop} (hJ : JX A D cy e0 mi s s.heap) (hS : va_S A s.heap H locs) (hA : ∀ q, s.heap.size ≤ q → A q) (hP : va_P D vwCl W H) (hD : va_D A W) (hE : ∀ y, P y → va_Any "java/lang/Object" s H y ∧ ∀ (k : Nat) (q : Nat × va_E), W[k]? = some q → y ≠ q.1) (av : List Value) : ∀ U : State, U.heap = H → s.WarmedH U.vm → va_Pc av (ADp D cy e0 mi W P H.size) av.toArray U := by
  intro U hU hW
  refine ⟨rfl, by rw [hU], by rw [hU]; exact hP, ?_, hD.weaken (fun _ _ _ _ => trivial), fun y hy => ⟨by rw [hU]; exact va_Any.moved hW.alike (hE y hy).1, (hE y hy).2⟩⟩
  rw [hU]
  refine JX.moved hW.alike (JX.narrow (JX.kept hJ hS.2.1) ?_)
  rintro q (⟨k, e, h⟩ | h)
  · exact hD.2 k _ h
  · exact hA q (Nat.le_trans hS.1 h)
theorem va_D1 {a : Nat} {E : va_E} (ha : A a) : va_D A [(a, E)] := by
  refine ⟨fun i j p q hp hq _ => ?_, fun k q hq => ?_⟩
  · match i, j, hp, hq with
    | 0, 0, _, _ => rfl
    | 0, j + 1, _, hq => simp at hq
    | i + 1, _, hp, _ => simp at hp
  · match k, hq with
    | 0, hq => cases hq; exact ha
    | k + 1, hq => simp at hq
theorem va_D2 {a b : Nat} {E F : va_E} (ha : A a) (hb : A b) (hn : a ≠ b) : va_D A [(a, E), (b, F)] := by
  refine ⟨fun i j p q hp hq hpq => ?_, fun k q hq => ?_⟩
  · match i, j, hp, hq with
    | 0, 0, _, _ => rfl
    | 1, 1, _, _ => rfl
    | 0, 1, hp, hq => cases hp; cases hq; exact absurd hpq hn
    | 1, 0, hp, hq => cases hp; cases hq; exact absurd hpq.symm hn
    | 0, j + 2, _, hq => simp at hq
    | 1, j + 2, _, hq => simp at hq
    | i + 2, _, hp, _ => simp at hp
  · match k, hq with
    | 0, hq => cases hq; exact ha
    | 1, hq => cases hq; exact hb
    | k + 2, hq => simp at hq
theorem w1_ne {a y : Nat} {E : va_E} (h : y ≠ a) : ∀ (k : Nat) (q : Nat × va_E), [(a, E)][k]? = some q → y ≠ q.1 := by
  intro k q hq
  match k, hq with
  | 0, hq => cases hq; exact h
  | k + 1, hq => simp at hq
theorem w2_ne {a b y : Nat} {E F : va_E} (h : y ≠ a) (h2 : y ≠ b) : ∀ (k : Nat) (q : Nat × va_E), [(a, E), (b, F)][k]? = some q → y ≠ q.1 := by
  intro k q hq
  match k, hq with
  | 0, hq => cases hq; exact h
  | 1, hq => cases hq; exact h2
  | k + 2, hq => simp at hq
theorem w1_A {a z sz : Nat} {E : va_E} (h : ¬ va_A [(a, E)] sz z) : z ≠ a ∧ z < sz := ⟨fun q => h (Or.inl ⟨0, E, by rw [q]; rfl⟩), Nat.lt_of_not_le fun q => h (Or.inr q)⟩
theorem w1_nA {a z sz : Nat} {E : va_E} (h : z ≠ a) (h2 : z < sz) : ¬ va_A [(a, E)] sz z := by
  rintro (⟨k, E2, hk⟩ | hk)
  · exact w1_ne h k _ hk rfl
  · omega
theorem w2_nA {a b z sz : Nat} {E F : va_E} (h : z ≠ a) (h3 : z ≠ b) (h2 : z < sz) : ¬ va_A [(a, E), (b, F)] sz z := by
  rintro (⟨k, E2, hk⟩ | hk)
  · exact w2_ne h h3 k _ hk rfl
  · omega
theorem va_AA {W : va_W} (hD : va_D A W) (hS : va_S A s.heap H locs) (hA : ∀ q, s.heap.size ≤ q → A q) : ∀ q, va_A W H.size q → A q := by
  rintro q (⟨k, e, h⟩ | h)
  · exact hD.2 k _ h
  · exact hA q (Nat.le_trans hS.1 h)
/-- list.add(q) -/
theorem ra_add (hC : CC p s m args c cc nL own D cy Ts) (hJ : JX A D cy e0 mi s s.heap) (hS : va_S A s.heap H locs) (hA : ∀ q, s.heap.size ≤ q → A q) {a ea q n cap : Nat} {md : Int32} {f : Nat → Option Nat} (hl : at1 D a (alC md ea (nI n)) H) (hAa : A a) (h0 : n = 0 → ea = e0) (h1 : 0 < n → at1 D ea (arO cy cap f) H ∧ n ≤ cap ∧ 2 ≤ cap ∧ cap ≤ 150 ∧ a ≠ ea ∧ A ea) (hn : n ≤ 100) (hels : ∀ i y, i < n → f i = some y → va_Any "java/lang/Object" s H y ∧ y ≠ a ∧ y ≠ ea) (hq : va_Any "java/lang/Object" s H q) (hqa : q ≠ a) (hqe : 0 < n → q ≠ ea)
    (cwR : CallW R s args own RJx4a65c index yJx4a65c_add_9ea2d bytes maxL ret wsJx4a65c_add_9ea2d ({ frames := 1, cells := 1, slots := 150, locals := 23 } : Room) 1 150 1) (cwA : CallW R s args own RJx4a65c index yJx4a65c_add_9ea2d bytes maxL ret wsJx4a65c_add_9ea2d ({ frames := 6, cells := 1, slots := 150, locals := 150 } : Room) 1 150 1) (cw0 : CallW R s args own RJx4a65c index yJx4a65c_add_9ea2d bytes maxL ret wsJx4a65c_add_9ea2d ({ frames := 4, cells := 1, slots := 150, locals := 126 } : Room) 1 150 1)
    (hsize : ls.size = nL) (hr : (rest.map fun v => v.category).sum ≤ 8) (hdg : decode cc pc = .ok (.invokevirtual index, 3)) (hf : cells + 1 ≤ R.cells ∧ slots + 150 ≤ R.slots)
    (kk : ∀ (md' : Int32) (ra cap' : Nat) (f' : Nat → Option Nat) (H1 : Heap) (locs1 : List Loc), at1 D a (alC md' ra (nI (n + 1))) H1 → at1 D ra (arO cy cap' f') H1 → (n + 1 ≤ cap' ∧ 2 ≤ cap' ∧ cap' ≤ 150) → (∀ j, j < n → f' j = f j) → f' n = some q → a ≠ ra → A ra → ((0 < n ∧ ra = ea) ∨ H.size ≤ ra) → (∀ z : Nat, z < H.size → z ≠ a → (0 < n → z ≠ ea) → H1[z]? = H[z]?) → H.size ≤ H1.size → va_S A s.heap H1 locs1 → W p l e R s m args below meth c H1 locs1 (cells + 1) (slots + 150) Q (F0 m (pc + 3) ls (.int 1 :: rest))) : W p l e R s m args below meth c H locs cells slots Q (F0 m pc ls (.ref q :: .ref a :: rest)) := by
  rcases Nat.eq_zero_or_pos n with hz | hp
  · subst hz
    obtain rfl := h0 rfl
    have hD : va_D A [(a, alC md ea (nI 0))] := va_D1 hAa
    have hP := p1 (cl := vwCl) hl
    refine va_calli (va_runV (As := [.ref q]) (rest := rest) hC.1 (qAD0 l D cy ea mi a q H.size md (fun y => y = q) rfl) cw0 ⟨AD_blind, va_recv hC.2 hP (ci := 0) (q0 := 0) rfl rfl, ra_pre hJ hS hA hP hD (fun y hy => by subst hy; exact ⟨hq, w1_ne hqa⟩) _⟩ rfl rfl hsize rfl (lv_room hr) hdg hf) hS (fun q _ h => va_AA hD hS hA q h) (va_AA hD hS hA) (fun r u t H1 locs1 ht hvm hw hB hz1 hk1 hS1 => ?_)
    obtain ⟨rfl, w1, w2, w3, w4⟩ := hw
    obtain ⟨hB, hD2⟩ := hB
    rw [ht] at hB
    have hra := hD2.2 1 _ rfl
    have hne : a ≠ u.2.1 := fun h => absurd (hD2.1 0 1 _ _ rfl rfl h) (by decide)
    refine kk u.1 u.2.1 u.2.2.1 u.2.2.2 H1 locs1 (hB 0 _ rfl) (hB 1 _ rfl) ⟨w1, w2, w3⟩ (fun j hj => absurd hj (Nat.not_lt_zero j)) w4 hne (va_AA hD hS hA _ hra) (Or.inr ?_) (fun z hz hza _ => hk1 z hz (w1_nA hza hz)) hz1 hS1
    exact Decidable.byContradiction fun h => w1_nA (Ne.symm hne) (Nat.lt_of_not_le h) hra
  · obtain ⟨ha, hcap, h2c, h150, hae, hAe⟩ := h1 hp
    have hD : va_D A [(a, alC md ea (nI n)), (ea, arO cy cap f)] := va_D2 hAa hAe hae
    have hP := p2 (cl := vwCl) hl ha
    have hE : ∀ y, (y = q ∨ ∃ i, i < n ∧ f i = some y) → va_Any "java/lang/Object" s H y ∧ ∀ (k : Nat) (x : Nat × va_E), [(a, alC md ea (nI n)), (ea, arO cy cap f)][k]? = some x → y ≠ x.1 := by
      rintro y (rfl | ⟨i, hi, hy⟩)
      · exact ⟨hq, w2_ne hqa (hqe hp)⟩
      · obtain ⟨g1, g2, g3⟩ := hels i y hi hy
        exact ⟨g1, w2_ne g2 g3⟩
    rcases Nat.lt_or_ge n cap with hlt | hge
    · refine va_calli (va_runV (As := [.ref q]) (rest := rest) hC.1 (qADR l D cy e0 mi a ea n cap q H.size md f (fun y => y = q ∨ ∃ i, i < n ∧ f i = some y) hlt h2c h150 (Or.inl rfl)) cwR ⟨AD_blind, va_recv hC.2 hP (ci := 0) (q0 := 0) rfl rfl, ra_pre hJ hS hA hP hD hE _⟩ rfl rfl hsize rfl (lv_room hr) hdg hf) hS (fun q _ h => va_AA hD hS hA q h) (va_AA hD hS hA) (fun r u t H1 locs1 ht hvm hw hB hz1 hk1 hS1 => ?_)
      obtain ⟨rfl, w1, w2, w3, w5, w4⟩ := hw
      obtain ⟨hB, hD2⟩ := hB
      rw [ht] at hB
      have hra := hD2.2 1 _ rfl
      have hne : a ≠ u.2.1 := fun h => absurd (hD2.1 0 1 _ _ rfl rfl h) (by decide)
      refine kk u.1 u.2.1 u.2.2.1 u.2.2.2 H1 locs1 (hB 0 _ rfl) (hB 1 _ rfl) ⟨w1, w2, w3⟩ w5 w4 hne (va_AA hD hS hA _ hra) ?_ (fun z hz hza hze => hk1 z hz (w2_nA hza (hze hp) hz)) hz1 hS1
      by_cases he : u.2.1 = ea
      · exact Or.inl ⟨hp, he⟩
      · exact Or.inr (Decidable.byContradiction fun h => w2_nA (Ne.symm hne) he (Nat.lt_of_not_le h) hra)
    · obtain rfl : n = cap := Nat.le_antisymm hcap hge
      refine va_calli (va_runV (As := [.ref q]) (rest := rest) hC.1 (qADA l D cy e0 mi a ea n q H.size md f (fun y => y = q ∨ ∃ i, i < n ∧ f i = some y) h2c hn (fun i y hi hy => Or.inr ⟨i, hi, hy⟩) (Or.inl rfl)) cwA ⟨AD_blind, va_recv hC.2 hP (ci := 0) (q0 := 0) rfl rfl, ra_pre hJ hS hA hP hD hE _⟩ rfl rfl hsize rfl (lv_room hr) hdg hf) hS (fun q _ h => va_AA hD hS hA q h) (va_AA hD hS hA) (fun r u t H1 locs1 ht hvm hw hB hz1 hk1 hS1 => ?_)
      obtain ⟨rfl, w1, w2, w3, w5, w4⟩ := hw
      obtain ⟨hB, hD2⟩ := hB
      rw [ht] at hB
      have hra := hD2.2 1 _ rfl
      have hne : a ≠ u.2.1 := fun h => absurd (hD2.1 0 1 _ _ rfl rfl h) (by decide)
      refine kk u.1 u.2.1 u.2.2.1 u.2.2.2 H1 locs1 (hB 0 _ rfl) (hB 1 _ rfl) ⟨w1, w2, w3⟩ w5 w4 hne (va_AA hD hS hA _ hra) ?_ (fun z hz hza hze => hk1 z hz (w2_nA hza (hze hp) hz)) hz1 hS1
      by_cases he : u.2.1 = ea
      · exact Or.inl ⟨hp, he⟩
      · exact Or.inr (Decidable.byContradiction fun h => w2_nA (Ne.symm hne) he (Nat.lt_of_not_le h) hra)
end RAD
