/-! papers of the class and amendments of the reference: the day on which a suit covers a scheme is one -/
def set16 (x : Int32) : Prop := ∃ n, n < 65536 ∧ x = nI n
def sub16 (a b : Int32) : Prop := ∃ m n, m < 65536 ∧ n < 65536 ∧ a = nI m ∧ b = nI n ∧ ∀ j, m.testBit j = true → n.testBit j = true
theorem and_lt {a b : Nat} (h : a < 65536) : a &&& b < 65536 := Nat.lt_of_le_of_lt Nat.and_le_left h
theorem half_eq {S : St} {a : Nat} {x : Int32} (h9 : set16 (S 9 a)) (hx : set16 x) : fX4_hasHalfIn S a x = fX8_isHalf S x a := by
  obtain ⟨f, hf, e9⟩ := h9
  obtain ⟨o, ho, rfl⟩ := hx
  unfold fX4_hasHalfIn fX8_isHalf
  rw [e9, nI_and, nI_and, Nat.and_comm o f, fbc_bits (and_lt hf), fbc_bits hf]
theorem half_n {S : St} {a f o : Nat} (e9 : S 9 a = nI f) (hf : f < 65536) (ho : o < 65536) : fX8_isHalf S (nI o) a = if 2 * nbits (o &&& f) 16 < nbits f 16 then 0 else 1 := by
  have l1 := nbits_le (o &&& f) 16
  have l2 := nbits_le f 16
  unfold fX8_isHalf
  rw [e9, nI_and, bits_nat (and_lt ho), bits_nat hf, show (2 : Int32) = nI 2 by decide, pk_mul]
  by_cases h : 2 * nbits (o &&& f) 16 < nbits f 16
  · rw [if_pos h, if_pos (nI_lt h (by omega))]
  · rw [if_neg h, if_neg (nI_nlt (by omega) (by omega))]
theorem half_mono {S : St} {a : Nat} {x y : Int32} (h9 : set16 (S 9 a)) (h : sub16 x y) (hx : ¬ fX8_isHalf S x a = 0) : ¬ fX8_isHalf S y a = 0 := by
  obtain ⟨f, hf, e9⟩ := h9
  obtain ⟨m, n, hm, hn, rfl, rfl, hs⟩ := h
  rw [half_n e9 hf hm] at hx
  rw [half_n e9 hf hn]
  have hle := nbits_mono (a := m &&& f) (b := n &&& f) (fun j hj => by
    rw [Nat.testBit_and, Bool.and_eq_true] at hj ⊢
    exact ⟨hs j hj.1, hj.2⟩) 16
  by_cases h1 : 2 * nbits (m &&& f) 16 < nbits f 16
  · rw [if_pos h1] at hx
    exact absurd rfl hx
  · rw [if_neg (by omega)]
    decide
theorem half_none {S : St} {a : Nat} {x : Int32} (h9 : ∃ f, 0 < f ∧ f < 65536 ∧ S 9 a = nI f) (hx : set16 x) (h0 : x &&& S 9 a = 0) : fX8_isHalf S x a = 0 := by
  obtain ⟨f, hp, hf, e9⟩ := h9
  obtain ⟨m, hm, rfl⟩ := hx
  rw [half_n e9 hf hm]
  rw [e9, nI_and, show (0 : Int32) = nI 0 by decide, nI_eq (Nat.lt_trans (and_lt hm) (by decide)) (by decide)] at h0
  rw [h0, nbits_zero, if_pos]
  have := nbits_pos (n := f) (by omega) hf
  omega
/-- how many of the first m amendments are of suit k -/
def acnt (S : St) (k : Nat) : Nat → Nat
  | 0 => 0
  | m + 1 => acnt S k m + (if S 43 m = nI k then 1 else 0)
theorem acnt_le (S : St) (k : Nat) : ∀ m, acnt S k m ≤ m := by
  intro m
  induction m with
  | zero => exact Nat.le_refl _
  | succ m ih =>
    show acnt S k m + _ ≤ m + 1
    split <;> omega
theorem acnt_mono (S : St) (k : Nat) : ∀ m d, acnt S k m ≤ acnt S k (m + d) := by
  intro m d
  induction d with
  | zero => exact Nat.le_refl _
  | succ d ih =>
    show acnt S k m ≤ acnt S k (m + d) + _
    omega
/-- the papers of suit k -/
def PK (S : St) (k : Nat) : Prop := npp S k = 1 + acnt S k (nam S) ∧ S 65 (64 * k) = S 31 k ∧ S 66 (64 * k) = S 33 k ∧ (∀ i, i < nam S → S 43 i = nI k → S 65 (64 * k + (1 + acnt S k i)) = S 44 i ∧ S 66 (64 * k + (1 + acnt S k i)) = S 45 i) ∧ (∀ j, j < npp S k → sub16 (S 65 (64 * k + j)) (S 32 k)) ∧ S 65 (64 * k + (npp S k - 1)) = S 32 k
def SK (S : St) (a : Nat) : Prop := ∃ f, 0 < f ∧ f < 65536 ∧ S 9 a = nI f
theorem SK.s {S : St} {a : Nat} (h : SK S a) : set16 (S 9 a) := by
  obtain ⟨f, _, h2, h3⟩ := h
  exact ⟨f, h2, h3⟩
theorem sub16.l {x y : Int32} (h : sub16 x y) : set16 x := by
  obtain ⟨m, n, h1, _, h3, _⟩ := h
  exact ⟨m, h1, h3⟩
/-- no paper from j on has half: the class finds none -/
theorem cov_none {S : St} {k a : Nat} : ∀ r j, (∀ j2, j ≤ j2 → j2 < j + r → fX4_hasHalfIn S a (S 65 (64 * k + j2)) = 0) → rX5_coverDay_33 S k a r j = -1 ∧ rX5_coverDay_33_v2 S k a r j = -1 := by
  intro r
  induction r with
  | zero => exact fun j _ => ⟨rfl, rfl⟩
  | succ r ih =>
    intro j h
    have h0 := h j (Nat.le_refl _) (by omega)
    have h1 := ih (j + 1) (fun j2 q1 q2 => h j2 (by omega) (by omega))
    rw [rX5_coverDay_33_s, rX5_coverDay_33_v2_s, if_pos h0, if_pos h0]
    exact h1
/-- some paper has half: the second way gives the filing day -/
theorem cov_some {S : St} {k a : Nat} : ∀ r j, (∃ j2, j ≤ j2 ∧ j2 < j + r ∧ ¬ fX4_hasHalfIn S a (S 65 (64 * k + j2)) = 0) → rX5_coverDay_33_v2 S k a r j = S 33 k := by
  intro r
  induction r with
  | zero => rintro j ⟨j2, h1, h2, _⟩; omega
  | succ r ih =>
    rintro j ⟨j2, h1, h2, h3⟩
    rw [rX5_coverDay_33_v2_s]
    by_cases h0 : fX4_hasHalfIn S a (S 65 (64 * k + j)) = 0
    · rw [if_pos h0]
      exact ih (j + 1) ⟨j2, by rcases Nat.eq_or_lt_of_le h1 with q | q; exact absurd (q ▸ h0) h3; exact q, by omega, h3⟩
    · rw [if_neg h0]
/-- the class's papers from an amendment on are the reference's amendments -/
theorem cov_walk {S : St} {k a : Nat} (hP : PK S k) (h9 : set16 (S 9 a)) : ∀ r i, i + r = nam S → rX5_coverDay_33 S k a (npp S k - (1 + acnt S k i)) (1 + acnt S k i) = rX8_dayOf_56 S k a r i := by
  intro r
  induction r with
  | zero =>
    intro i hi
    rw [hP.1, show i = nam S by omega, Nat.sub_self]
    rfl
  | succ r ih =>
    intro i hi
    have hii : i < nam S := by omega
    rw [rX8_dayOf_56_s]
    have hs : acnt S k (i + 1) = acnt S k i + (if S 43 i = nI k then 1 else 0) := rfl
    by_cases hk : S 43 i = nI k
    · rw [if_pos hk] at hs
      rw [if_pos hk]
      obtain ⟨e1, e2⟩ := hP.2.2.2.1 i hii hk
      have hm := acnt_mono S k (i + 1) r
      rw [show i + 1 + r = nam S by omega] at hm
      have hj : 1 + acnt S k i < npp S k := by rw [hP.1]; omega
      have hsub := hP.2.2.2.2.1 _ hj
      rw [show npp S k - (1 + acnt S k i) = (npp S k - (1 + acnt S k (i + 1))) + 1 by omega, rX5_coverDay_33_s, half_eq h9 hsub.l, e1, e2, show 1 + acnt S k i + 1 = 1 + acnt S k (i + 1) by omega]
      have h2 := ih (i + 1) (by omega)
      rw [h2]
    · rw [if_neg hk] at hs
      rw [if_neg hk]
      have h2 := ih (i + 1) (by omega)
      rw [hs, Nat.add_zero] at h2
      exact h2
theorem cover_eq {S : St} {k a : Nat} (hP : PK S k) (h9 : SK S a) : fX5_coverDay S k a = fX8_dayOf S k a := by
  have hs9 := h9.s
  have hn : 0 < npp S k := by rw [hP.1]; omega
  have hlast := hP.2.2.2.2.2
  have hsub := hP.2.2.2.2.1
  unfold fX5_coverDay fX8_dayOf
  by_cases h30 : S 30 k = S 8 a
  · rw [if_pos h30, if_pos h30]
    by_cases hh : fX8_isHalf S (S 32 k) a = 0
    · rw [if_pos hh]
      have hall : ∀ j2, 0 ≤ j2 → j2 < 0 + npp S k → fX4_hasHalfIn S a (S 65 (64 * k + j2)) = 0 := by
        intro j2 _ hj
        have q := hsub j2 (by omega)
        rw [half_eq hs9 q.l]
        exact Decidable.byContradiction fun h => half_mono hs9 q h hh
      obtain ⟨c1, c2⟩ := cov_none (npp S k) 0 hall
      rw [c1, c2]
      split <;> rfl
    · rw [if_neg hh]
      by_cases hb : (S 31 k &&& S 9 a) = 0
      · rw [if_pos hb, if_pos hb]
        have q0 := hsub 0 hn
        have e0 : S 65 (64 * k + 0) = S 31 k := hP.2.1
        have h0 : fX4_hasHalfIn S a (S 65 (64 * k + 0)) = 0 := by
          rw [half_eq hs9 q0.l, e0]
          exact half_none h9 (e0 ▸ q0.l) hb
        have e1 : npp S k = (npp S k - (1 + acnt S k 0)) + 1 := by show npp S k = (npp S k - (1 + 0)) + 1; omega
        rw [show rX5_coverDay_33 S k a (npp S k) 0 = rX5_coverDay_33 S k a ((npp S k - (1 + acnt S k 0)) + 1) 0 by rw [← e1], rX5_coverDay_33_s, if_pos h0]
        exact cov_walk hP hs9 (nam S) 0 (by omega)
      · rw [if_neg hb, if_neg hb]
        refine cov_some (npp S k) 0 ⟨npp S k - 1, Nat.zero_le _, by omega, ?_⟩
        have q := hsub (npp S k - 1) (by omega)
        rw [half_eq hs9 q.l, hlast]
        exact hh
  · rw [if_neg h30, if_neg h30]
