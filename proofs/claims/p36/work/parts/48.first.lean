/-! the first anew: days of papers in their order, the lowest suit of a day -/
def PD (S : St) : Prop := (∀ i j, i < j → j < npd S → S 63 i < S 63 j) ∧ (∀ i, i < npd S → ¬ S 63 i = -1) ∧ ∀ k, k < nsu S → ∀ j, j < npp S k → ∃ i, i < npd S ∧ S 63 i = S 66 (64 * k + j)
def Elig (S : St) (a k : Nat) : Prop := ¬ S 34 k = 3 ∧ ¬ fX8_dayOf S k a = -1
def FOs (S : St) (a n : Nat) (x : Int32) : Prop := (x = -1 ∧ ∀ i, i < n → ¬ Elig S a i) ∨ ∃ k, k < n ∧ x = nI k ∧ Elig S a k ∧ ∀ i, i < n → Elig S a i → (fX8_dayOf S k a).toInt ≤ (fX8_dayOf S i a).toInt ∧ (fX8_dayOf S i a = fX8_dayOf S k a → k ≤ i)
theorem i32_le {x y : Int32} : x ≤ y ↔ x.toInt ≤ y.toInt := Int32.le_iff_toInt_le
theorem fo_first {S : St} {a : Nat} (hb : nsu S ≤ 12) : FOs S a (nsu S) (fX8_firstOf S a) := by
  have key : ∀ n, n ≤ nsu S → FOs S a n (lX8_firstOf_4 S a n) := by
    intro n
    induction n with
    | zero => exact fun _ => Or.inl ⟨rfl, fun i hi => absurd hi (Nat.not_lt_zero _)⟩
    | succ n ih =>
      intro hn
      have hx := ih (by omega)
      show FOs S a (n + 1) (iX8_firstOf_4 S a n (lX8_firstOf_4 S a n))
      unfold iX8_firstOf_4
      have skip : ¬ Elig S a n → FOs S a (n + 1) (lX8_firstOf_4 S a n) := by
        intro hne
        rcases hx with ⟨h1, h2⟩ | ⟨k, h1, h2, h3, h4⟩
        · refine Or.inl ⟨h1, fun i hi => ?_⟩
          rcases Nat.lt_or_ge i n with q | q
          · exact h2 i q
          · rw [show i = n by omega]; exact hne
        · refine Or.inr ⟨k, by omega, h2, h3, fun i hi he => ?_⟩
          rcases Nat.lt_or_ge i n with q | q
          · exact h4 i q he
          · rw [show i = n by omega] at he; exact absurd he hne
      by_cases h34 : S 34 n = 3
      · rw [if_pos h34]
        exact skip (fun h => h.1 h34)
      · rw [if_neg h34]
        by_cases hd : fX8_dayOf S n a = -1
        · rw [if_pos hd]
          exact skip (fun h => h.2 hd)
        · rw [if_neg hd]
          have hen : Elig S a n := ⟨h34, hd⟩
          rcases hx with ⟨h1, h2⟩ | ⟨k, h1, h2, h3, h4⟩
          · rw [if_pos h1]
            refine Or.inr ⟨n, by omega, rfl, hen, fun i hi he => ?_⟩
            rcases Nat.lt_or_ge i n with q | q
            · exact absurd he (h2 i q)
            · rw [show i = n by omega]
              exact ⟨Int.le_refl _, fun _ => Nat.le_refl _⟩
          · have hne : ¬ lX8_firstOf_4 S a n = -1 := by rw [h2]; exact nI_ne1 (by omega)
            rw [if_neg hne, show ix (lX8_firstOf_4 S a n) = k by rw [h2]; exact nI_clamp (by omega)]
            by_cases hle : fX8_dayOf S k a ≤ fX8_dayOf S n a
            · rw [if_pos hle]
              refine Or.inr ⟨k, by omega, h2, h3, fun i hi he => ?_⟩
              rcases Nat.lt_or_ge i n with q | q
              · exact h4 i q he
              · rw [show i = n by omega]
                exact ⟨i32_le.mp hle, fun _ => by omega⟩
            · rw [if_neg hle]
              have hlt : (fX8_dayOf S n a).toInt < (fX8_dayOf S k a).toInt := Int.not_le.mp (fun q => hle (i32_le.mpr q))
              refine Or.inr ⟨n, by omega, rfl, hen, fun i hi he => ?_⟩
              rcases Nat.lt_or_ge i n with q | q
              · have := (h4 i q he).1
                refine ⟨by omega, fun e => ?_⟩
                rw [e] at this
                omega
              · rw [show i = n by omega]
                exact ⟨Int.le_refl _, fun _ => Nat.le_refl _⟩
  exact key (nsu S) (Nat.le_refl _)
theorem fo_uniq {S : St} {a n : Nat} {x y : Int32} (h1 : FOs S a n x) (h2 : FOs S a n y) : x = y := by
  rcases h1 with ⟨e1, q1⟩ | ⟨k, a1, a2, a3, a4⟩
  · rcases h2 with ⟨e2, q2⟩ | ⟨k2, b1, b2, b3, b4⟩
    · rw [e1, e2]
    · exact absurd b3 (q1 k2 b1)
  · rcases h2 with ⟨e2, q2⟩ | ⟨k2, b1, b2, b3, b4⟩
    · exact absurd a3 (q2 k a1)
    · have c1 := a4 k2 b1 b3
      have c2 := b4 k a1 a3
      have ed : fX8_dayOf S k2 a = fX8_dayOf S k a := Int32.toInt_inj.mp (by omega)
      have d1 := c1.2 ed
      have d2 := c2.2 ed.symm
      rw [a2, b2, show k = k2 by omega]
/-- a covering day is a paper's day -/
theorem cover_day {S : St} {k a : Nat} (hP : PK S k) (h9 : SK S a) : fX8_dayOf S k a = -1 ∨ ∃ j, j < npp S k ∧ fX8_dayOf S k a = S 66 (64 * k + j) := by
  rw [← cover_eq hP h9]
  have hn : 0 < npp S k := by rw [hP.1]; omega
  have w1 : ∀ r j, j + r = npp S k → rX5_coverDay_33 S k a r j = -1 ∨ ∃ j2, j2 < npp S k ∧ rX5_coverDay_33 S k a r j = S 66 (64 * k + j2) := by
    intro r
    induction r with
    | zero => exact fun j _ => Or.inl rfl
    | succ r ih =>
      intro j hj
      rw [rX5_coverDay_33_s]
      split
      · exact ih (j + 1) (by omega)
      · exact Or.inr ⟨j, by omega, rfl⟩
  have w2 : ∀ r j, rX5_coverDay_33_v2 S k a r j = -1 ∨ rX5_coverDay_33_v2 S k a r j = S 33 k := by
    intro r
    induction r with
    | zero => exact fun j => Or.inl rfl
    | succ r ih =>
      intro j
      rw [rX5_coverDay_33_v2_s]
      split
      · exact ih (j + 1)
      · exact Or.inr rfl
  unfold fX5_coverDay
  split
  · split
    · exact w1 _ 0 (by omega)
    · exact (w2 (npp S k) 0).imp id (fun h => ⟨0, hn, by rw [h]; exact hP.2.2.1.symm⟩)
  · exact Or.inl rfl
/-- the lowest suit that covers from a day -/
theorem lowest_spec {S : St} {a : Nat} {d : Int32} (hP : PKs S) (h9 : SK S a) : ∀ r i, i + r = nsu S → (rX7_lowestCoveringFrom_2 S d a r i = -1 ∧ ∀ k, i ≤ k → k < nsu S → ¬ (¬ S 34 k = 3 ∧ fX8_dayOf S k a = d)) ∨ ∃ k, i ≤ k ∧ k < nsu S ∧ rX7_lowestCoveringFrom_2 S d a r i = nI k ∧ (¬ S 34 k = 3 ∧ fX8_dayOf S k a = d) ∧ ∀ k2, i ≤ k2 → k2 < nsu S → (¬ S 34 k2 = 3 ∧ fX8_dayOf S k2 a = d) → k ≤ k2 := by
  intro r
  induction r with
  | zero => exact fun i hi => Or.inl ⟨rfl, fun k h1 h2 => by omega⟩
  | succ r ih =>
    intro i hi
    have hc := cover_eq (hP i (by omega)) h9
    rw [rX7_lowestCoveringFrom_2_s, hc]
    have skip : ¬ (¬ S 34 i = 3 ∧ fX8_dayOf S i a = d) → (rX7_lowestCoveringFrom_2 S d a r (i + 1) = -1 ∧ ∀ k, i ≤ k → k < nsu S → ¬ (¬ S 34 k = 3 ∧ fX8_dayOf S k a = d)) ∨ ∃ k, i ≤ k ∧ k < nsu S ∧ rX7_lowestCoveringFrom_2 S d a r (i + 1) = nI k ∧ (¬ S 34 k = 3 ∧ fX8_dayOf S k a = d) ∧ ∀ k2, i ≤ k2 → k2 < nsu S → (¬ S 34 k2 = 3 ∧ fX8_dayOf S k2 a = d) → k ≤ k2 := by
      intro hno
      rcases ih (i + 1) (by omega) with ⟨h1, h2⟩ | ⟨k, h1, h2, h3, h4, h5⟩
      · refine Or.inl ⟨h1, fun k q1 q2 => ?_⟩
        rcases Nat.eq_or_lt_of_le q1 with q | q
        · rw [← q]; exact hno
        · exact h2 k q q2
      · refine Or.inr ⟨k, by omega, h2, h3, h4, fun k2 q1 q2 q3 => ?_⟩
        rcases Nat.eq_or_lt_of_le q1 with q | q
        · exact absurd (q ▸ q3) hno
        · exact h5 k2 q q2 q3
    by_cases h3 : S 34 i = 3
    · rw [if_pos h3]
      exact skip (fun h => h.1 h3)
    · rw [if_neg h3]
      by_cases hd : fX8_dayOf S i a = d
      · rw [if_pos hd]
        exact Or.inr ⟨i, Nat.le_refl _, by omega, rfl, ⟨h3, hd⟩, fun k2 q1 _ _ => q1⟩
      · rw [if_neg hd]
        exact skip (fun h => hd h.2)
theorem anew_fo {S : St} {a : Int32} (hP : PKs S) (h9 : SK S (ix a)) (hD : PD S) (hb : nsu S ≤ 12) : ∀ r i, i + r = npd S → (∀ k, k < nsu S → Elig S (ix a) k → ∃ i2, i ≤ i2 ∧ i2 < npd S ∧ S 63 i2 = fX8_dayOf S k (ix a)) → ∃ x, rX7_firstAnew_8 S a r i = (x, 0, S) ∧ FOs S (ix a) (nsu S) x := by
  intro r
  induction r with
  | zero =>
    intro i hi hH
    refine ⟨-1, rfl, Or.inl ⟨rfl, fun k hk he => ?_⟩⟩
    obtain ⟨i2, h1, h2, _⟩ := hH k hk he
    omega
  | succ r ih =>
    intro i hi hH
    rw [rX7_firstAnew_8_s]
    rcases lowest_spec (d := S 63 i) hP h9 (nsu S) 0 (by omega) with ⟨h1, h2⟩ | ⟨k, h1, h2, h3, h4, h5⟩
    · rw [show fX7_lowestCoveringFrom S (S 63 i) (ix a) = -1 from h1, if_pos rfl]
      refine ih (i + 1) (by omega) (fun k hk he => ?_)
      obtain ⟨i2, q1, q2, q3⟩ := hH k hk he
      refine ⟨i2, ?_, q2, q3⟩
      rcases Nat.eq_or_lt_of_le q1 with q | q
      · exact absurd ⟨he.1, by rw [q, q3]⟩ (h2 k (Nat.zero_le _) hk)
      · exact q
    · have e : fX7_lowestCoveringFrom S (S 63 i) (ix a) = nI k := h3
      rw [e, if_neg (nI_ne1 (by omega))]
      have hek : Elig S (ix a) k := ⟨h4.1, by rw [h4.2]; exact hD.2.1 i (by omega)⟩
      refine ⟨nI k, rfl, Or.inr ⟨k, h2, rfl, hek, fun i3 hi3 he3 => ?_⟩⟩
      obtain ⟨i2, q1, q2, q3⟩ := hH i3 hi3 he3
      refine ⟨?_, fun e3 => h5 i3 (Nat.zero_le _) hi3 ⟨he3.1, e3.trans h4.2⟩⟩
      rw [h4.2, ← q3]
      rcases Nat.eq_or_lt_of_le q1 with q | q
      · rw [q]; exact Int.le_refl _
      · exact Int.le_of_lt (Int32.lt_iff_toInt_lt.mp (hD.1 i i2 q q2))
theorem anew_eq {S : St} {a : Int32} (hP : PKs S) (h9 : SK S (ix a)) (hD : PD S) (hb : nsu S ≤ 12) : rX7_firstAnew_8 S a (npd S) 0 = (fX8_firstOf S (ix a), 0, S) := by
  obtain ⟨x, h1, h2⟩ := anew_fo hP h9 hD hb (npd S) 0 (by omega) (fun k hk he => by
    rcases cover_day (hP k hk) h9 with h | ⟨j, hj, h⟩
    · exact absurd h he.2
    · obtain ⟨i, hi, e⟩ := hD.2.2 k hk j hj
      exact ⟨i, Nat.zero_le _, hi, e.trans h.symm⟩)
  rw [h1, fo_uniq h2 (fo_first hb)]
