/-! what is due, and the hundredths: one for the class and the reference -/
def dayR (x : Int32) : Prop := ∃ n, n ≤ 3000 ∧ x = nI n
theorem days_cmp {x y : Int32} (hx : dayR x) (hy : dayR y) : ((600 : Int32) < x - y) ↔ (y < x - 600) := by
  obtain ⟨a, ha, rfl⟩ := hx
  obtain ⟨b, hb, rfl⟩ := hy
  rw [Int32.lt_iff_toInt_lt, Int32.lt_iff_toInt_lt, show (600 : Int32) = nI 600 by decide, pk_sub_toInt (by omega) (by omega), pk_sub_toInt (by omega) (by omega), nI_toInt (by omega), nI_toInt (by omega)]
  omega
/-- days of papers and claims, and the schemes of claims -/
def DR (S : St) : Prop := (∀ k, k < nsu S → ∀ j, j < npp S k → dayR (S 66 (64 * k + j))) ∧ (∀ c, c < ncl S → dayR (S 18 c)) ∧ (∀ c, c < ncl S → ix (S 16 c) < nsc S)
theorem bar_day {S : St} {k a : Nat} (h : fX8_bar S k a = 0) : ¬ fX8_dayOf S k a = -1 := by
  intro e
  unfold fX8_bar at h
  rw [if_pos e] at h
  exact absurd h (by decide)
theorem counts_bar {S : St} {c k : Nat} (h : ¬ fX8_bar S k (ix (S 16 c)) = 0) : fX8_counts S c k = 0 := by
  unfold fX8_counts
  rw [if_neg h]
  repeat' split
  all_goals rfl
theorem counts_eq {S : St} {c k a : Nat} (hP : PKs S) (hk : k < nsu S) (h9 : SK S a) (hR : DR S) (hc : c < ncl S) (ha : a < 2 ^ 31) (h16 : S 16 c = nI a) (hbar : fX8_bar S k a = 0) : fX7_counts S c a (fX5_coverDay S k a) = fX8_counts S c k := by
  have e : ix (S 16 c) = a := by rw [h16]; exact nI_clamp ha
  have hd : dayR (fX8_dayOf S k a) := by
    rcases cover_day (hP k hk) h9 with h | ⟨j, hj, h⟩
    · exact absurd h (bar_day hbar)
    · rw [h]; exact hR.1 k hk j hj
  have hcmp := days_cmp hd (hR.2.1 c hc)
  unfold fX7_counts fX8_counts
  rw [cover_eq (hP k hk) h9, if_pos h16, e, hbar, if_pos rfl]
  by_cases h19 : S 19 c = -1
  · simp only [if_pos h19]
    by_cases h6 : (600 : Int32) < fX8_dayOf S k a - S 18 c
    · rw [if_pos h6, if_pos (hcmp.mp h6)]
      repeat' split
      all_goals rfl
    · rw [if_neg h6, if_neg (fun q => h6 (hcmp.mpr q))]
      by_cases h13 : S 13 a = -1
      · rw [if_pos h13, if_pos h13]
      · rw [if_neg h13, if_neg h13]
        by_cases hlt : S 18 c < S 13 a
        · rw [if_pos hlt, if_neg (Int32.not_le.mpr hlt)]
        · rw [if_neg hlt, if_pos (Int32.not_lt.mp hlt)]
  · simp only [if_neg h19]
    repeat' split
    all_goals rfl
theorem sums_eq {S : St} {k a : Nat} (hP : PKs S) (hk : k < nsu S) (h9 : SK S a) (hR : DR S) (ha : a < 2 ^ 31) (hbar : fX8_bar S k a = 0) : ∀ n, n ≤ ncl S → lX7_sumFor_15 S k a n = lX8_dues_31 S k a n := by
  intro n
  induction n with
  | zero => exact fun _ => rfl
  | succ n ih =>
    intro hn
    show iX7_sumFor_15 S k a n (lX7_sumFor_15 S k a n).1 (lX7_sumFor_15 S k a n).2 = iX8_dues_31 S k a n (lX8_dues_31 S k a n).1 (lX8_dues_31 S k a n).2
    rw [ih (by omega)]
    unfold iX7_sumFor_15 iX8_dues_31
    by_cases h16 : S 16 n = nI a
    · rw [if_pos h16, counts_eq hP hk h9 hR (by omega) ha h16 hbar]
    · rw [if_neg h16, show fX7_counts S n a (fX5_coverDay S k a) = 0 by unfold fX7_counts; rw [if_neg h16], if_pos rfl]
theorem sums_bar {S : St} {k a : Nat} (ha : a < 2 ^ 31) (hbar : ¬ fX8_bar S k a = 0) : ∀ n, lX8_dues_31 S k a n = (0, 0) := by
  intro n
  induction n with
  | zero => rfl
  | succ n ih =>
    show iX8_dues_31 S k a n (lX8_dues_31 S k a n).1 (lX8_dues_31 S k a n).2 = (0, 0)
    rw [ih]
    unfold iX8_dues_31
    by_cases h16 : S 16 n = nI a
    · rw [if_pos h16, counts_bar (by rw [h16, show ix (nI a) = a from nI_clamp ha]; exact hbar), if_pos rfl]
    · rw [if_neg h16]
theorem z_due (x w l t q : Int32) : x + (0 * w / l * t + 0 * w / l * q) = x := by simp
def LK (S : St) : Prop := ∀ a, a < nsc S → (1 : Int32) ≤ S 11 a
theorem dues_eq {S : St} {k : Nat} (hP : PKs S) (hk : k < nsu S) (h9 : SKs S) (hR : DR S) (hL : LK S) (hb : nsu S ≤ 12) (hb8 : nsc S ≤ 8) (hst : ∃ n, n ≤ 4 ∧ S 34 k = nI n) : fX7_dueBy S k = fX8_dues S k := by
  have key : ∀ n, n ≤ nsc S → lX7_dueBy_13 S k n = lX8_dues_4 S k n := by
    intro n
    induction n with
    | zero => exact fun _ => rfl
    | succ n ih =>
      intro hn
      have hs := h9 n (by omega)
      show iX7_dueBy_13 S k n (lX7_dueBy_13 S k n) = iX8_dues_4 S k n (lX8_dues_4 S k n)
      rw [ih (by omega)]
      unfold iX7_dueBy_13 iX8_dues_4 bX8_dues_113 bX8_dues_146 jX8_dues_113 jX8_dues_146
      rw [bar_eq hP hk hs hb]
      by_cases hbar : fX8_bar S k n = 0
      · rw [if_pos hbar]
        unfold fX7_sumFor fX4_falsePartOf fX4_penalty
        rw [sums_eq hP hk hs hR (by omega) hbar (ncl S) (Nat.le_refl _)]
        simp only [if_pos (hL n (by omega))]
        split <;> rfl
      · rw [if_neg hbar, sums_bar (by omega) hbar]
        exact (z_due _ _ _ _ _).symm
  unfold fX7_dueBy fX8_dues fX5_isOver
  obtain ⟨n, hn, e⟩ := hst
  rw [e, key (nsc S) (Nat.le_refl _)]
  have hn5 : n < 5 := by omega
  match n, hn5 with
  | 0, _ => rfl
  | 1, _ => rfl
  | 2, _ => rfl
  | 3, _ => rw [if_pos (by decide : nI 3 = (3 : Int32)), if_neg (by decide), if_pos (by decide)]; split <;> rfl
  | 4, _ => rw [if_neg (by decide : ¬ nI 4 = (3 : Int32)), if_pos (by decide : nI 4 = (4 : Int32)), if_neg (by decide), if_pos (by decide)]; split <;> rfl
  | q + 5, h => omega
/-- who planned what: the class keeps tellers by scheme, the reference schemes by teller -/
def PLN (S : St) : Prop := ∀ a, a < 8 → ∀ t, t < 8 → (fX4_isPlannedBy S a (nI t) = 0 ↔ ¬ ((S 22 t >>> (nI a &&& 31)) &&& 1) = 1)
theorem hund_loop {S : St} {k : Nat} (hP : PKs S) (hk : k < nsu S) (h9 : SKs S) (hb : nsu S ≤ 12) (hb8 : nsc S ≤ 8) (hpl : PLN S) (ht : vp_in (S 29 k) 8) : ∀ r i, i + r = nsc S → ∀ (y : Int32), (lX8_hundredthsOf_80 S k i = 0 → (rX7_hundredthsOf_52 S k r i = if lX8_hundredthsOf_80 S k (nsc S) = 0 then (25 + ((S 38 k) / 2)) else (25 + ((S 38 k) / 2)) / 2) ∧ (rX7_hundredthsOf_52_v2 S k r i = if lX8_hundredthsOf_80 S k (nsc S) = 0 then (15 + (S 38 k)) else (15 + (S 38 k)) / 2)) := by
  have one : ∀ n i, ¬ lX8_hundredthsOf_80 S k i = 0 → ¬ lX8_hundredthsOf_80 S k (i + n) = 0 := by
    intro n i h
    induction n with
    | zero => exact h
    | succ n ih =>
      show ¬ iX8_hundredthsOf_80 S k (i + n) (lX8_hundredthsOf_80 S k (i + n)) = 0
      unfold iX8_hundredthsOf_80
      rw [if_neg ih]
      decide
  intro r
  induction r with
  | zero =>
    intro i hi y h0
    rw [show nsc S = i by omega, if_pos h0, if_pos h0]
    exact ⟨rfl, rfl⟩
  | succ r ih =>
    intro i hi y h0
    have hs := h9 i (by omega)
    have ep := hpl i (by omega) (ix (S 29 k)) (vp_ixl ht)
    rw [← vp_ixe ht] at ep
    have hnext : lX8_hundredthsOf_80 S k (i + 1) = iX8_hundredthsOf_80 S k i (lX8_hundredthsOf_80 S k i) := rfl
    unfold iX8_hundredthsOf_80 at hnext
    rw [if_pos h0] at hnext
    rw [rX7_hundredthsOf_52_s, rX7_hundredthsOf_52_v2_s, bar_eq hP hk hs hb]
    by_cases hp : fX4_isPlannedBy S i (S 29 k) = 0
    · rw [if_pos hp, if_pos hp]
      rw [if_neg (ep.mp hp)] at hnext
      exact ih (i + 1) (by omega) y hnext
    · rw [if_neg hp, if_neg hp]
      have hp2 : ((S 22 (ix (S 29 k)) >>> (nI i &&& 31)) &&& 1) = 1 := Decidable.byContradiction fun q => hp (ep.mpr q)
      rw [if_pos hp2] at hnext
      by_cases hbar : fX8_bar S k i = 0
      · rw [if_pos hbar, if_pos hbar]
        rw [if_pos hbar] at hnext
        have hne : ¬ lX8_hundredthsOf_80 S k (nsc S) = 0 := by
          have := one r (i + 1) (by rw [hnext]; decide)
          rwa [show i + 1 + r = nsc S by omega] at this
        rw [if_neg hne, if_neg hne]
        exact ⟨rfl, rfl⟩
      · rw [if_neg hbar, if_neg hbar]
        rw [if_neg hbar] at hnext
        exact ih (i + 1) (by omega) y hnext
theorem hund_eq {S : St} {k : Nat} (hP : PKs S) (hk : k < nsu S) (h9 : SKs S) (hb : nsu S ≤ 12) (hb8 : nsc S ≤ 8) (hpl : PLN S) (ht : vp_in (S 29 k) 8) : fX7_hundredthsOf S k = fX8_hundredthsOf S k := by
  obtain ⟨l1, l2⟩ := hund_loop hP hk h9 hb hb8 hpl ht (nsc S) 0 (by omega) 0 rfl
  unfold fX7_hundredthsOf fX8_hundredthsOf bX8_hundredthsOf_74 jX8_hundredthsOf_74 fX5_isReady
  rw [l1, l2]
  by_cases h4 : S 34 k = 4
  · rw [h4]; rfl
  · by_cases h1 : S 34 k = 1
    · rw [h1]; simp
    · by_cases h2 : S 34 k = 2
      · rw [h2]; simp
      · simp [h4, h1, h2]
