/-! answers of the class and of the reference, call by call -/
theorem one_sample (S : St) (hN : MInv S) (s_ many bad : Int32) : ONE mp3 (0, (fX8_sample S s_ many bad).1, (fX8_sample S s_ many bad).2) (fX7_sample S s_ many bad) := by
  unfold fX8_sample fX7_sample
  by_cases h0 : okI s_ (S 7 0)
  · rw [if_pos h0, if_neg ((scheme_I hN s_).mpr h0)]
    by_cases h1 : okR many 1 100
    · rw [if_pos h1, if_neg ((in_R _ _ _).mpr h1)]
      by_cases h2 : okR bad 0 many
      · rw [if_pos h2, if_neg ((in_R _ _ _).mpr h2)]
        exact one_same rfl
      · rw [if_neg h2, if_pos (Decidable.byContradiction fun q => h2 ((in_R _ _ _).mp q))]
        exact one_thr rfl (by decide)
    · rw [if_neg h1, if_pos (Decidable.byContradiction fun q => h1 ((in_R _ _ _).mp q))]
      exact one_thr rfl (by decide)
  · rw [if_neg h0, if_pos (Decidable.byContradiction fun q => h0 ((scheme_I hN s_).mp q))]
    exact one_thr rfl (by decide)
theorem one_work (S : St) (hN : MInv S) (t f its : Int32) : ONE mp3 (fX8_work S t f its) (fX7_work S t f its) := by
  unfold fX8_work fX7_work
  by_cases h0 : okI t 8
  · rw [if_pos h0, if_neg ((teller_I t).mpr h0)]
    by_cases h1 : okI f 6
    · rw [if_pos h1, if_neg ((firm_I f).mpr h1)]
      by_cases h2 : okR its 0 999
      · rw [if_pos h2, if_neg ((in_R _ _ _).mpr h2)]
        exact one_same rfl
      · rw [if_neg h2, if_pos (Decidable.byContradiction fun q => h2 ((in_R _ _ _).mp q))]
        exact one_thr rfl (by decide)
    · rw [if_neg h1, if_pos (Decidable.byContradiction fun q => h1 ((firm_I f).mp q))]
      exact one_thr rfl (by decide)
  · rw [if_neg h0, if_pos (Decidable.byContradiction fun q => h0 ((teller_I t).mp q))]
    exact one_thr rfl (by decide)
theorem one_pass (S : St) (hN : MInv S) (days : Int32) : ONE mp23 (fX8_pass S days) (fX7_pass S days) := by
  unfold fX8_pass fX7_pass
  by_cases h0 : okR days 1 300
  · rw [if_pos h0, if_neg ((in_R _ _ _).mpr h0)]
    by_cases hs : (3000 : Int32) < S 1 0 + days
    · rw [if_pos hs, if_neg (Int32.not_le.mpr hs)]
      exact one_thr rfl (by decide)
    · rw [if_neg hs, if_pos (Int32.not_lt.mp hs)]
      exact one_same rfl
  · rw [if_neg h0, if_pos (Decidable.byContradiction fun q => h0 ((in_R _ _ _).mp q))]
    exact one_thr rfl (by decide)
theorem one_covers (S : St) (hN : MInv S) (hP : PKs S) (h9 : SKs S) (k s_ : Int32) : ONE mp3 (fX8_covers S k s_) (fX7_covers S k s_) := by
  unfold fX8_covers fX7_covers
  by_cases h0 : okI k (S 28 0)
  · rw [if_pos h0, if_neg ((suit_I hN k).mpr h0)]
    by_cases h1 : okI s_ (S 7 0)
    · rw [if_pos h1, if_neg ((scheme_I hN s_).mpr h1)]
      rw [cover_eq (hP _ (okI_l h0 hN.n28 (by have := hN.b28; omega))) (h9 _ (okI_l h1 hN.n7 (by have := hN.b7; omega)))]
      exact one_same rfl
    · rw [if_neg h1, if_pos (Decidable.byContradiction fun q => h1 ((scheme_I hN s_).mp q))]
      exact one_thr rfl (by decide)
  · rw [if_neg h0, if_pos (Decidable.byContradiction fun q => h0 ((suit_I hN k).mp q))]
    exact one_thr rfl (by decide)
theorem one_bars (S : St) (hN : MInv S) (hP : PKs S) (h9 : SKs S) (k s_ : Int32) : ONE mp3 (fX8_bars S k s_) (fX7_bars S k s_) := by
  unfold fX8_bars fX7_bars
  by_cases h0 : okI k (S 28 0)
  · rw [if_pos h0, if_neg ((suit_I hN k).mpr h0)]
    by_cases h1 : okI s_ (S 7 0)
    · rw [if_pos h1, if_neg ((scheme_I hN s_).mpr h1)]
      rw [bar_eq hP (okI_l h0 hN.n28 (by have := hN.b28; omega)) (h9 _ (okI_l h1 hN.n7 (by have := hN.b7; omega))) hN.b28]
      exact one_same rfl
    · rw [if_neg h1, if_pos (Decidable.byContradiction fun q => h1 ((scheme_I hN s_).mp q))]
      exact one_thr rfl (by decide)
  · rw [if_neg h0, if_pos (Decidable.byContradiction fun q => h0 ((suit_I hN k).mp q))]
    exact one_thr rfl (by decide)
theorem one_first (S : St) (hN : MInv S) (hP : PKs S) (h9 : SKs S) (s_ : Int32) : ONE mp3 (fX8_first S s_) (fX7_first S s_) := by
  unfold fX8_first fX7_first
  by_cases h0 : okI s_ (S 7 0)
  · rw [if_pos h0, if_neg ((scheme_I hN s_).mpr h0)]
    rw [first_eq hP (h9 _ (okI_l h0 hN.n7 (by have := hN.b7; omega))) hN.b28]
    exact one_same rfl
  · rw [if_neg h0, if_pos (Decidable.byContradiction fun q => h0 ((scheme_I hN s_).mp q))]
    exact one_thr rfl (by decide)
theorem one_firstAnew (S : St) (hN : MInv S) (hP : PKs S) (h9 : SKs S) (hD : PD S) (s_ : Int32) : ONE mp3 (fX8_firstAnew S s_) (fX7_firstAnew S s_) := by
  unfold fX8_firstAnew fX8_first fX7_firstAnew
  by_cases h0 : okI s_ (S 7 0)
  · rw [if_pos h0, if_neg ((scheme_I hN s_).mpr h0)]
    have hs := h9 _ (okI_l h0 hN.n7 (by have := hN.b7; omega))
    rw [anew_eq hP hs hD hN.b28]
    exact one_same rfl
  · rw [if_neg h0, if_pos (Decidable.byContradiction fun q => h0 ((scheme_I hN s_).mp q))]
    exact one_thr rfl (by decide)
theorem one_due (S : St) (hN : MInv S) (hP : PKs S) (h9 : SKs S) (hR : DR S) (hL : LK S) (hst : ∀ k, k < nsu S → ∃ n, n ≤ 4 ∧ S 34 k = nI n) (k : Int32) : ONE mp3 (fX8_due S k) (fX7_due S k) := by
  unfold fX8_due fX7_due
  by_cases h0 : okI k (S 28 0)
  · rw [if_pos h0, if_neg ((suit_I hN k).mpr h0)]
    have hk := okI_l h0 hN.n28 (by have := hN.b28; omega)
    rw [dues_eq hP hk h9 hR hL hN.b28 hN.b7 (hst _ hk)]
    exact one_same rfl
  · rw [if_neg h0, if_pos (Decidable.byContradiction fun q => h0 ((suit_I hN k).mp q))]
    exact one_thr rfl (by decide)
theorem one_know (S : St) (hN : MInv S) (s_ : Int32) : ONE mp3 (fX8_know S s_) (fX7_know S s_) := by
  unfold fX8_know fX7_know
  by_cases h0 : okI s_ (S 7 0)
  · rw [if_pos h0, if_neg ((scheme_I hN s_).mpr h0)]
    by_cases h13 : S 13 (ix s_) = -1
    · rw [if_pos h13, if_pos h13]
      exact one_same rfl
    · rw [if_neg h13, if_neg h13, up_same rfl]
      exact one_same rfl
  · rw [if_neg h0, if_pos (Decidable.byContradiction fun q => h0 ((scheme_I hN s_).mp q))]
    exact one_thr rfl (by decide)
theorem full_I {x : Int32} {n K : Nat} {c : Int32} (hx : x = nI n) (hn : n ≤ K) (hc : c = nI K) (hK : K < 2 ^ 31) : c ≤ x ↔ x = c := by
  rw [hx, hc, Int32.le_iff_toInt_le, nI_toInt hK, nI_toInt (by omega)]
  constructor
  · intro h
    rw [show n = K by omega]
  · intro h
    rw [nI_eq (by omega) hK] at h
    omega
theorem one_claim (S : St) (hN : MInv S) (s_ much : Int32) : ONE mp3 (fX8_claim S s_ much) (fX7_claim S s_ much) := by
  unfold fX8_claim fX7_claim
  by_cases h0 : okI s_ (S 7 0)
  · rw [if_pos h0, if_neg ((scheme_I hN s_).mpr h0)]
    by_cases h1 : okR much 1 9999
    · rw [if_pos h1, if_neg ((in_R _ _ _).mpr h1)]
      by_cases hc : S 15 0 = 40
      · rw [if_pos hc, if_pos ((full_I hN.n15 hN.b15 (by decide) (by decide)).mpr hc)]
        exact one_thr rfl (by decide)
      · rw [if_neg hc, if_neg (fun q => hc ((full_I hN.n15 hN.b15 (by decide) (by decide)).mp q))]
        exact one_same rfl
    · rw [if_neg h1, if_pos (Decidable.byContradiction fun q => h1 ((in_R _ _ _).mp q))]
      exact one_thr rfl (by decide)
  · rw [if_neg h0, if_pos (Decidable.byContradiction fun q => h0 ((scheme_I hN s_).mp q))]
    exact one_thr rfl (by decide)
theorem one_scheme (S : St) (hN : MInv S) (f set by_ : Int32) : ONE mp3 (fX8_scheme S f set by_) (fX7_scheme S f set by_) := by
  unfold fX8_scheme fX7_scheme
  by_cases h0 : okI f 6
  · rw [if_pos h0, if_neg ((firm_I f).mpr h0)]
    by_cases h1 : okR set 1 65535
    · rw [if_pos h1, if_neg ((in_R _ _ _).mpr h1)]
      by_cases h2 : okR by_ 0 2
      · rw [if_pos h2, if_neg ((in_R _ _ _).mpr h2)]
        by_cases hc : S 7 0 = 8
        · rw [if_pos hc, if_pos ((full_I hN.n7 hN.b7 (by decide) (by decide)).mpr hc)]
          exact one_thr rfl (by decide)
        · rw [if_neg hc, if_neg (fun q => hc ((full_I hN.n7 hN.b7 (by decide) (by decide)).mp q))]
          exact one_same rfl
      · rw [if_neg h2, if_pos (Decidable.byContradiction fun q => h2 ((in_R _ _ _).mp q))]
        exact one_thr rfl (by decide)
    · rw [if_neg h1, if_pos (Decidable.byContradiction fun q => h1 ((in_R _ _ _).mp q))]
      exact one_thr rfl (by decide)
  · rw [if_neg h0, if_pos (Decidable.byContradiction fun q => h0 ((firm_I f).mp q))]
    exact one_thr rfl (by decide)
def STT (S : St) : Prop := ∀ k, k < nsu S → ∃ n, n ≤ 4 ∧ S 34 k = nI n
theorem over_eq {S : St} {k : Nat} (h : ∃ n, n ≤ 4 ∧ S 34 k = nI n) : fX5_isOver S k = fX8_isOver S k := by
  obtain ⟨n, hn, e⟩ := h
  unfold fX5_isOver fX8_isOver
  rw [e]
  have hn5 : n < 5 := by omega
  match n, hn5 with
  | 0, _ => decide
  | 1, _ => decide
  | 2, _ => decide
  | 3, _ => decide
  | 4, _ => decide
  | q + 5, h => omega
theorem one_help (S : St) (hN : MInv S) (hst : STT S) (k much : Int32) : ONE mp3 (fX8_help S k much) (fX7_help S k much) := by
  unfold fX8_help fX7_help
  by_cases h0 : okI k (S 28 0)
  · rw [if_pos h0, if_neg ((suit_I hN k).mpr h0)]
    by_cases h1 : okR much 0 10
    · rw [if_pos h1, if_neg ((in_R _ _ _).mpr h1)]
      rw [over_eq (hst _ (okI_l h0 hN.n28 (by have := hN.b28; omega)))]
      by_cases ho : fX8_isOver S (ix k) = 0
      · rw [if_pos ho]
        exact one_same rfl
      · rw [if_neg ho]
        exact one_thr rfl (by decide)
    · rw [if_neg h1, if_pos (Decidable.byContradiction fun q => h1 ((in_R _ _ _).mp q))]
      exact one_thr rfl (by decide)
  · rw [if_neg h0, if_pos (Decidable.byContradiction fun q => h0 ((suit_I hN k).mp q))]
    exact one_thr rfl (by decide)
theorem one_extend (S : St) (hN : MInv S) (hx : ∀ k, k < nsu S → ∃ n, n ≤ 4 ∧ S 37 k = nI n) (k : Int32) : ONE mp13 (fX8_extend S k) (fX7_extend S k) := by
  unfold fX8_extend fX7_extend
  by_cases h0 : okI k (S 28 0)
  · rw [if_pos h0, if_neg ((suit_I hN k).mpr h0)]
    rw [show fX5_isSealedOn S (ix k) (S 1 0) = fX8_isSealed S (ix k) from rfl]
    by_cases hs : fX8_isSealed S (ix k) = 0
    · rw [if_pos hs, if_neg (fun q => q hs)]
      exact one_thr rfl (by decide)
    · rw [if_neg hs, if_pos hs]
      obtain ⟨n, hn, e⟩ := hx _ (okI_l h0 hN.n28 (by have := hN.b28; omega))
      by_cases h4 : S 37 (ix k) = 4
      · rw [if_pos h4, if_pos ((full_I e hn (by decide) (by decide)).mpr h4)]
        exact one_thr rfl (by decide)
      · rw [if_neg h4, if_neg (fun q => h4 ((full_I e hn (by decide) (by decide)).mp q))]
        exact one_same rfl
  · rw [if_neg h0, if_pos (Decidable.byContradiction fun q => h0 ((suit_I hN k).mp q))]
    exact one_thr rfl (by decide)
