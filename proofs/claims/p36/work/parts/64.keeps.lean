/-! every call keeps the invariant -/
theorem inv_same {A : St} (h : Inv A) : Inv (mrg A A) := by rw [mrg_self]; exact h
theorem set_pos {x : Int32} (h : okR x 1 65535) : ∃ n, 0 < n ∧ n < 65536 ∧ x = nI n := by
  obtain ⟨n, hn, e⟩ := set16_R h
  refine ⟨n, ?_, hn, e⟩
  have h1 := h.1
  rw [e, show (1 : Int32) = nI 1 by decide] at h1
  rcases Nat.eq_zero_or_pos n with q | q
  · exact absurd (nI_lt (by omega) (by decide)) h1
  · exact q
theorem okR_3 {x : Int32} (h : okR x 1 3) : ∃ n, n ≤ 4 ∧ x = nI n := by
  obtain ⟨n, hn, e⟩ := okR_n (v := x) (b := 3) (N := 3) ⟨fun q => h.1 (Int32.lt_trans q (by decide)), h.2⟩ (by decide) (by decide)
  exact ⟨n, by omega, e⟩
theorem shl_e {s_ n : Int32} (h : okI s_ n) (l : ix s_ < 16) : (1 : Int32) <<< (s_ &&& 31) = nI (2 ^ ix s_) := by
  have := shl1 _ l
  rwa [← okI_e h] at this
theorem kp_fund {S : St} (h : Inv S) (f more : Int32) : Inv (mrg (fX8_fund S f more).2.2 (fX7_fund S f more).2.2) := by
  have hN := h.m
  unfold fX8_fund fX7_fund
  by_cases h0 : okI f 6
  · rw [if_pos h0, if_neg ((firm_I f).mpr h0)]
    by_cases h1 : okR more 1 1000000
    · rw [if_pos h1, if_neg ((in_R _ _ _).mpr h1)]
      by_cases hs : (100000000 : Int32) < S 2 (ix f) + more
      · rw [if_pos hs, if_neg (Int32.not_le.mpr hs)]
        exact inv_same h
      · rw [if_neg hs, if_pos (Int32.not_lt.mp hs)]
        exact inv_same (inv_fund h)
    · rw [if_neg h1, if_pos (Decidable.byContradiction fun q => h1 ((in_R _ _ _).mp q))]
      exact inv_same h
  · rw [if_neg h0, if_pos (Decidable.byContradiction fun q => h0 ((firm_I f).mp q))]
    exact inv_same h
theorem kp_scheme {S : St} (h : Inv S) (f set by_ : Int32) : Inv (mrg (fX8_scheme S f set by_).2.2 (fX7_scheme S f set by_).2.2) := by
  have hN := h.m
  unfold fX8_scheme fX7_scheme
  by_cases h0 : okI f 6
  · rw [if_pos h0, if_neg ((firm_I f).mpr h0)]
    by_cases h1 : okR set 1 65535
    · rw [if_pos h1, if_neg ((in_R _ _ _).mpr h1)]
      by_cases h2 : okR by_ 0 2
      · rw [if_pos h2, if_neg ((in_R _ _ _).mpr h2)]
        by_cases hc : S 7 0 = 8
        · rw [if_pos hc, if_pos ((full_I hN.n7 hN.b7 (by decide) (by decide)).mpr hc)]
          exact inv_same h
        · rw [if_neg hc, if_neg (fun q => hc ((full_I hN.n7 hN.b7 (by decide) (by decide)).mp q))]
          exact inv_same (inv_scheme h (ne_ix hN.n7 hN.b7 hc (by decide) (by decide)) (set_pos h1))
      · rw [if_neg h2, if_pos (Decidable.byContradiction fun q => h2 ((in_R _ _ _).mp q))]
        exact inv_same h
    · rw [if_neg h1, if_pos (Decidable.byContradiction fun q => h1 ((in_R _ _ _).mp q))]
      exact inv_same h
  · rw [if_neg h0, if_pos (Decidable.byContradiction fun q => h0 ((firm_I f).mp q))]
    exact inv_same h
theorem kp_claim {S : St} (h : Inv S) (s_ much : Int32) : Inv (mrg (fX8_claim S s_ much).2.2 (fX7_claim S s_ much).2.2) := by
  have hN := h.m
  unfold fX8_claim fX7_claim
  by_cases h0 : okI s_ (S 7 0)
  · rw [if_pos h0, if_neg ((scheme_I hN s_).mpr h0)]
    by_cases h1 : okR much 1 9999
    · rw [if_pos h1, if_neg ((in_R _ _ _).mpr h1)]
      by_cases hc : S 15 0 = 40
      · rw [if_pos hc, if_pos ((full_I hN.n15 hN.b15 (by decide) (by decide)).mpr hc)]
        exact inv_same h
      · rw [if_neg hc, if_neg (fun q => hc ((full_I hN.n15 hN.b15 (by decide) (by decide)).mp q))]
        exact inv_same (inv_claim h (ne_ix hN.n15 hN.b15 hc (by decide) (by decide)) (okI_in h0 hN.n7 (by have := hN.b7; omega)))
    · rw [if_neg h1, if_pos (Decidable.byContradiction fun q => h1 ((in_R _ _ _).mp q))]
      exact inv_same h
  · rw [if_neg h0, if_pos (Decidable.byContradiction fun q => h0 ((scheme_I hN s_).mp q))]
    exact inv_same h
theorem kp_sample {S : St} (h : Inv S) (s_ many bad : Int32) : Inv (mrg (fX8_sample S s_ many bad).2 (fX7_sample S s_ many bad).2.2) := by
  have hN := h.m
  unfold fX8_sample fX7_sample
  by_cases h0 : okI s_ (S 7 0)
  · rw [if_pos h0, if_neg ((scheme_I hN s_).mpr h0)]
    by_cases h1 : okR many 1 100
    · rw [if_pos h1, if_neg ((in_R _ _ _).mpr h1)]
      by_cases h2 : okR bad 0 many
      · rw [if_pos h2, if_neg ((in_R _ _ _).mpr h2)]
        exact inv_same (inv_sample h (okI_l h0 hN.n7 (by have := hN.b7; omega)) (Int32.not_lt.mp h1.1))
      · rw [if_neg h2, if_pos (Decidable.byContradiction fun q => h2 ((in_R _ _ _).mp q))]
        exact inv_same h
    · rw [if_neg h1, if_pos (Decidable.byContradiction fun q => h1 ((in_R _ _ _).mp q))]
      exact inv_same h
  · rw [if_neg h0, if_pos (Decidable.byContradiction fun q => h0 ((scheme_I hN s_).mp q))]
    exact inv_same h
theorem kp_learn {S : St} (h : Inv S) (t fact : Int32) : Inv (mrg (fX8_learn S t fact).2.2 (fX7_learn S t fact).2.2) := by
  have hN := h.m
  unfold fX8_learn fX7_learn
  by_cases h0 : okI t 8
  · rw [if_pos h0, if_neg ((teller_I t).mpr h0)]
    by_cases h1 : okI fact 16
    · rw [if_pos h1, if_neg ((in_I (n := 16) (by decide)).mpr h1)]
      exact inv_same (inv_learn h (set16_or (h.b _ (okI_l (N := 8) h0 (by decide) (by decide))) (set16_shl h1)))
    · rw [if_neg h1, if_pos (Decidable.byContradiction fun q => h1 ((in_I (n := 16) (by decide)).mp q))]
      exact inv_same h
  · rw [if_neg h0, if_pos (Decidable.byContradiction fun q => h0 ((teller_I t).mp q))]
    exact inv_same h
theorem kp_publish {S : St} (h : Inv S) (fact : Int32) : Inv (mrg (fX8_publish S fact).2.2 (fX7_publish S fact).2.2) := by
  have hN := h.m
  unfold fX8_publish fX7_publish
  by_cases h0 : okI fact 16
  · rw [if_pos h0, if_neg ((in_I (n := 16) (by decide)).mpr h0)]
    by_cases h20 : S 20 (ix fact) = -1
    · rw [if_pos h20, if_pos h20]
      exact inv_same (inv_publish h)
    · rw [if_neg h20, if_neg h20, up_same rfl]
      exact inv_same h
  · rw [if_neg h0, if_pos (Decidable.byContradiction fun q => h0 ((in_I (n := 16) (by decide)).mp q))]
    exact inv_same h
theorem kp_plan {S : St} (h : Inv S) (t s_ : Int32) : Inv (mrg (fX8_plan S t s_).2.2 (fX7_plan S t s_).2.2) := by
  have hN := h.m
  unfold fX8_plan fX7_plan
  by_cases h0 : okI t 8
  · rw [if_pos h0, if_neg ((teller_I t).mpr h0)]
    by_cases h1 : okI s_ (S 7 0)
    · rw [if_pos h1, if_neg ((scheme_I hN s_).mpr h1)]
      have lt := okI_l (N := 8) h0 (by decide) (by decide)
      have ha := okI_l h1 hN.n7 (by have := hN.b7; omega)
      have ha8 := hN.b7
      by_cases hp : (((S 22 (ix t)) >>> (s_ &&& 31)) &&& 1) = 1
      · rw [if_pos hp]
        exact inv_plan h ha lt (congrArg (S 22 (ix t) ||| ·) (shl_e h1 (by omega))) (congrArg (S 61 (ix s_) ||| ·) (shl_e h0 (by omega)))
      · rw [if_neg hp]
        exact inv_plan h ha lt (congrArg (S 22 (ix t) ||| ·) (shl_e h1 (by omega))) (congrArg (S 61 (ix s_) ||| ·) (shl_e h0 (by omega)))
    · rw [if_neg h1, if_pos (Decidable.byContradiction fun q => h1 ((scheme_I hN s_).mp q))]
      exact inv_same h
  · rw [if_neg h0, if_pos (Decidable.byContradiction fun q => h0 ((teller_I t).mp q))]
    exact inv_same h
theorem kp_know {S : St} (h : Inv S) (s_ : Int32) : Inv (mrg (fX8_know S s_).2.2 (fX7_know S s_).2.2) := by
  have hN := h.m
  unfold fX8_know fX7_know
  by_cases h0 : okI s_ (S 7 0)
  · rw [if_pos h0, if_neg ((scheme_I hN s_).mpr h0)]
    have ha := okI_l h0 hN.n7 (by have := hN.b7; omega)
    by_cases h13 : S 13 (ix s_) = -1
    · rw [if_pos h13, if_pos h13]
      exact inv_same (inv_know h ha)
    · rw [if_neg h13, if_neg h13, up_same rfl]
      exact inv_same h
  · rw [if_neg h0, if_pos (Decidable.byContradiction fun q => h0 ((scheme_I hN s_).mp q))]
    exact inv_same h
theorem kp_admit {S : St} (h : Inv S) (s_ : Int32) : Inv (mrg (fX8_admit S s_).2.2 (fX7_admit S s_).2.2) := by
  have hN := h.m
  unfold fX8_admit fX7_admit
  by_cases h0 : okI s_ (S 7 0)
  · rw [if_pos h0, if_neg ((scheme_I hN s_).mpr h0)]
    have ha := okI_l h0 hN.n7 (by have := hN.b7; omega)
    rw [admit_eq h.p (h.s _ ha) (nsu S) 0 (by omega)]
    unfold fX7_isCoveredInTheOpen
    by_cases ho : rX7_isCoveredInTheOpen_2 S (ix s_) (nsu S) 0 = 0
    · rw [if_pos ho, if_pos ho]
      exact inv_same (inv_admit h ha)
    · rw [if_neg ho, if_neg ho]
      exact inv_same h
  · rw [if_neg h0, if_pos (Decidable.byContradiction fun q => h0 ((scheme_I hN s_).mp q)), ite_self]
    exact inv_same h
theorem kp_extend {S : St} (h : Inv S) (k : Int32) : Inv (mrg (fX8_extend S k).2.2 (fX7_extend S k).2.2) := by
  have hN := h.m
  unfold fX8_extend fX7_extend
  by_cases h0 : okI k (S 28 0)
  · rw [if_pos h0, if_neg ((suit_I hN k).mpr h0)]
    have hk := okI_l h0 hN.n28 (by have := hN.b28; omega)
    rw [show fX5_isSealedOn S (ix k) (S 1 0) = fX8_isSealed S (ix k) from rfl]
    by_cases hs : fX8_isSealed S (ix k) = 0
    · rw [if_pos hs, if_neg (fun q => q hs)]
      exact inv_same h
    · rw [if_neg hs, if_pos hs]
      obtain ⟨n, hn, e⟩ := h.o.x _ hk
      by_cases h4 : S 37 (ix k) = 4
      · rw [if_pos h4, if_pos ((full_I e hn (by decide) (by decide)).mpr h4)]
        exact inv_same h
      · rw [if_neg h4, if_neg (fun q => h4 ((full_I e hn (by decide) (by decide)).mp q))]
        exact inv_same (inv_extend h hk h4)
  · rw [if_neg h0, if_pos (Decidable.byContradiction fun q => h0 ((suit_I hN k).mp q))]
    exact inv_same h
theorem kp_choose {S : St} (h : Inv S) (k what : Int32) : Inv (mrg (fX8_choose S k what).2.2 (fX7_choose S k what).2.2) := by
  have hN := h.m
  unfold fX8_choose fX7_choose
  by_cases h0 : okI k (S 28 0)
  · rw [if_pos h0, if_neg ((suit_I hN k).mpr h0)]
    by_cases h1 : okR what 1 3
    · rw [if_pos h1, if_neg ((in_R _ _ _).mpr h1)]
      have hk := okI_l h0 hN.n28 (by have := hN.b28; omega)
      rw [over_eq (h.st _ hk)]
      have e36 : ∀ a b c d, fX8_isSealed (up (up S 34 a b) 35 c d) (ix k) = fX8_isSealed S (ix k) := fun _ _ _ _ => rfl
      simp only [e36]
      by_cases hs : S 1 0 < S 36 (ix k)
      · have e : ¬ fX8_isSealed S (ix k) = 0 := by unfold fX8_isSealed; rw [if_neg (Int32.not_le.mpr hs)]; decide
        simp only [if_neg e, if_pos hs]
        rw [mrg_self]
        repeat' split
        all_goals first | exact h | exact inv_choose h hk (okR_3 h1) (by first | exact Or.inl rfl | exact Or.inr rfl) (by first | exact Or.inl rfl | exact Or.inr rfl)
      · have e : fX8_isSealed S (ix k) = 0 := by unfold fX8_isSealed; rw [if_pos (Int32.not_lt.mp hs)]
        simp only [if_pos e, if_neg hs]
        rw [mrg_self]
        repeat' split
        all_goals first | exact h | exact inv_choose h hk (okR_3 h1) (by first | exact Or.inl rfl | exact Or.inr rfl) (by first | exact Or.inl rfl | exact Or.inr rfl)
    · rw [if_neg h1, if_pos (Decidable.byContradiction fun q => h1 ((in_R _ _ _).mp q))]
      exact inv_same h
  · rw [if_neg h0, if_pos (Decidable.byContradiction fun q => h0 ((suit_I hN k).mp q))]
    exact inv_same h
theorem kp_help {S : St} (h : Inv S) (k much : Int32) : Inv (mrg (fX8_help S k much).2.2 (fX7_help S k much).2.2) := by
  have hN := h.m
  unfold fX8_help fX7_help
  by_cases h0 : okI k (S 28 0)
  · rw [if_pos h0, if_neg ((suit_I hN k).mpr h0)]
    by_cases h1 : okR much 0 10
    · rw [if_pos h1, if_neg ((in_R _ _ _).mpr h1)]
      have hk := okI_l h0 hN.n28 (by have := hN.b28; omega)
      rw [over_eq (h.st _ hk)]
      by_cases ho : fX8_isOver S (ix k) = 0
      · rw [if_pos ho]
        exact inv_same (inv_help h hk)
      · rw [if_neg ho]
        exact inv_same h
    · rw [if_neg h1, if_pos (Decidable.byContradiction fun q => h1 ((in_R _ _ _).mp q))]
      exact inv_same h
  · rw [if_neg h0, if_pos (Decidable.byContradiction fun q => h0 ((suit_I hN k).mp q))]
    exact inv_same h
theorem kp_deal {S : St} (h : Inv S) (t o_ much : Int32) : Inv (mrg (fX8_deal S t o_ much).2.2 (fX7_deal S t o_ much).2.2) := by
  have hN := h.m
  unfold fX8_deal fX7_deal
  by_cases h0 : okI t 8
  · rw [if_pos h0, if_neg ((teller_I t).mpr h0)]
    by_cases h1 : okI o_ 8
    · rw [if_pos h1, if_neg ((teller_I o_).mpr h1)]
      have lt := okI_l (N := 8) h0 (by decide) (by decide)
      by_cases hto : t = o_
      · rw [if_pos hto, if_pos hto]
        exact inv_same h
      · rw [if_neg hto, if_neg hto]
        by_cases h2 : okR much 1 100
        · rw [if_pos h2, if_neg ((in_R _ _ _).mpr h2)]
          by_cases hc : S 23 0 = 20
          · rw [if_pos hc, if_pos ((full_I hN.n23 hN.b23 (by decide) (by decide)).mpr hc)]
            exact inv_same h
          · have eg : gsum S t (ndl S) = S 60 (ix t) := by rw [h.g _ lt, ← okI_e h0]
            rw [if_neg hc, if_neg (fun q => hc ((full_I hN.n23 hN.b23 (by decide) (by decide)).mp q)), deal_sum, eg]
            by_cases hs : (100 : Int32) < S 60 (ix t) + much
            · rw [if_pos hs, if_neg (Int32.not_le.mpr hs)]
              exact inv_same h
            · rw [if_neg hs, if_pos (Int32.not_lt.mp hs)]
              exact inv_deal h (ne_ix hN.n23 hN.b23 hc (by decide) (by decide)) lt (okI_e h0) (okI_in (N := 8) h1 (by decide) (by decide))
        · rw [if_neg h2, if_pos (in_nR h2)]
          exact inv_same h
    · rw [if_neg h1, if_pos (Decidable.byContradiction fun q => h1 ((teller_I o_).mp q))]
      exact inv_same h
  · rw [if_neg h0, if_pos (Decidable.byContradiction fun q => h0 ((teller_I t).mp q))]
    exact inv_same h
theorem kp_file {S : St} (h : Inv S) (t f set : Int32) : Inv (mrg (fX8_file S t f set).2.2 (fX7_file S t f set).2.2) := by
  have hN := h.m
  unfold fX8_file fX7_file
  by_cases h0 : okI t 8
  · rw [if_pos h0, if_neg ((teller_I t).mpr h0)]
    by_cases h1 : okI f 6
    · rw [if_pos h1, if_neg ((firm_I f).mpr h1)]
      by_cases h2 : okR set 1 65535
      · rw [if_pos h2, if_neg ((in_R _ _ _).mpr h2)]
        by_cases hs : (set &&& ((S 21 (ix t)) ^^^ (-1))) = 0
        · rw [if_pos hs, if_pos (knows_i.mpr hs)]
          by_cases hc : S 28 0 = 12
          · rw [if_pos hc, if_pos ((full_I hN.n28 hN.b28 (by decide) (by decide)).mpr hc)]
            exact inv_same h
          · rw [if_neg hc, if_neg (fun q => hc ((full_I hN.n28 hN.b28 (by decide) (by decide)).mp q))]
            exact kv_file h (ne_ix hN.n28 hN.b28 hc (by decide) (by decide)) (okI_in (N := 8) h0 (by decide) (by decide)) (okI_in (N := 6) h1 (by decide) (by decide)) (set16_R h2)
        · rw [if_neg hs, if_neg (fun q => hs (knows_i.mp q))]
          exact inv_same h
      · rw [if_neg h2, if_pos (Decidable.byContradiction fun q => h2 ((in_R _ _ _).mp q))]
        exact inv_same h
    · rw [if_neg h1, if_pos (Decidable.byContradiction fun q => h1 ((firm_I f).mp q))]
      exact inv_same h
  · rw [if_neg h0, if_pos (Decidable.byContradiction fun q => h0 ((teller_I t).mp q))]
    exact inv_same h
theorem kp_amend {S : St} (h : Inv S) (k set : Int32) : Inv (mrg (fX8_amend S k set).2.2 (fX7_amend S k set).2.2) := by
  have hN := h.m
  unfold fX8_amend fX7_amend
  by_cases h0 : okI k (S 28 0)
  · rw [if_pos h0, if_neg ((suit_I hN k).mpr h0)]
    by_cases h1 : okR set 1 65535
    · rw [if_pos h1, if_neg ((in_R _ _ _).mpr h1)]
      have hk := okI_l h0 hN.n28 (by have := hN.b28; omega)
      rw [over_eq (h.st _ hk)]
      by_cases ho : fX8_isOver S (ix k) = 0
      · rw [if_pos ho, if_pos ho]
        by_cases hs : (set &&& ((S 21 (ix (S 29 (ix k)))) ^^^ (-1))) = 0
        · rw [if_pos hs, if_pos (knows_i.mpr hs)]
          by_cases hc : S 42 0 = 40
          · rw [if_pos hc, if_pos ((full_I hN.n42 hN.b42 (by decide) (by decide)).mpr hc)]
            exact inv_same h
          · rw [if_neg hc, if_neg (fun q => hc ((full_I hN.n42 hN.b42 (by decide) (by decide)).mp q))]
            exact kv_amend h hk (ne_ix hN.n42 hN.b42 hc (by decide) (by decide)) (okI_e h0) (sub16_or (h.p _ hk).s32 (set16_R h1)) (set16_or (h.p _ hk).s32 (set16_R h1))
        · rw [if_neg hs, if_neg (fun q => hs (knows_i.mp q))]
          exact inv_same h
      · rw [if_neg ho, if_neg ho]
        exact inv_same h
    · rw [if_neg h1, if_pos (Decidable.byContradiction fun q => h1 ((in_R _ _ _).mp q))]
      exact inv_same h
  · rw [if_neg h0, if_pos (Decidable.byContradiction fun q => h0 ((suit_I hN k).mp q))]
    exact inv_same h
theorem kp_judge {S : St} (h : Inv S) (k : Int32) : Inv (mrg (fX8_judge S k).2.2 (fX7_judge S k).2.2) := by
  have hN := h.m
  unfold fX8_judge fX7_judge
  by_cases h0 : okI k (S 28 0)
  · rw [if_pos h0, if_neg ((suit_I hN k).mpr h0)]
    have hk := okI_l h0 hN.n28 (by have := hN.b28; omega)
    unfold bX8_judge_86 jX8_judge_86 fX5_isReady
    rw [h.w.due hk, min_two]
    by_cases g1 : S 34 (ix k) = 1
    · rw [if_pos g1, if_pos g1, if_pos (show ¬ (1 : Int32) = 0 by decide)]
      exact inv_win h hk
    · rw [if_neg g1, if_neg g1]
      by_cases g2 : S 34 (ix k) = 2
      · rw [if_pos g2, if_pos g2, if_pos (show ¬ (1 : Int32) = 0 by decide)]
        exact inv_win h hk
      · rw [if_neg g2, if_neg g2, if_neg (show ¬ ¬ (0 : Int32) = 0 by decide)]
        exact inv_same h
  · rw [if_neg h0, if_pos (Decidable.byContradiction fun q => h0 ((suit_I hN k).mp q))]
    exact inv_same h
theorem kp_settle {S : St} (h : Inv S) (k sum : Int32) : Inv (mrg (fX8_settle S k sum).2.2 (fX7_settle S k sum).2.2) := by
  have hN := h.m
  unfold fX8_settle fX7_settle
  by_cases h0 : okI k (S 28 0)
  · rw [if_pos h0, if_neg ((suit_I hN k).mpr h0)]
    by_cases h1 : okR sum 0 100000000
    · rw [if_pos h1, if_neg ((in_R _ _ _).mpr h1)]
      have hk := okI_l h0 hN.n28 (by have := hN.b28; omega)
      unfold fX5_isReady
      rw [h.w.due hk]
      by_cases g1 : S 34 (ix k) = 1
      · simp only [if_pos g1]
        rw [if_pos (show ¬ (1 : Int32) = 0 by decide), if_neg (show ¬ S 34 (ix k) = 2 by rw [g1]; decide)]
        by_cases hm : S 2 (ix (S 30 (ix k))) < sum
        · rw [if_pos hm, if_pos hm]
          exact inv_same h
        · rw [if_neg hm, if_neg hm]
          exact inv_win h hk
      · simp only [if_neg g1]
        by_cases g2 : S 34 (ix k) = 2
        · simp only [if_pos g2]
          rw [if_pos (show ¬ (1 : Int32) = 0 by decide)]
          by_cases hm : S 2 (ix (S 30 (ix k))) < sum
          · rw [if_pos hm, if_pos hm]
            exact inv_same h
          · rw [if_neg hm, if_neg hm]
            by_cases hd : 5 * sum < fX8_dues S (ix k)
            · rw [if_pos hd, if_pos hd]
              exact inv_same h
            · rw [if_neg hd, if_neg hd]
              exact inv_win h hk
        · simp only [if_neg g2]
          rw [if_neg (fun q => q trivial)]
          exact inv_same h
    · rw [if_neg h1, if_pos (Decidable.byContradiction fun q => h1 ((in_R _ _ _).mp q))]
      exact inv_same h
  · rw [if_neg h0, if_pos (Decidable.byContradiction fun q => h0 ((suit_I hN k).mp q))]
    exact inv_same h
theorem kp_work {S : St} (h : Inv S) (t f its : Int32) : Inv (mrg (fX8_work S t f its).2.2 (fX7_work S t f its).2.2) := by
  have hN := h.m
  unfold fX8_work fX7_work
  by_cases h0 : okI t 8
  · rw [if_pos h0, if_neg ((teller_I t).mpr h0)]
    by_cases h1 : okI f 6
    · rw [if_pos h1, if_neg ((firm_I f).mpr h1)]
      by_cases h2 : okR its 0 999
      · rw [if_pos h2, if_neg ((in_R _ _ _).mpr h2)]
        exact inv_same (inv_work h)
      · rw [if_neg h2, if_pos (Decidable.byContradiction fun q => h2 ((in_R _ _ _).mp q))]
        exact inv_same h
    · rw [if_neg h1, if_pos (Decidable.byContradiction fun q => h1 ((firm_I f).mp q))]
      exact inv_same h
  · rw [if_neg h0, if_pos (Decidable.byContradiction fun q => h0 ((teller_I t).mp q))]
    exact inv_same h
theorem kp_tell {S : St} (h : Inv S) (f t : Int32) : Inv (mrg (fX8_tell S f t).2.2 (fX7_tell S f t).2.2) := by
  have hN := h.m
  unfold fX8_tell fX7_tell
  by_cases h0 : okI f 6
  · rw [if_pos h0, if_neg ((firm_I f).mpr h0)]
    by_cases h1 : okI t 8
    · rw [if_pos h1, if_neg ((teller_I t).mpr h1)]
      rw [place_ix2 h0 h1]
      by_cases h51 : S 51 (8 * ix f + ix t) = -1
      · rw [if_pos h51, if_pos h51]
        exact inv_same (inv_tell h)
      · rw [if_neg h51, if_neg h51, up_same rfl]
        exact inv_same h
    · rw [if_neg h1, if_pos (Decidable.byContradiction fun q => h1 ((teller_I t).mp q))]
      exact inv_same h
  · rw [if_neg h0, if_pos (Decidable.byContradiction fun q => h0 ((firm_I f).mp q))]
    exact inv_same h
theorem kp_fire {S : St} (h : Inv S) (f t : Int32) : Inv (mrg (fX8_fire S f t).2.2 (fX7_fire S f t).2.2) := by
  have hN := h.m
  unfold fX8_fire fX7_fire
  by_cases h0 : okI f 6
  · rw [if_pos h0, if_neg ((firm_I f).mpr h0)]
    by_cases h1 : okI t 8
    · rw [if_pos h1, if_neg ((teller_I t).mpr h1)]
      rw [place_ix2 h0 h1, would_eq h0 h1 h.o.o h.t h.td]
      by_cases hw : S 49 (ix t) = f
      · rw [if_pos hw, if_pos hw]
        by_cases c1 : S 1 0 < fX8_tellsFrom S (ix f) (ix t)
        · rw [if_pos c1, if_pos c1, if_pos rfl]
          exact inv_fire h (Or.inl rfl) h.td rfl
        · rw [if_neg c1, if_neg c1]
          by_cases c2 : 90 < S 1 0 - fX8_tellsFrom S (ix f) (ix t)
          · rw [if_pos c2, if_pos c2, if_pos rfl]
            exact inv_fire h (Or.inl rfl) h.td rfl
          · rw [if_neg c2, if_neg c2, if_neg (by decide)]
            exact inv_fire h (Or.inr rfl) h.td rfl
      · rw [if_neg hw, if_neg hw]
        exact inv_same h
    · rw [if_neg h1, if_pos (Decidable.byContradiction fun q => h1 ((teller_I t).mp q))]
      exact inv_same h
  · rw [if_neg h0, if_pos (Decidable.byContradiction fun q => h0 ((firm_I f).mp q))]
    exact inv_same h
theorem kp_award {S : St} (h : Inv S) (f t : Int32) : Inv (mrg (fX8_award S f t).2.2 (fX7_award S f t).2.2) := by
  have hN := h.m
  unfold fX8_award fX7_award
  by_cases h0 : okI f 6
  · rw [if_pos h0, if_neg ((firm_I f).mpr h0)]
    by_cases h1 : okI t 8
    · rw [if_pos h1, if_neg ((teller_I t).mpr h1)]
      have lf := okI_l (N := 6) h0 (by decide) (by decide)
      have lt := okI_l (N := 8) h1 (by decide) (by decide)
      have hq : 8 * ix f + ix t < 48 := by omega
      unfold bX8_award_131 jX8_award_131 jX8_award_131_v2
      rw [place_ix2 h0 h1]
      by_cases h54 : S 54 (8 * ix f + ix t) = 0
      · rw [if_pos h54, if_pos ((h.a.i hq).mpr h54)]
        exact inv_same h
      · rw [if_neg h54, if_neg (fun q => h54 ((h.a.i hq).mp q))]
        have e62 : S 62 (8 * ix f + ix t) = S 52 (8 * ix f + ix t) := by rw [(h.a _ hq).1, if_neg h54]
        rw [e62]
        by_cases hd : S 1 0 - S 52 (8 * ix f + ix t) ≤ 400
        · rw [if_pos hd, if_neg (Int32.not_lt.mpr hd), two_mul_c, min_two]
          exact inv_award h
        · rw [if_neg hd, if_pos (Int32.not_le.mp hd), two_mul_c, min_two]
          exact inv_award h
    · rw [if_neg h1, if_pos (Decidable.byContradiction fun q => h1 ((teller_I t).mp q))]
      exact inv_same h
  · rw [if_neg h0, if_pos (Decidable.byContradiction fun q => h0 ((firm_I f).mp q))]
    exact inv_same h
theorem day_add {x y : Int32} (hx : dayR x) (hy : okR y 1 300) (hle : x + y ≤ 3000) : dayR (x + y) ∧ x ≤ x + y := by
  obtain ⟨a, ha, rfl⟩ := hx
  obtain ⟨b, hb, rfl⟩ := okR_n (v := y) (b := 300) (N := 300) ⟨fun q => hy.1 (Int32.lt_trans q (by decide)), hy.2⟩ (by decide) (by decide)
  rw [nI_add] at hle ⊢
  rw [show (3000 : Int32) = nI 3000 by decide, nI_leI (by omega) (by decide)] at hle
  exact ⟨⟨a + b, hle, rfl⟩, (nI_leI (by omega) (by omega)).mpr (by omega)⟩
theorem kp_pass {S : St} (h : Inv S) (days : Int32) : Inv (mrg (fX8_pass S days).2.2 (fX7_pass S days).2.2) := by
  have hN := h.m
  unfold fX8_pass fX7_pass
  by_cases h0 : okR days 1 300
  · rw [if_pos h0, if_neg ((in_R _ _ _).mpr h0)]
    by_cases hs : (3000 : Int32) < S 1 0 + days
    · rw [if_pos hs, if_neg (Int32.not_le.mpr hs)]
      exact inv_same h
    · rw [if_neg hs, if_pos (Int32.not_lt.mp hs)]
      obtain ⟨p1, p2⟩ := day_add h.td h0 (Int32.not_lt.mp hs)
      exact inv_same (inv_pass h p1 p2)
  · rw [if_neg h0, if_pos (Decidable.byContradiction fun q => h0 ((in_R _ _ _).mp q))]
    exact inv_same h
theorem kp_covers {S : St} (h : Inv S) (k s_ : Int32) : Inv (mrg (fX8_covers S k s_).2.2 (fX7_covers S k s_).2.2) := by
  have e8 : (fX8_covers S k s_).2.2 = S := by
    unfold fX8_covers
    repeat' split
    all_goals rfl
  have e7 : (fX7_covers S k s_).2.2 = S := by
    unfold fX7_covers
    repeat' split
    all_goals rfl
  rw [e8, e7]
  exact inv_same h
theorem kp_bars {S : St} (h : Inv S) (k s_ : Int32) : Inv (mrg (fX8_bars S k s_).2.2 (fX7_bars S k s_).2.2) := by
  have e8 : (fX8_bars S k s_).2.2 = S := by
    unfold fX8_bars
    repeat' split
    all_goals rfl
  have e7 : (fX7_bars S k s_).2.2 = S := by
    unfold fX7_bars
    repeat' split
    all_goals rfl
  rw [e8, e7]
  exact inv_same h
theorem kp_first {S : St} (h : Inv S) (s_ : Int32) : Inv (mrg (fX8_first S s_).2.2 (fX7_first S s_).2.2) := by
  have e8 : (fX8_first S s_).2.2 = S := by
    unfold fX8_first
    repeat' split
    all_goals rfl
  have e7 : (fX7_first S s_).2.2 = S := by
    unfold fX7_first
    repeat' split
    all_goals rfl
  rw [e8, e7]
  exact inv_same h
theorem kp_due {S : St} (h : Inv S) (k : Int32) : Inv (mrg (fX8_due S k).2.2 (fX7_due S k).2.2) := by
  have e8 : (fX8_due S k).2.2 = S := by
    unfold fX8_due
    repeat' split
    all_goals rfl
  have e7 : (fX7_due S k).2.2 = S := by
    unfold fX7_due
    repeat' split
    all_goals rfl
  rw [e8, e7]
  exact inv_same h
theorem kp_sees {S : St} (h : Inv S) (t k : Int32) : Inv (mrg (fX8_sees S t k).2.2 (fX7_sees S t k).2.2) := by
  have e8 : (fX8_sees S t k).2.2 = S := by
    unfold fX8_sees
    repeat' split
    all_goals rfl
  have e7 : (fX7_sees S t k).2.2 = S := by
    unfold fX7_sees
    repeat' split
    all_goals rfl
  rw [e8, e7]
  exact inv_same h
theorem kp_ofSuit {S : St} (h : Inv S) (k what : Int32) : Inv (mrg (fX8_ofSuit S k what).2.2 (fX7_ofSuit S k what).2.2) := by
  have e8 : (fX8_ofSuit S k what).2.2 = S := by
    unfold fX8_ofSuit
    repeat' split
    all_goals rfl
  have e7 : (fX7_ofSuit S k what).2.2 = S := by
    unfold fX7_ofSuit
    repeat' split
    all_goals rfl
  rw [e8, e7]
  exact inv_same h
theorem kp_ofClaim {S : St} (h : Inv S) (c_ what : Int32) : Inv (mrg (fX8_ofClaim S c_ what).2.2 (fX7_ofClaim S c_ what).2.2) := by
  have e8 : (fX8_ofClaim S c_ what).2.2 = S := by
    unfold fX8_ofClaim
    repeat' split
    all_goals rfl
  have e7 : (fX7_ofClaim S c_ what).2.2 = S := by
    unfold fX7_ofClaim
    repeat' split
    all_goals rfl
  rw [e8, e7]
  exact inv_same h
theorem kp_got {S : St} (h : Inv S) (t what : Int32) : Inv (mrg (fX8_got S t what).2.2 (fX7_got S t what).2.2) := by
  have e8 : (fX8_got S t what).2.2 = S := by
    unfold fX8_got
    repeat' split
    all_goals rfl
  have e7 : (fX7_got S t what).2.2 = S := by
    unfold fX7_got
    repeat' split
    all_goals rfl
  rw [e8, e7]
  exact inv_same h
theorem kp_ofFirm {S : St} (h : Inv S) (f what : Int32) : Inv (mrg (fX8_ofFirm S f what).2.2 (fX7_ofFirm S f what).2.2) := by
  have e8 : (fX8_ofFirm S f what).2.2 = S := by
    unfold fX8_ofFirm
    repeat' split
    all_goals rfl
  have e7 : (fX7_ofFirm S f what).2.2 = S := by
    unfold fX7_ofFirm
    repeat' split
    all_goals rfl
  rw [e8, e7]
  exact inv_same h
theorem kp_all {S : St} (h : Inv S) (what : Int32) : Inv (mrg (fX8_all S what).2.2 (fX7_all S what).2.2) := by
  have e8 : (fX8_all S what).2.2 = S := by
    unfold fX8_all
    repeat' split
    all_goals rfl
  have e7 : (fX7_all S what).2.2 = S := by
    unfold fX7_all
    repeat' split
    all_goals rfl
  rw [e8, e7]
  exact inv_same h
theorem kp_firstAnew {S : St} (h : Inv S) (s_ : Int32) : Inv (mrg (fX8_firstAnew S s_).2.2 (fX7_firstAnew S s_).2.2) := by
  have e8 : (fX8_firstAnew S s_).2.2 = S := by
    show (fX8_first S s_).2.2 = S
    unfold fX8_first
    repeat' split
    all_goals rfl
  have e7 : (fX7_firstAnew S s_).2.2 = S := by
    unfold fX7_firstAnew
    by_cases h0 : okI s_ (S 7 0)
    · rw [if_pos h0, anew_eq h.p (h.s _ (okI_l h0 h.m.n7 (by have := h.m.b7; omega))) h.pd.p h.m.b28]
    · rw [if_neg h0]
  rw [e8, e7]
  exact inv_same h
