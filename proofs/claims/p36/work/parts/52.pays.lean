/-! the claims that a win pays, scheme by scheme -/
theorem c7_19 {X : St} {w : Nat → Int32} {c a : Nat} {d : Int32} (h : w c = X 19 c) : fX7_counts (upr X 19 w) c a d = fX7_counts X c a d := by
  unfold fX7_counts
  rw [show upr X 19 w 16 = X 16 from rfl, show upr X 19 w 18 = X 18 from rfl, show upr X 19 w 13 = X 13 from rfl, show upr X 19 w 19 = w from rfl, h]
theorem upr2 (X : St) (w w2 : Nat → Int32) : upr (upr X 19 w) 19 w2 = upr X 19 w2 := upr_upr X 19 w w2
theorem RB_upr (X : St) (w : Nat → Int32) : RB X (upr X 19 w) := ⟨⟨rfl, rfl, rfl, rfl, rfl, rfl, rfl, rfl, rfl, rfl⟩, rfl, rfl, rfl, rfl⟩
theorem pays_one {X : St} {k n : Nat} (hP : PKs X) (hk : k < nsu X) (h9 : SK X n) (hR : DR X) (hn8 : n < 8) (hbar : fX8_bar X k n = 0) (w : Nat → Int32) (hw : ∀ c, c < ncl X → X 16 c = nI n → w c = X 19 c) : ∀ m, m ≤ ncl X → ∀ c, lX7_payClaimsOf_9 (upr X 19 w) n k m c = if c < m ∧ X 16 c = nI n ∧ ¬ fX8_counts X c k = 0 then nI k else w c := by
  have hP2 : PKs (upr X 19 w) := PKs_congr (RB_upr X w) rfl rfl rfl hP
  have hcov : fX5_coverDay (upr X 19 w) k n = fX5_coverDay X k n := by
    rw [cover_eq (hP2 k hk) h9, cover_eq (hP k hk) h9, dayOf_congr (RB_upr X w)]
  intro m
  induction m with
  | zero =>
    intro _ c
    rw [if_neg (fun h => absurd h.1 (Nat.not_lt_zero _))]
    rfl
  | succ m ih =>
    intro hm c
    have ihm := ih (by omega)
    show iX7_payClaimsOf_9 (upr X 19 w) n k m (lX7_payClaimsOf_9 (upr X 19 w) n k m) c = _
    unfold iX7_payClaimsOf_9
    rw [upr2, hcov]
    have hrow : lX7_payClaimsOf_9 (upr X 19 w) n k m m = w m := by
      rw [ihm m, if_neg (fun h => absurd h.1 (Nat.lt_irrefl _))]
    by_cases h16 : X 16 m = nI n
    · have h19 : lX7_payClaimsOf_9 (upr X 19 w) n k m m = X 19 m := hrow.trans (hw m (by omega) h16)
      rw [c7_19 h19, counts_eq hP hk h9 hR (by omega) (by omega) h16 hbar]
      by_cases hc : fX8_counts X m k = 0
      · rw [if_pos hc, ihm c]
        by_cases hcm : c = m
        · subst hcm
          rw [if_neg (fun h => absurd h.1 (Nat.lt_irrefl _)), if_neg (fun h => h.2.2 hc)]
        · by_cases hq : c < m ∧ X 16 c = nI n ∧ ¬ fX8_counts X c k = 0
          · rw [if_pos hq, if_pos ⟨by omega, hq.2⟩]
          · rw [if_neg hq, if_neg (fun h => hq ⟨by omega, h.2⟩)]
      · rw [if_neg hc]
        by_cases hcm : c = m
        · subst hcm
          rw [if_pos ⟨Nat.lt_succ_self _, h16, hc⟩]
          exact if_pos rfl
        · rw [show upd (lX7_payClaimsOf_9 (upr X 19 w) n k m) m (nI k) c = lX7_payClaimsOf_9 (upr X 19 w) n k m c from if_neg hcm, ihm c]
          by_cases hq : c < m ∧ X 16 c = nI n ∧ ¬ fX8_counts X c k = 0
          · rw [if_pos hq, if_pos ⟨by omega, hq.2⟩]
          · rw [if_neg hq, if_neg (fun h => hq ⟨by omega, h.2⟩)]
    · rw [show fX7_counts (upr X 19 (lX7_payClaimsOf_9 (upr X 19 w) n k m)) m n (fX5_coverDay X k n) = 0 by unfold fX7_counts; rw [show upr X 19 (lX7_payClaimsOf_9 (upr X 19 w) n k m) 16 = X 16 from rfl, if_neg h16], if_pos rfl, ihm c]
      by_cases hcm : c = m
      · subst hcm
        rw [if_neg (fun h => absurd h.1 (Nat.lt_irrefl _)), if_neg (fun h => h16 h.2.1)]
      · by_cases hq : c < m ∧ X 16 c = nI n ∧ ¬ fX8_counts X c k = 0
        · rw [if_pos hq, if_pos ⟨by omega, hq.2⟩]
        · rw [if_neg hq, if_neg (fun h => hq ⟨by omega, h.2⟩)]
theorem pays_all {X : St} {k : Nat} (hP : PKs X) (hk : k < nsu X) (h9 : SKs X) (hR : DR X) (hb : nsu X ≤ 12) (hb8 : nsc X ≤ 8) (h16 : ∀ c, c < ncl X → vp_in (X 16 c) 8) : fX7_payClaims X k = paidRow X k := by
  have key : ∀ n, n ≤ nsc X → ∀ c, lX7_payClaims_2 X k n c = if c < ncl X ∧ ix (X 16 c) < n ∧ ¬ fX8_counts X c k = 0 then nI k else X 19 c := by
    intro n
    induction n with
    | zero =>
      intro _ c
      rw [if_neg (fun h => absurd h.2.1 (Nat.not_lt_zero _))]
      rfl
    | succ n ih =>
      intro hn c
      have ihn := ih (by omega)
      have hs := h9 n (by omega)
      show iX7_payClaims_2 X k n (lX7_payClaims_2 X k n) c = _
      unfold iX7_payClaims_2
      rw [bar_eq (PKs_congr (RB_upr X _) rfl rfl rfl hP) hk hs hb, bar_congr (RB_upr X _)]
      by_cases hbar : fX8_bar X k n = 0
      · rw [if_pos hbar]
        show lX7_payClaimsOf_9 (upr X 19 (lX7_payClaims_2 X k n)) n k (ncl X) c = _
        rw [pays_one hP hk hs hR (by omega) hbar (lX7_payClaims_2 X k n) (fun c hc e => by rw [ihn c, if_neg (fun h => by have h2 := h.2.1; rw [e, show ix (nI n) = n from nI_clamp (by omega)] at h2; exact absurd h2 (Nat.lt_irrefl _))]) (ncl X) (Nat.le_refl _) c, ihn c]
        by_cases hc : c < ncl X
        · have hv := vp_ixe (h16 c hc)
          by_cases he : ix (X 16 c) = n
          · have e16 : X 16 c = nI n := by rw [hv, he]
            by_cases hq : fX8_counts X c k = 0
            · rw [if_neg (fun h => h.2.2 hq), if_neg (fun h => h.2.2 hq), if_neg (fun h => h.2.2 hq)]
            · rw [if_pos ⟨hc, e16, hq⟩, if_pos ⟨hc, by omega, hq⟩]
          · rw [if_neg (fun h => he (by rw [h.2.1]; exact nI_clamp (by omega)))]
            by_cases hq : c < ncl X ∧ ix (X 16 c) < n ∧ ¬ fX8_counts X c k = 0
            · rw [if_pos hq, if_pos ⟨hc, by omega, hq.2.2⟩]
            · rw [if_neg hq, if_neg (fun h => hq ⟨hc, by omega, h.2.2⟩)]
        · rw [if_neg (fun h => hc h.1), if_neg (fun h => hc h.1), if_neg (fun h => hc h.1)]
      · rw [if_neg hbar, ihn c]
        by_cases hq : c < ncl X ∧ ix (X 16 c) < n ∧ ¬ fX8_counts X c k = 0
        · rw [if_pos hq, if_pos ⟨hq.1, by omega, hq.2.2⟩]
        · rw [if_neg hq, if_neg ?_]
          rintro ⟨h1, h2, h3⟩
          by_cases he : ix (X 16 c) = n
          · exact h3 (counts_bar (by rw [he]; exact hbar))
          · exact hq ⟨h1, by omega, h3⟩
  funext c
  show lX7_payClaims_2 X k (nsc X) c = paidRow X k c
  rw [key (nsc X) (Nat.le_refl _) c]
  unfold paidRow
  by_cases hc : c < ncl X
  · have hs := hR.2.2 c hc
    by_cases hq : fX8_counts X c k = 0
    · rw [if_neg (fun h => h.2.2 hq), if_neg (fun h => h.2 hq)]
    · rw [if_pos ⟨hc, hs, hq⟩, if_pos ⟨hc, hq⟩]
  · rw [if_neg (fun h => hc h.1), if_neg (fun h => hc h.1)]
