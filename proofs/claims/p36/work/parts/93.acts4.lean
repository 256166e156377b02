/-! file, amend -/
theorem had_all {M : Nat} {S L : St} (hR : REL M S L) {k : Nat} (hk : k < nsu S) : fL_had L k 3000 = S 32 k ∧ ∃ x, x < 256 ∧ S 32 k = nI x := by
  obtain ⟨pf, pd, ⟨hn0, h65, hmono, e31, e33, e32, T, eT, hT, hTn⟩, hE⟩ := hR.e k hk
  have hpd : ∀ j, j < npp S k → pd j ≤ 3000 := fun j hj => (h65 j hj).2.2.2
  obtain ⟨h, hh, eh, hb⟩ := had_spec (L := L) (k := k) (D := 3000) hpd (Nat.le_refl _) hE (fun i j h1 h2 => (hmono i j h1 h2).1) (fun j hj => (h65 j hj).2.1)
  have e : h = pf (npp S k - 1) := Nat.eq_of_testBit_eq fun b => by
    rw [Bool.eq_iff_iff, hb]
    constructor
    · rintro ⟨j, hj, -, hjb⟩
      exact (hmono j _ (by omega) (by omega)).2 b hjb
    · exact fun q => ⟨_, by omega, hpd _ (by omega), q⟩
  rw [show (3000 : Int32) = nI 3000 by decide, eh, e32, e]
  exact ⟨rfl, _, (h65 _ (by omega)).2.1, rfl⟩
theorem files_row (L : St) (y : Int32) : ∀ m, m ≤ 8 → ∀ j, lL_files_187 L y m j = if 8 * q4 L ≤ j ∧ j < 8 * q4 L + m then ((y >>> ((nI (j - 8 * q4 L)) &&& 31)) &&& 1) * (L 11 0 + 4097) else L 7 j := by
  intro m
  induction m with
  | zero => exact fun _ j => by rw [if_neg (by omega)]; rfl
  | succ m ih =>
    intro hm j
    show upd (lL_files_187 L y m) (8 * q4 L + m) _ j = _
    by_cases e : j = 8 * q4 L + m
    · subst e
      rw [upd_at, if_pos (by omega), show 8 * q4 L + m - 8 * q4 L = m by omega]
    · rw [upd_off e, ih (by omega)]
      by_cases c : 8 * q4 L ≤ j ∧ j < 8 * q4 L + m
      · rw [if_pos c, if_pos (by omega)]
      · rw [if_neg c, if_neg (by omega)]
theorem bit_val {x b : Nat} (hx : x < 256) (hb : b < 8) : ((nI x >>> ((nI b) &&& 31)) &&& 1) = if x.testBit b = true then 1 else 0 := by
  rw [pk_shrN (by omega) _ b (shr_cnt b (by omega)), show (1 : Int32) = nI 1 by decide, nI_and, bit_and1]
  cases x.testBit b <;> simp <;> decide
theorem g_file {M : Nat} {S L : St} (hR : REL M S L) (hI : Inv S) {f t x : Nat} (hf : f < 3) (ht : t < 5) (hx0 : 0 < x) (hx : x < 256) (h8 : ¬ L 11 4 = 8) : ((nI x &&& ((L 4 (8 * t)) ^^^ (-1))) = 0 → GOOD M S (up (upr (up (up (up (up L 6 (8 * (q4 L)) (nI t)) 6 (8 * (q4 L) + 1) (nI f)) 6 (8 * (q4 L) + 2) (L 11 0)) 6 (8 * (q4 L) + 4) ((L 11 0) + 60)) 7 (lL_files_187 L (nI x) 8)) 11 4 ((L 11 4) + 1), (3, nI t, nI f, nI x), L 11 4)) ∧ (¬ (nI x &&& ((L 4 (8 * t)) ^^^ (-1))) = 0 → GOOD M S (L, (3, nI t, nI f, nI x), -1003)) := by
  have n28 := hI.m.n28
  have b28 := hI.m.b28
  obtain ⟨x0, x1, x2, x3, x4, x5, x6⟩ := hR.q
  obtain ⟨y0, -⟩ := hR.t t ht
  have hq4 : q4 L = nsu S := hR.q4e
  have hs8 := hR.ur.1
  rw [x4] at h8
  have hlt : nsu S < 8 := ne_ix n28 hs8 h8 (by decide) (by decide)
  have h0 : okI (nI t) 8 := okI_nI (by decide) (show t < 8 by omega) (by decide)
  have h1 : okI (nI f) 6 := okI_nI (by decide) (show f < 6 by omega) (by decide)
  have h2 : okR (nI x) 1 65535 := okR_nI (lo := 1) (hi := 65535) (by decide) (by decide) hx0 (by omega) (by decide)
  have et : ix (nI t) = t := nI_clamp (by omega)
  have hfull := full_I n28 b28 (c := 12) (K := 12) (by decide) (by decide)
  have hn12 : ¬ S 28 0 = 12 := fun q => by
    rw [n28, show (12 : Int32) = nI 12 by decide, nI_eq (by omega) (by decide)] at q
    omega
  rw [y0, x4]
  constructor
  · intro hc
    have hkn : ¬ fX6_knowsAll S t (nI x) = 0 := knows_i.mpr hc
    obtain ⟨T, hT, eT⟩ := hI.td
    generalize hA : up (up (up (up (up (up (up S 29 (nsu S) (nI t)) 30 (nsu S) (nI f)) 31 (nsu S) (nI x)) 32 (nsu S) (nI x)) 33 (nsu S) (S 1 0)) 36 (nsu S) ((S 1 0) + 60)) 28 0 ((S 28 0) + 1) = A
    generalize hB0 : up (up (up (up (up (up (up (up (up (up S 29 (nsu S) (nI t)) 30 (nsu S) (nI f)) 31 (nsu S) (nI x)) 32 (nsu S) (nI x)) 33 (nsu S) (S 1 0)) 36 (nsu S) ((S 1 0) + 60)) 65 (64 * (nsu S)) (nI x)) 66 (64 * (nsu S)) (S 1 0)) 67 (nsu S) 1) 28 0 ((S 28 0) + 1) = B0
    have hB28 : fX7_notePaperDay B0 28 0 - 1 = S 28 0 := by
      rw [note_ne (by decide) (by decide)]
      have : B0 28 = upd (S 28) 0 (S 28 0 + 1) := by rw [← hB0]; rfl
      rw [this, upd_at, n28, nI_1, nI_pred]
    have e8 : xq8 S 3 (nI t) (nI f) (nI x) = ((S 28 0) + 1 - 1, 0, A) := by
      show fX8_file S (nI t) (nI f) (nI x) = _
      unfold fX8_file
      rw [if_neg ((teller_I _).mpr h0), if_neg ((firm_I _).mpr h1), if_neg ((in_R _ _ _).mpr h2), et, if_pos hc, if_neg hn12, hA]
    have e7 : xq7 S 3 (nI t) (nI f) (nI x) = (S 28 0, 0, fX7_notePaperDay B0) := by
      show fX7_file S (nI t) (nI f) (nI x) = _
      unfold fX7_file
      rw [if_pos h0, if_pos h1, if_pos h2, et, if_pos hkn, if_neg (fun q => hn12 (hfull.mp q)), hB0, hB28]
    refine good_ok e8 e7 ?_
    generalize hS' : mrg A (fX7_notePaperDay B0) = S'
    have hs : SU [28, 29, 30, 31, 32, 33, 36, 65, 66, 67] S S' := fun r hr hn => by
      rw [← hS']
      rcases Nat.lt_or_ge r 55 with q | q
      · rw [mrg_lt q, ← hA]
        repeat rw [up_nm (by decide) hn]
      · rw [mrg_ge (by omega), note_ne (by omega) (by omega), ← hB0]
        repeat rw [up_nm (by decide) hn]
    have s28 : S' 28 = upd (S 28) 0 (S 28 0 + 1) := by rw [← hS', mrg_lt (by decide), ← hA]; rfl
    have s29 : S' 29 = upd (S 29) (nsu S) (nI t) := by rw [← hS', mrg_lt (by decide), ← hA]; rfl
    have s30 : S' 30 = upd (S 30) (nsu S) (nI f) := by rw [← hS', mrg_lt (by decide), ← hA]; rfl
    have s31 : S' 31 = upd (S 31) (nsu S) (nI x) := by rw [← hS', mrg_lt (by decide), ← hA]; rfl
    have s32 : S' 32 = upd (S 32) (nsu S) (nI x) := by rw [← hS', mrg_lt (by decide), ← hA]; rfl
    have s33 : S' 33 = upd (S 33) (nsu S) (S 1 0) := by rw [← hS', mrg_lt (by decide), ← hA]; rfl
    have s36 : S' 36 = upd (S 36) (nsu S) (S 1 0 + 60) := by rw [← hS', mrg_lt (by decide), ← hA]; rfl
    have s65 : S' 65 = upd (S 65) (64 * nsu S) (nI x) := by rw [← hS', mrg_ge (by decide), note_ne (by decide) (by decide), ← hB0]; rfl
    have s66 : S' 66 = upd (S 66) (64 * nsu S) (S 1 0) := by rw [← hS', mrg_ge (by decide), note_ne (by decide) (by decide), ← hB0]; rfl
    have s67 : S' 67 = upd (S 67) (nsu S) 1 := by rw [← hS', mrg_ge (by decide), note_ne (by decide) (by decide), ← hB0]; rfl
    have s1 : S' 1 = S 1 := hs 1 (by decide) (by decide)
    obtain ⟨c1, c2⟩ := cnt_up s28 n28 (by omega)
    have hns : nsu S' = nsu S + 1 := c2
    generalize hL' : up (upr (up (up (up (up L 6 (8 * (q4 L)) (nI t)) 6 (8 * (q4 L) + 1) (nI f)) 6 (8 * (q4 L) + 2) (L 11 0)) 6 (8 * (q4 L) + 4) ((L 11 0) + 60)) 7 (lL_files_187 L (nI x) 8)) 11 4 ((S 28 0) + 1) = L'
    have hl : LU [6, 7, 11] L L' := fun r hn => by
      rw [← hL']
      repeat (first | rw [up_nm (by decide) hn] | rw [upr_nm (by decide) hn])
    have l11 : L' 11 = upd (L 11) 4 (S 28 0 + 1) := by rw [← hL']; rfl
    have l7 : L' 7 = lL_files_187 L (nI x) 8 := by rw [← hL']; rfl
    have l6 : ∀ j, L' 6 j = if j = 8 * nsu S + 4 then S 1 0 + 60 else if j = 8 * nsu S + 2 then S 1 0 else if j = 8 * nsu S + 1 then nI f else if j = 8 * nsu S then nI t else L 6 j := fun j => by
      have : L' 6 = (up (up (up (up L 6 (8 * (q4 L)) (nI t)) 6 (8 * (q4 L) + 1) (nI f)) 6 (8 * (q4 L) + 2) (L 11 0)) 6 (8 * (q4 L) + 4) ((L 11 0) + 60)) 6 := by rw [← hL']; rfl
      rw [this, ← hq4, ← x0]
      simp only [up_app, true_and]
    have l8 : L' 8 = L 8 := hl 8 (by decide)
    have row7 : ∀ k b, b < 8 → ¬ k = nsu S → L' 7 (8 * k + b) = L 7 (8 * k + b) := fun k b hb hne => by
      rw [l7, files_row L (nI x) 8 (Nat.le_refl _), hq4, if_neg (by omega)]
    refine ⟨?_, hR.h.cg hs hl, hR.hr.cg hs, hR.c.cg hs hl, hR.b.cg hs hl, hR.t.cg hs hl, hR.d.cg hs hl, fun k hk => ?_, ⟨by omega, fun k hk => ?_, fun k hk => ?_⟩, hR.m.cg (Nat.le_refl _) hs hl, hR.r.cg hs hl, fun k hk => ?_⟩
    · unfold RQ
      rw [l11, s28, s1, hs 7 (by decide) (by decide), hs 15 (by decide) (by decide), hs 23 (by decide) (by decide), hs 42 (by decide) (by decide), hs 6 (by decide) (by decide)]
      exact ⟨x0, x1, x2, x3, rfl, x5, x6⟩
    · obtain ⟨u0, u1, u2, u3, u4, u5, u6, u7, u8, u9⟩ := hR.u k hk
      rw [s29, s30, s33, s36, hs 34 (by decide) (by decide), hs 37 (by decide) (by decide), hs 35 (by decide) (by decide), hs 38 (by decide) (by decide), hs 41 (by decide) (by decide), hs 39 (by decide) (by decide), hs 40 (by decide) (by decide), l8]
      simp only [l6]
      by_cases e : k = nsu S
      · subst e
        rw [upd_at, upd_at, upd_at, upd_at]
        refine ⟨?_, ?_, ?_, ?_, ?_, ?_, ?_, ?_, u8, u9⟩
        · rw [if_neg (by omega), if_neg (by omega), if_neg (by omega), if_pos rfl]
        · rw [if_neg (by omega), if_neg (by omega), if_pos rfl]
        · rw [if_neg (by omega), if_pos rfl]
        · rw [if_neg (by omega), if_neg (by omega), if_neg (by omega), if_neg (by omega)]; exact u3
        · rw [if_pos rfl]
        · rw [if_neg (by omega), if_neg (by omega), if_neg (by omega), if_neg (by omega)]; exact u5
        · rw [if_neg (by omega), if_neg (by omega), if_neg (by omega), if_neg (by omega)]; exact u6
        · rw [if_neg (by omega), if_neg (by omega), if_neg (by omega), if_neg (by omega)]; exact u7
      · rw [upd_off e, upd_off e, upd_off e, upd_off e]
        refine ⟨?_, ?_, ?_, ?_, ?_, ?_, ?_, ?_, u8, u9⟩
        all_goals rw [if_neg (by omega), if_neg (by omega), if_neg (by omega), if_neg (by omega)]
        · exact u0
        · exact u1
        · exact u2
        · exact u3
        · exact u4
        · exact u5
        · exact u6
        · exact u7
    · rw [s29, s30]
      by_cases e : k = nsu S
      · subst e
        rw [upd_at, upd_at]
        exact ⟨⟨t, ht, rfl⟩, ⟨f, hf, rfl⟩⟩
      · rw [upd_off e, upd_off e]
        exact hR.ur.2.1 k hk
    · rw [hns] at hk
      rw [s33, hs 38 (by decide) (by decide)]
      by_cases e : k = nsu S
      · subst e
        obtain ⟨-, -, -, z38, -⟩ := hI.z.2 (nsu S) (Nat.le_refl _)
        rw [upd_at, z38]
        exact ⟨hI.td, 0, by decide, by decide⟩
      · rw [upd_off e]
        exact hR.ur.2.2 k (by omega)
    · rw [hns] at hk
      by_cases e : k = nsu S
      · subst e
        have hnp : npp S' (nsu S) = 1 := by unfold npp; rw [s67, upd_at]; decide
        refine ⟨fun _ => x, fun _ => T, ?_, fun b hb => ?_⟩
        · unfold PPs
          rw [hnp, s31, s32, s33, s65, s66, s1]
          refine ⟨by decide, fun j hj => ?_, fun i j _ _ => ⟨Nat.le_refl _, fun _ q => q⟩, by rw [upd_at], by rw [upd_at, eT], by rw [upd_at], T, eT, hT, Nat.le_refl _⟩
          have hj0 : j = 0 := by omega
          subst hj0
          rw [show 64 * nsu S + 0 = 64 * nsu S by omega, upd_at, upd_at]
          exact ⟨rfl, hx, eT, hT⟩
        · rw [hnp, l7, files_row L (nI x) 8 (Nat.le_refl _), hq4, if_pos (by omega), show 8 * nsu S + b - 8 * nsu S = b by omega, bit_val hx hb, x0, eT, show (4097 : Int32) = nI 4097 by decide, nI_add]
          by_cases q : x.testBit b = true
          · refine Or.inr ⟨0, by decide, q, fun i hi => absurd hi (Nat.not_lt_zero i), ?_⟩
            rw [if_pos q, if_pos rfl, Int32.one_mul]
          · refine Or.inl ⟨fun j _ => by simpa using q, ?_⟩
            rw [if_neg q, Int32.zero_mul]
      · have hk : k < nsu S := by omega
        obtain ⟨pf, pd, ⟨hn0, h65, hmono, e31, e33, e32, T2, eT2, hT2, hTn⟩, hE⟩ := hR.e k hk
        have hnp : npp S' k = npp S k := by unfold npp; rw [s67, upd_off e]
        have hb67 := hI.k.b67 k
        refine ⟨pf, pd, ?_, fun b hb => ?_⟩
        · unfold PPs
          rw [hnp, s31, s32, s33, s65, s66, s1, upd_off e, upd_off e, upd_off e]
          refine ⟨hn0, fun j hj => ?_, hmono, e31, e33, e32, T2, eT2, hT2, hTn⟩
          rw [upd_off (by omega), upd_off (by omega)]
          exact h65 j hj
        · rw [hnp, row7 k b hb e]
          exact hE b hb
  · intro hc
    have e8 : xq8 S 3 (nI t) (nI f) (nI x) = (0, 3, S) := by
      show fX8_file S (nI t) (nI f) (nI x) = _
      unfold fX8_file
      rw [if_neg ((teller_I _).mpr h0), if_neg ((firm_I _).mpr h1), if_neg ((in_R _ _ _).mpr h2), et, if_neg hc]
    have e7 : xq7 S 3 (nI t) (nI f) (nI x) = (0, 3, S) := by
      show fX7_file S (nI t) (nI f) (nI x) = _
      unfold fX7_file
      rw [if_pos h0, if_pos h1, if_pos h2, et, if_neg (fun q => hc (knows_i.mp q))]
    exact good_thr (by decide) e8 e7 hR
theorem amend_row (L : St) (k : Nat) (y : Int32) : ∀ m, m ≤ 8 → ∀ j, lL_suits_164 L k y m j = if 8 * k ≤ j ∧ j < 8 * k + m ∧ ((y >>> ((nI (j - 8 * k)) &&& 31)) &&& 1) = 1 ∧ L 7 j = 0 then L 11 0 + 1 else L 7 j := by
  intro m
  induction m with
  | zero => exact fun _ j => by rw [if_neg (by omega)]; rfl
  | succ m ih =>
    intro hm j
    have hstep : lL_suits_164 L k y (m + 1) = iL_suits_164 L k y m (lL_suits_164 L k y m) := rfl
    have hown : lL_suits_164 L k y m (8 * k + m) = L 7 (8 * k + m) := by rw [ih (by omega), if_neg (by omega)]
    rw [hstep]
    unfold iL_suits_164
    by_cases e : j = 8 * k + m
    · subst e
      rw [show 8 * k + m - 8 * k = m by omega]
      by_cases c1 : ((y >>> ((nI m) &&& 31)) &&& 1) = 1
      · rw [if_pos c1, hown]
        by_cases c2 : L 7 (8 * k + m) = 0
        · rw [if_pos c2, upd_at, if_pos ⟨by omega, by omega, c1, c2⟩]
        · rw [if_neg c2, upd_at, if_neg (fun q => c2 q.2.2.2)]
      · rw [if_neg c1, upd_at, if_neg (fun q => c1 q.2.2.1), hown]
    · have same : (if 8 * k ≤ j ∧ j < 8 * k + m ∧ ((y >>> ((nI (j - 8 * k)) &&& 31)) &&& 1) = 1 ∧ L 7 j = 0 then L 11 0 + 1 else L 7 j) = (if 8 * k ≤ j ∧ j < 8 * k + (m + 1) ∧ ((y >>> ((nI (j - 8 * k)) &&& 31)) &&& 1) = 1 ∧ L 7 j = 0 then L 11 0 + 1 else L 7 j) := by
        by_cases c : 8 * k ≤ j ∧ j < 8 * k + m ∧ ((y >>> ((nI (j - 8 * k)) &&& 31)) &&& 1) = 1 ∧ L 7 j = 0
        · rw [if_pos c, if_pos ⟨c.1, by omega, c.2.2⟩]
        · rw [if_neg c, if_neg (fun q => c ⟨q.1, by omega, q.2.2⟩)]
      rw [← same, ← ih (by omega) j]
      split
      · split
        · rw [upd_off e]
        · rw [upd_off e]
      · rw [upd_off e]
