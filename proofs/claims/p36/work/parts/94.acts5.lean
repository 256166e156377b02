/-! amend -/
theorem hup0 (L : St) (k i : Nat) : up L k i (L k i + 0) = L := up_same (Int32.add_zero _).symm
theorem g_amend {M : Nat} {S L : St} (hR : REL M S L) (hI : Inv S) {k x : Nat} (hk : k < nsu S) (hx0 : 0 < x) (hx : x < 256) : GOOD M S (bL_suits_115 L k (nI x)) := by
  have n42 := hI.m.n42
  have b42 := hI.m.b42
  have hs8 := hR.ur.1
  obtain ⟨x0, x1, x2, x3, x4, x5, x6⟩ := hR.q
  obtain ⟨u0, -, -, u3, -⟩ := hR.u k (by omega)
  obtain ⟨⟨t, ht, e29⟩, -⟩ := hR.ur.2.1 k (by omega)
  obtain ⟨y0, -⟩ := hR.t t ht
  have et : ix (nI t) = t := nI_clamp (by omega)
  have ek : ix (nI k) = k := nI_clamp (by omega)
  have hst := hI.st k hk
  have h0 : okI (nI k) (S 28 0) := okI_nI hI.m.n28 hk (by omega)
  have h1 : okR (nI x) 1 65535 := okR_nI (lo := 1) (hi := 65535) (by decide) (by decide) hx0 (by omega) (by decide)
  have hfull := full_I n42 b42 (c := 40) (K := 40) (by decide) (by decide)
  have hov : fX8_isOver S k = 0 ↔ ¬ 3 ≤ S 34 k := by
    unfold fX8_isOver
    have : (S 34 k < 3) ↔ ¬ 3 ≤ S 34 k := by rw [Int32.lt_iff_toInt_lt, Int32.le_iff_toInt_le]; omega
    by_cases c : S 34 k < 3
    · rw [if_pos c]; exact ⟨fun _ => this.mp c, fun _ => rfl⟩
    · rw [if_neg c]; exact ⟨fun q => absurd q (by decide), fun q => absurd (this.mpr q) c⟩
  have thr : xq8 S 4 (nI k) (nI x) 0 = (0, 3, S) → xq7 S 4 (nI k) (nI x) 0 = (0, 3, S) → GOOD M S (up L 11 5 (L 11 5 + 0), (4, nI k, nI x, 0), -1003) := fun e8 e7 => by
    rw [hup0]
    exact good_thr (by decide) e8 e7 hR
  unfold bL_suits_115
  by_cases c1 : 3 ≤ S 34 k
  · rw [u3, if_pos c1]
    have hno : ¬ fX8_isOver S k = 0 := fun q => hov.mp q c1
    refine thr ?_ ?_
    · show fX8_amend S (nI k) (nI x) = _
      unfold fX8_amend
      rw [if_neg ((suit_I hI.m _).mpr h0), if_neg ((in_R _ _ _).mpr h1), ek, if_neg hno]
    · show fX7_amend S (nI k) (nI x) = _
      unfold fX7_amend
      rw [if_pos h0, if_pos h1, ek, over_eq hst, if_neg hno]
  have hov0 := hov.mpr c1
  rw [u3, if_neg c1, u0, e29, et, y0]
  by_cases c2 : ¬ (nI x &&& ((S 21 t) ^^^ (-1))) = 0
  · rw [if_neg c2]
    refine thr ?_ ?_
    · show fX8_amend S (nI k) (nI x) = _
      unfold fX8_amend
      rw [if_neg ((suit_I hI.m _).mpr h0), if_neg ((in_R _ _ _).mpr h1), ek, if_pos hov0, e29, et, if_neg c2]
    · show fX7_amend S (nI k) (nI x) = _
      unfold fX7_amend
      rw [if_pos h0, if_pos h1, ek, over_eq hst, if_pos hov0, e29, et, if_neg (fun q => c2 (knows_i.mp q))]
  have c2 := Classical.not_not.mp c2
  rw [if_pos c2]
  have hkn : ¬ fX6_knowsAll S t (nI x) = 0 := knows_i.mpr c2
  rw [x5]
  by_cases c3 : 40 ≤ S 42 0
  · rw [if_pos c3, ← x5]
    refine thr ?_ ?_
    · show fX8_amend S (nI k) (nI x) = _
      unfold fX8_amend
      rw [if_neg ((suit_I hI.m _).mpr h0), if_neg ((in_R _ _ _).mpr h1), ek, if_pos hov0, e29, et, if_pos c2, if_pos (hfull.mp c3)]
    · show fX7_amend S (nI k) (nI x) = _
      unfold fX7_amend
      rw [if_pos h0, if_pos h1, ek, over_eq hst, if_pos hov0, e29, et, if_pos hkn, if_pos c3]
  rw [if_neg c3]
  have hc40 : ¬ S 42 0 = 40 := fun q => c3 (hfull.mpr q)
  have hlt : nam S < 40 := ne_ix n42 b42 hc40 (by decide) (by decide)
  obtain ⟨pf, pd, ⟨hn0, h65, hmono, e31, e33, e32, T, eT, hT, hTn⟩, hE⟩ := hR.e k hk
  have hb67 := hI.k.b67 k
  have n67 := hI.k.n67 k
  have hlast := (h65 (npp S k - 1) (by omega)).2.1
  have hz : S 32 k ||| nI x = nI (pf (npp S k - 1) ||| x) := by rw [e32, nI_or]
  have hz256 : pf (npp S k - 1) ||| x < 256 := Nat.or_lt_two_pow (n := 8) hlast hx
  generalize hA : up (up (up (up (up S 32 k (S 32 k ||| nI x)) 43 (nam S) (nI k)) 44 (nam S) (S 32 k ||| nI x)) 45 (nam S) (S 1 0)) 42 0 (S 42 0 + 1) = A
  generalize hB0 : up (up (up (up (up S 32 k (S 32 k ||| nI x)) 65 (64 * k + npp S k) (S 32 k ||| nI x)) 66 (64 * k + npp S k) (S 1 0)) 67 k (S 67 k + 1)) 42 0 (S 42 0 + 1) = B0
  have hB32 : fX7_notePaperDay B0 32 k = nI (pf (npp S k - 1) ||| x) := by
    rw [note_ne (by decide) (by decide)]
    have : B0 32 = upd (S 32) k (S 32 k ||| nI x) := by rw [← hB0]; rfl
    rw [this, upd_at, hz]
  have e8 : xq8 S 4 (nI k) (nI x) 0 = (fX8_bits (S 32 k ||| nI x), 0, A) := by
    show fX8_amend S (nI k) (nI x) = _
    unfold fX8_amend
    rw [if_neg ((suit_I hI.m _).mpr h0), if_neg ((in_R _ _ _).mpr h1), ek, if_pos hov0, e29, et, if_pos c2, if_neg hc40, hA]
  have e7 : xq7 S 4 (nI k) (nI x) 0 = (nI (nbits (pf (npp S k - 1) ||| x) 16), 0, fX7_notePaperDay B0) := by
    show fX7_amend S (nI k) (nI x) = _
    unfold fX7_amend
    rw [if_pos h0, if_pos h1, ek, over_eq hst, if_pos hov0, e29, et, if_pos hkn, if_neg c3, hB0, hB32, fbc_bits (by omega), bits_nat (by omega)]
  generalize hS' : mrg A (fX7_notePaperDay B0) = S'
  have hs : SU [32, 42, 43, 44, 45, 65, 66, 67] S S' := fun r hr hn => by
    rw [← hS']
    rcases Nat.lt_or_ge r 55 with q | q
    · rw [mrg_lt q, ← hA]
      repeat rw [up_nm (by decide) hn]
    · rw [mrg_ge (by omega), note_ne (by omega) (by omega), ← hB0]
      repeat rw [up_nm (cs := [32, 42, 43, 44, 45, 65, 66, 67]) (by decide) hn]
  have s42 : S' 42 = upd (S 42) 0 (S 42 0 + 1) := by rw [← hS', mrg_lt (by decide), ← hA]; rfl
  have s32 : S' 32 = upd (S 32) k (nI (pf (npp S k - 1) ||| x)) := by rw [← hS', mrg_lt (by decide), ← hA, ← hz]; rfl
  have s65 : S' 65 = upd (S 65) (64 * k + npp S k) (nI (pf (npp S k - 1) ||| x)) := by rw [← hS', mrg_ge (by decide), note_ne (by decide) (by decide), ← hB0, ← hz]; rfl
  have s66 : S' 66 = upd (S 66) (64 * k + npp S k) (S 1 0) := by rw [← hS', mrg_ge (by decide), note_ne (by decide) (by decide), ← hB0]; rfl
  have s67 : S' 67 = upd (S 67) k (S 67 k + 1) := by rw [← hS', mrg_ge (by decide), note_ne (by decide) (by decide), ← hB0]; rfl
  have s1 : S' 1 = S 1 := hs 1 (by decide) (by decide)
  have s31 : S' 31 = S 31 := hs 31 (by decide) (by decide)
  have s33 : S' 33 = S 33 := hs 33 (by decide) (by decide)
  have hns : nsu S' = nsu S := congrArg (fun w => ix (w 0)) (hs 28 (by decide) (by decide))
  generalize hL' : up (upr L 7 (lL_suits_164 L k (nI x) 8)) 11 5 (S 42 0 + 1) = L'
  have hl : LU [7, 11] L L' := fun r hn => by
    rw [← hL']
    repeat (first | rw [up_nm (by decide) hn] | rw [upr_nm (by decide) hn])
  have l11 : L' 11 = upd (L 11) 5 (S 42 0 + 1) := by rw [← hL']; rfl
  have l7 : L' 7 = lL_suits_164 L k (nI x) 8 := by rw [← hL']; rfl
  have hR' : REL M S' L' := by
    refine ⟨?_, hR.h.cg hs hl, hR.hr.cg hs, hR.c.cg hs hl, hR.b.cg hs hl, hR.t.cg hs hl, hR.d.cg hs hl, hR.u.cg hs hl, hR.ur.cg hs, hR.m.cg (Nat.le_refl _) hs hl, hR.r.cg hs hl, fun k' hk' => ?_⟩
    · unfold RQ
      rw [l11, s42, s1, hs 7 (by decide) (by decide), hs 15 (by decide) (by decide), hs 23 (by decide) (by decide), hs 28 (by decide) (by decide), hs 6 (by decide) (by decide)]
      exact ⟨x0, x1, x2, x3, x4, rfl, x6⟩
    · rw [hns] at hk'
      by_cases e : k' = k
      · subst e
        have hnp : npp S' k' = npp S k' + 1 := by
          show ix (S' 67 k') = _
          rw [s67, upd_at, n67, nI_1]
          exact nI_clamp (by omega)
        refine ⟨fun j => if j = npp S k' then pf (npp S k' - 1) ||| x else pf j, fun j => if j = npp S k' then T else pd j, ?_, fun b hb => ?_⟩
        · unfold PPs
          rw [hnp, s31, s32, s33, s65, s66, s1]
          refine ⟨by omega, fun j hj => ?_, fun i j hij hj => ?_, ?_, ?_, ?_, T, eT, hT, ?_⟩
          · by_cases q : j = npp S k'
            · subst q
              dsimp only; rw [if_pos rfl, if_pos rfl, upd_at, upd_at]
              exact ⟨rfl, hz256, eT, hT⟩
            · dsimp only; rw [if_neg q, if_neg q, upd_off (by omega), upd_off (by omega)]
              exact h65 j (by omega)
          · by_cases q : j = npp S k'
            · by_cases q2 : i = npp S k'
              · rw [q, q2]
                exact ⟨Nat.le_refl _, fun _ w => w⟩
              · obtain ⟨w1, w2⟩ := hmono i (npp S k' - 1) (by omega) (by omega)
                dsimp only; rw [if_neg q2, if_pos q, if_neg q2, if_pos q]
                refine ⟨by omega, fun b w => ?_⟩
                rw [Nat.testBit_or, w2 b w]
                rfl
            · dsimp only; rw [if_neg (show ¬ i = npp S k' by omega), if_neg q, if_neg (show ¬ i = npp S k' by omega), if_neg q]
              exact hmono i j hij (by omega)
          · dsimp only; rw [if_neg (by omega)]; exact e31
          · dsimp only; rw [if_neg (by omega)]; exact e33
          · dsimp only; rw [upd_at, show npp S k' + 1 - 1 = npp S k' by omega, if_pos rfl]
          · dsimp only; rw [show npp S k' + 1 - 1 = npp S k' by omega, if_pos rfl]
            exact Nat.le_refl _
        · rw [hnp, l7, amend_row L k' (nI x) 8 (Nat.le_refl _), show 8 * k' + b - 8 * k' = b by omega, bit_val hx hb]
          rcases hE b hb with ⟨hno, e0⟩ | ⟨j, hj, hjb, hjf, e0⟩
          · by_cases q : x.testBit b = true
            · rw [if_pos ⟨by omega, by omega, by rw [if_pos q], e0⟩]
              refine Or.inr ⟨npp S k', by omega, ?_, fun i hi => ?_, ?_⟩
              · dsimp only; rw [if_pos rfl, Nat.testBit_or, q, Bool.or_true]
              · dsimp only; rw [if_neg (by omega)]; exact hno i hi
              · dsimp only; rw [if_pos rfl, if_neg (by omega), x0, eT, nI_1]
            · rw [if_neg (fun w => by rw [if_neg q] at w; exact absurd w.2.2.1 (by decide))]
              refine Or.inl ⟨fun j hj => ?_, e0⟩
              by_cases q2 : j = npp S k'
              · dsimp only; rw [if_pos q2, Nat.testBit_or, hno _ (by omega)]
                simpa using q
              · dsimp only; rw [if_neg q2]; exact hno j (by omega)
          · have hp := (h65 j hj).2.2.2
            have hne : ¬ L 7 (8 * k' + b) = 0 := by
              rw [e0]
              refine nI_ne0 (by omega) ?_
              split <;> omega
            rw [if_neg (fun w => hne w.2.2.2)]
            refine Or.inr ⟨j, by omega, ?_, fun i hi => ?_, ?_⟩
            · dsimp only; rw [if_neg (by omega)]; exact hjb
            · dsimp only; rw [if_neg (by omega)]; exact hjf i hi
            · dsimp only; rw [if_neg (show ¬ j = npp S k' by omega)]; exact e0
      · obtain ⟨pf', pd', ⟨hn0', h65', hmono', e31', e33', e32', T2, eT2, hT2, hTn2⟩, hE'⟩ := hR.e k' hk'
        have hnp : npp S' k' = npp S k' := by
          show ix (S' 67 k') = ix (S 67 k')
          rw [s67, upd_off e]
        have hb67' := hI.k.b67 k'
        refine ⟨pf', pd', ?_, fun b hb => ?_⟩
        · unfold PPs
          rw [hnp, s31, s32, s33, s65, s66, s1, upd_off e]
          refine ⟨hn0', fun j hj => ?_, hmono', e31', e33', e32', T2, eT2, hT2, hTn2⟩
          rw [upd_off (by omega), upd_off (by omega)]
          exact h65' j hj
        · rw [hnp, l7, amend_row L k (nI x) 8 (Nat.le_refl _), if_neg (by omega)]
          exact hE' b hb
  have hex : fL_ones (fL_had L' k 3000) = nI (nbits (pf (npp S k - 1) ||| x) 16) := by
    rw [(had_all hR' (by rw [hns]; exact hk)).1, s32, upd_at, ones_256 _ hz256]
  rw [hex]
  exact good_ok e8 e7 (by rw [hS']; exact hR')
