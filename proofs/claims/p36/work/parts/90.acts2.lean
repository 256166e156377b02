/-! claim, sample, learn, publish, plan, know -/
theorem g_claim {M : Nat} {S L : St} (hR : REL M S L) (hI : Inv S) {a m : Nat} (ha : a < nsc S) (hm0 : 0 < m) (hm : m ≤ 9999) : (40 ≤ L 11 2 → GOOD M S (L, (0, nI a, nI m, 0), -1003)) ∧ (¬ 40 ≤ L 11 2 → GOOD M S (up (up L 1 (q2 L) ((nI a + 8 * nI m) + 131072 * L 11 0)) 11 2 (L 11 2 + 1), (0, nI a, nI m, 0), L 11 2 + 1 - 1)) := by
  have hb7 := hI.m.b7
  have hb15 := hI.m.b15
  have n15 := hI.m.n15
  have h0 : okI (nI a) (S 7 0) := okI_nI hI.m.n7 ha (by omega)
  have h1 : okR (nI m) 1 9999 := okR_nI (lo := 1) (hi := 9999) (by decide) (by decide) hm0 hm (by decide)
  have hfull := full_I n15 hb15 (c := 40) (K := 40) (by decide) (by decide)
  obtain ⟨x0, x1, x2, x3, x4, x5, x6⟩ := hR.q
  have hq2 : q2 L = ncl S := hR.q2e
  rw [x2]
  constructor
  · intro hc
    refine good_thr (t := 3) (by decide) ?_ ?_ hR
    · show fX8_claim S (nI a) (nI m) = _
      unfold fX8_claim
      rw [if_neg ((scheme_I hI.m _).mpr h0), if_neg ((in_R _ _ _).mpr h1), if_pos (hfull.mp hc)]
    · show fX7_claim S (nI a) (nI m) = _
      unfold fX7_claim
      rw [if_pos h0, if_pos h1, if_pos hc]
  · intro hc
    have hlt : ncl S < 40 := ne_ix n15 hb15 (fun q => hc (hfull.mpr q)) (by decide) (by decide)
    have e8 : xq8 S 0 (nI a) (nI m) 0 = (S 15 0 + 1 - 1, 0, up (up (up (up (up S 16 (ncl S) (nI a)) 17 (ncl S) (nI m)) 18 (ncl S) (S 1 0)) 19 (ncl S) (-1)) 15 0 (S 15 0 + 1)) := by
      show fX8_claim S (nI a) (nI m) = _
      unfold fX8_claim
      rw [if_neg ((scheme_I hI.m _).mpr h0), if_neg ((in_R _ _ _).mpr h1), if_neg (fun q => hc (hfull.mpr q))]
    have e7 : xq7 S 0 (nI a) (nI m) 0 = (S 15 0 + 1 - 1, 0, up (up (up (up (up S 16 (ncl S) (nI a)) 17 (ncl S) (nI m)) 18 (ncl S) (S 1 0)) 19 (ncl S) (-1)) 15 0 (S 15 0 + 1)) := by
      show fX7_claim S (nI a) (nI m) = _
      unfold fX7_claim
      rw [if_pos h0, if_pos h1, if_neg hc]
    refine good_ok e8 e7 ?_
    rw [mrg_self]
    have hs : SU [15, 16, 17, 18, 19] S (up (up (up (up (up S 16 (ncl S) (nI a)) 17 (ncl S) (nI m)) 18 (ncl S) (S 1 0)) 19 (ncl S) (-1)) 15 0 (S 15 0 + 1)) := fun r _ hn => by repeat rw [up_nm (by decide) hn]
    have hl : LU [1, 11] L (up (up L 1 (q2 L) ((nI a + 8 * nI m) + 131072 * L 11 0)) 11 2 (S 15 0 + 1)) := fun r hn => by repeat rw [up_nm (by decide) hn]
    generalize hS' : up (up (up (up (up S 16 (ncl S) (nI a)) 17 (ncl S) (nI m)) 18 (ncl S) (S 1 0)) 19 (ncl S) (-1)) 15 0 (S 15 0 + 1) = S' at hs ⊢
    generalize hL' : up (up L 1 (q2 L) ((nI a + 8 * nI m) + 131072 * L 11 0)) 11 2 (S 15 0 + 1) = L' at hl ⊢
    have s15 : S' 15 = upd (S 15) 0 (S 15 0 + 1) := by rw [← hS']; rfl
    have s16 : S' 16 = upd (S 16) (ncl S) (nI a) := by rw [← hS']; rfl
    have s17 : S' 17 = upd (S 17) (ncl S) (nI m) := by rw [← hS']; rfl
    have s18 : S' 18 = upd (S 18) (ncl S) (S 1 0) := by rw [← hS']; rfl
    have s19 : S' 19 = upd (S 19) (ncl S) (-1) := by rw [← hS']; rfl
    have l1 : L' 1 = upd (L 1) (ncl S) ((nI a + 8 * nI m) + 131072 * L 11 0) := by rw [← hL', ← hq2]; rfl
    have l2 : L' 2 = L 2 := hl 2 (by decide)
    have l11 : L' 11 = upd (L 11) 2 (S 15 0 + 1) := by rw [← hL']; rfl
    obtain ⟨c1, c2⟩ := cnt_up s15 n15 (by omega)
    have hns : ncl S' = ncl S + 1 := c2
    have t7 : nsc S' = nsc S := congrArg (fun w => ix (w 0)) (hs 7 (by decide) (by decide))
    refine ⟨?_, hR.h.cg hs hl, hR.hr.cg hs, ?_, hR.b.cg hs hl, hR.t.cg hs hl, hR.d.cg hs hl, hR.u.cg hs hl, hR.ur.cg hs, hR.m.cg (Nat.le_refl _) hs hl, hR.r.cg hs hl, hR.e.cg hs hl⟩
    · unfold RQ
      rw [l11, s15, hs 1 (by decide) (by decide), hs 7 (by decide) (by decide), hs 23 (by decide) (by decide), hs 28 (by decide) (by decide), hs 42 (by decide) (by decide), hs 6 (by decide) (by decide)]
      exact ⟨x0, x1, rfl, x3, x4, x5, x6⟩
    · obtain ⟨p1, p2⟩ := hR.c
      obtain ⟨T, hT, eT⟩ := hI.td
      refine ⟨fun i hi => ?_, fun i hi => ?_⟩
      · rw [hns] at hi
        rw [s16, s17, s18, s19, l1, l2, t7]
        by_cases e : i = ncl S
        · subst e
          rw [upd_at, upd_at, upd_at, upd_at, upd_at]
          exact ⟨a, m, T, ha, hm, hT, rfl, rfl, eT, by rw [x0, eT, nI_3], by rw [(p2 _ (Nat.le_refl _)).2]; decide, Or.inl rfl⟩
        · rw [upd_off e, upd_off e, upd_off e, upd_off e, upd_off e]
          exact p1 i (by omega)
      · rw [hns] at hi
        rw [l1, l2, upd_off (by omega)]
        exact p2 i (by omega)
theorem g_sample {M : Nat} {S L : St} (hR : REL M S L) (hI : Inv S) {a n m : Nat} (ha : a < nsc S) (hn0 : 0 < n) (hn : n ≤ 20) (hm : m ≤ n) {L' : St} (hL' : L' = up (up L 0 (8 * a + 3) (nI n)) 0 (8 * a + 4) (nI m)) : GOOD M S (L', (14, nI a, nI n, nI m), 0) := by
  have hb7 := hI.m.b7
  have h0 : okI (nI a) (S 7 0) := okI_nI hI.m.n7 ha (by omega)
  have h1 : okR (nI n) 1 100 := okR_nI (lo := 1) (hi := 100) (by decide) (by decide) hn0 (by omega) (by decide)
  have h2 : okR (nI m) 0 (nI n) := okR_nI (lo := 0) (hi := n) (by decide) rfl (Nat.zero_le _) hm (by omega)
  have ea : ix (nI a) = a := nI_clamp (by omega)
  have e8' : fX8_sample S (nI a) (nI n) (nI m) = (0, up (up S 11 a (nI n)) 12 a (nI m)) := by
    unfold fX8_sample
    rw [if_neg ((scheme_I hI.m _).mpr h0), if_neg ((in_R _ _ _).mpr h1), if_neg ((in_R _ _ _).mpr h2), ea]
  have e8 : xq8 S 14 (nI a) (nI n) (nI m) = (0, 0, up (up S 11 a (nI n)) 12 a (nI m)) := by
    show (0, (fX8_sample S (nI a) (nI n) (nI m)).1, (fX8_sample S (nI a) (nI n) (nI m)).2) = _
    rw [e8']
  have e7 : xq7 S 14 (nI a) (nI n) (nI m) = (0, 0, up (up S 11 a (nI n)) 12 a (nI m)) := by
    show fX7_sample S (nI a) (nI n) (nI m) = _
    unfold fX7_sample
    rw [if_pos h0, if_pos h1, if_pos h2, ea]
  refine good_ok e8 e7 ?_
  rw [mrg_self]
  have hs : SU [11, 12] S (up (up S 11 a (nI n)) 12 a (nI m)) := fun r _ hn => by repeat rw [up_nm (by decide) hn]
  have hl : LU [0] L L' := fun r hn => by rw [hL']; repeat rw [up_nm (by decide) hn]
  have s11 : up (up S 11 a (nI n)) 12 a (nI m) 11 = upd (S 11) a (nI n) := rfl
  have s12 : up (up S 11 a (nI n)) 12 a (nI m) 12 = upd (S 12) a (nI m) := rfl
  have l0 : ∀ j, L' 0 j = if j = 8 * a + 4 then nI m else if j = 8 * a + 3 then nI n else L 0 j := fun j => by
    rw [hL']
    simp only [up_app, true_and]
  refine ⟨hR.q.cg hs hl, fun b hb => ?_, fun b hb => ?_, ?_, hR.b.cg hs hl, hR.t.cg hs hl, hR.d.cg hs hl, hR.u.cg hs hl, hR.ur.cg hs, hR.m.cg (Nat.le_refl _) hs hl, hR.r.cg hs hl, hR.e.cg hs hl⟩
  · obtain ⟨y0, y1, y2, y3, y4, y5, y6⟩ := hR.h b hb
    rw [s11, s12, hs 8 (by decide) (by decide), hs 9 (by decide) (by decide), hs 10 (by decide) (by decide), hs 13 (by decide) (by decide), hs 14 (by decide) (by decide)]
    simp only [l0]
    by_cases e : b = a
    · subst e
      rw [upd_at, upd_at]
      refine ⟨?_, ?_, ?_, ?_, ?_, ?_, ?_⟩
      · rw [if_neg (by omega), if_neg (by omega)]; exact y0
      · rw [if_neg (by omega), if_neg (by omega)]; exact y1
      · rw [if_neg (by omega), if_neg (by omega)]; exact y2
      · rw [if_neg (by omega), if_pos rfl]
      · rw [if_pos rfl]
      · rw [if_neg (by omega), if_neg (by omega)]; exact y5
      · rw [if_neg (by omega), if_neg (by omega)]; exact y6
    · rw [upd_off e, upd_off e]
      refine ⟨?_, ?_, ?_, ?_, ?_, ?_, ?_⟩
      all_goals rw [if_neg (by omega), if_neg (by omega)]
      · exact y0
      · exact y1
      · exact y2
      · exact y3
      · exact y4
      · exact y5
      · exact y6
  · have hb' : b < nsc S := hb
    obtain ⟨z1, z2, z3, z4, z5⟩ := hR.hr b hb'
    rw [s11, s12, hs 8 (by decide) (by decide), hs 9 (by decide) (by decide), hs 10 (by decide) (by decide), hs 13 (by decide) (by decide)]
    by_cases e : b = a
    · subst e
      rw [upd_at, upd_at]
      exact ⟨z1, z2, z3, ⟨n, m, hn0, hn, hm, rfl, rfl⟩, z5⟩
    · rw [upd_off e, upd_off e]
      exact ⟨z1, z2, z3, z4, z5⟩
  · exact hR.c.cg hs hl
theorem g_learn {M : Nat} {S L : St} (hR : REL M S L) (hI : Inv S) {t b : Nat} (ht : t < 5) (hb : b < 8) : GOOD M S (up L 4 (8 * t) (L 4 (8 * t) ||| (1 <<< ((nI b) &&& 31))), (15, nI t, nI b, 0), fL_ones (L 4 (8 * t) ||| (1 <<< ((nI b) &&& 31)))) := by
  obtain ⟨y0, y1, y2, y3, y4, y5, y6, ⟨x, hx, e21⟩, y8, y9⟩ := hR.t t ht
  have h0 : okI (nI t) 8 := okI_nI (by decide) (show t < 8 by omega) (by decide)
  have h1 : okI (nI b) 16 := okI_nI (by decide) (show b < 16 by omega) (by decide)
  have et : ix (nI t) = t := nI_clamp (by omega)
  have hx2 : x ||| 2 ^ b < 256 := Nat.or_lt_two_pow (n := 8) hx (Nat.pow_lt_pow_right (by decide) hb)
  have hor : S 21 t ||| (1 <<< ((nI b) &&& 31)) = nI (x ||| 2 ^ b) := by rw [e21, shl1 b (by omega), nI_or]
  have hin : ¬ fX8_in (nI b) 0 15 = 0 := (in_I (n := 16) (by decide)).mpr h1
  have hbits : fL_ones (nI (x ||| 2 ^ b)) = fX8_bits (nI (x ||| 2 ^ b)) := by rw [ones_256 _ hx2, bits_nat (by omega)]
  have hfbc : fbc (nI (x ||| 2 ^ b)) = fX8_bits (nI (x ||| 2 ^ b)) := fbc_bits (by omega)
  rw [y0, hor, hbits]
  have e8 : xq8 S 15 (nI t) (nI b) 0 = (fX8_bits (nI (x ||| 2 ^ b)), 0, up S 21 t (nI (x ||| 2 ^ b))) := by
    show fX8_learn S (nI t) (nI b) = _
    unfold fX8_learn
    rw [if_neg ((teller_I _).mpr h0), if_neg hin, et, hor]
  have e7 : xq7 S 15 (nI t) (nI b) 0 = (fX8_bits (nI (x ||| 2 ^ b)), 0, up S 21 t (nI (x ||| 2 ^ b))) := by
    show fX7_learn S (nI t) (nI b) = _
    unfold fX7_learn
    rw [if_pos h0, if_pos h1, et, hor, hfbc]
  refine good_ok e8 e7 ?_
  rw [mrg_self]
  have hs : SU [21] S (up S 21 t (nI (x ||| 2 ^ b))) := fun r _ hn => by repeat rw [up_nm (by decide) hn]
  have hl : LU [4] L (up L 4 (8 * t) (nI (x ||| 2 ^ b))) := fun r hn => by repeat rw [up_nm (by decide) hn]
  refine ⟨hR.q.cg hs hl, hR.h.cg hs hl, hR.hr.cg hs, hR.c.cg hs hl, hR.b.cg hs hl, fun t' ht' => ?_, hR.d.cg hs hl, hR.u.cg hs hl, hR.ur.cg hs, hR.m.cg (Nat.le_refl _) hs hl, hR.r.cg hs hl, hR.e.cg hs hl⟩
  obtain ⟨z0, z1, z2, z3, z4, z5, z6, z7, z8, z9⟩ := hR.t t' ht'
  rw [hs 22 (by decide) (by decide), hs 49 (by decide) (by decide), hs 50 (by decide) (by decide), hs 46 (by decide) (by decide), hs 47 (by decide) (by decide), hs 48 (by decide) (by decide), up_row S 21]
  rw [up_off (j := 8 * t' + 1) (by omega), up_off (j := 8 * t' + 2) (by omega), up_off (j := 8 * t' + 3) (by omega), up_off (j := 8 * t' + 4) (by omega), up_off (j := 8 * t' + 5) (by omega), up_off (j := 8 * t' + 6) (by omega)]
  by_cases e : t' = t
  · subst e
    rw [up_at, upd_at]
    exact ⟨rfl, z1, z2, z3, z4, z5, z6, ⟨_, hx2, rfl⟩, z8, z9⟩
  · rw [up_off (by omega), upd_off e]
    exact ⟨z0, z1, z2, z3, z4, z5, z6, z7, z8, z9⟩
/-- how many facts are public -/
theorem pub_count {S : St} {L3 : Nat → Int32} (h3 : ∀ b, b < 8 → (L3 b ≤ 0 ↔ S 20 b = -1)) (hle : ∀ b, b < 8 → S 20 b = -1 ∨ ¬ S 1 0 < S 20 b) (h8 : ∀ b, 8 ≤ b → b < 16 → S 20 b = -1) {cnt : Nat → Int32} (c0 : cnt 0 = 0) (cs : ∀ n, cnt (n + 1) = if L3 n ≤ 0 then cnt n + 0 else cnt n + 1) : cnt 8 = fX8_bits (fX8_publicBy S (S 1 0)) := by
  obtain ⟨p, hp, ep, hpb⟩ := public_spec S (S 1 0)
  have hbit : ∀ b, b < 8 → (p.testBit b = true ↔ ¬ L3 b ≤ 0) := by
    intro b hb
    rw [hpb b (by omega), h3 b hb]
    exact ⟨fun q => q.1, fun q => ⟨q, (hle b hb).resolve_left q⟩⟩
  have key : ∀ n, n ≤ 8 → cnt n = nI (nbits p n) := by
    intro n
    induction n with
    | zero => exact fun _ => c0
    | succ n ih =>
      intro hn
      rw [cs, ih (by omega)]
      show _ = nI (nbits p n + (p / 2 ^ n &&& 1))
      rw [bit_and1]
      by_cases q : L3 n ≤ 0
      · rw [if_pos q, if_neg (fun w => (hbit n (by omega)).mp w q)]
        exact Int32.add_zero _
      · rw [if_neg q, if_pos ((hbit n (by omega)).mpr q), nI_1]
  have hp256 : p < 256 := by
    refine Classical.byContradiction fun hge => ?_
    have hge : 2 ^ 8 ≤ p := by omega
    obtain ⟨i, hi, hit⟩ := Nat.exists_ge_and_testBit_of_ge_two_pow hge
    rcases Nat.lt_or_ge i 16 with q | q
    · exact ((hpb i q).mp hit).1 (h8 i hi q)
    · rw [Nat.testBit_lt_two_pow (Nat.lt_of_lt_of_le hp (show 2 ^ 16 ≤ 2 ^ i from Nat.pow_le_pow_right (by decide) q))] at hit
      exact absurd hit (by decide)
  rw [key 8 (Nat.le_refl _), ep, bits_nat hp, nbits_hi hp256]
