/-! publish, plan, know, and what is covered in the open, deal -/
theorem g_publish {M : Nat} {S L : St} (hR : REL M S L) (hI : Inv S) {b : Nat} (hb : b < 8) : (L 3 b = 0 → GOOD M S (up L 3 b (L 11 0 + 1), (16, nI b, 0, 0), lL_tells_501_v2 L b 8)) ∧ (¬ L 3 b = 0 → GOOD M S (up L 3 b (L 3 b), (16, nI b, 0, 0), lL_tells_501 L b 8)) := by
  obtain ⟨p1, p2, p3⟩ := hR.b
  obtain ⟨eb, hbR⟩ := p1 b hb
  obtain ⟨-, -, m3⟩ := m1_le hbR
  have x0 := hR.q.1
  have h1 : okI (nI b) 16 := okI_nI (by decide) (show b < 16 by omega) (by decide)
  have hin : ¬ fX8_in (nI b) 0 15 = 0 := (in_I (n := 16) (by decide)).mpr h1
  have eB : ix (nI b) = b := nI_clamp (by omega)
  have hirr : ∀ x : Int32, ¬ x < x := fun x q => by rw [Int32.lt_iff_toInt_lt] at q; omega
  constructor
  · intro hc
    have c20 : S 20 b = -1 := m3.mp (by rw [← eb]; exact hc)
    have hs : SU [20] S (up S 20 b (S 1 0)) := fun r _ hn => by repeat rw [up_nm (by decide) hn]
    have hl : LU [3] L (up L 3 b (L 11 0 + 1)) := fun r hn => by repeat rw [up_nm (by decide) hn]
    have hR' : REL M (up S 20 b (S 1 0)) (up L 3 b (L 11 0 + 1)) := by
      refine ⟨hR.q.cg hs hl, hR.h.cg hs hl, hR.hr.cg hs, hR.c.cg hs hl, ⟨fun c hc2 => ?_, fun c h8 h16 => ?_, fun c hc2 => ?_⟩, hR.t.cg hs hl, hR.d.cg hs hl, hR.u.cg hs hl, hR.ur.cg hs, hR.m.cg (Nat.le_refl _) hs hl, hR.r.cg hs hl, hR.e.cg hs hl⟩
      · rw [up_row, up_row]
        by_cases e : c = b
        · subst e; rw [upd_at, upd_at, x0]; exact ⟨rfl, Or.inr hI.td⟩
        · rw [upd_off e, upd_off e]; exact p1 c hc2
      · rw [up_row, upd_off (by omega)]; exact p2 c h8 h16
      · rw [up_row]
        show _ ∨ ¬ S 1 0 < _
        by_cases e : c = b
        · subst e; rw [upd_at]; exact Or.inr (hirr _)
        · rw [upd_off e]; exact p3 c hc2
    have e8 : xq8 S 16 (nI b) 0 0 = (fX8_bits (fX8_publicBy (up S 20 b (S 1 0)) (S 1 0)), 0, up S 20 b (S 1 0)) := by
      show fX8_publish S (nI b) = _
      unfold fX8_publish
      rw [if_neg hin, eB, if_pos c20]
    have hcnt : lL_tells_501_v2 L b 8 = fX8_bits (fX8_publicBy (up S 20 b (S 1 0)) (S 1 0)) := by
      refine pub_count (S := up S 20 b (S 1 0)) (L3 := up L 3 b (L 11 0 + 1) 3) (fun c hc2 => ?_) hR'.b.2.2 hR'.b.2.1 (cnt := lL_tells_501_v2 L b) rfl (fun n => rfl)
      obtain ⟨w1, w2⟩ := hR'.b.1 c hc2
      rw [w1]
      exact (m1_le w2).1
    rw [hcnt]
    exact good_8 hI e8 (fun r hr => up_ne (by omega)) hR'
  · intro hc
    have c20 : ¬ S 20 b = -1 := fun q => hc (by rw [eb]; exact m3.mpr q)
    have e8 : xq8 S 16 (nI b) 0 0 = (fX8_bits (fX8_publicBy S (S 1 0)), 0, S) := by
      show fX8_publish S (nI b) = _
      unfold fX8_publish
      rw [if_neg hin, eB, if_neg c20, up_same rfl]
    have hcnt : lL_tells_501 L b 8 = fX8_bits (fX8_publicBy S (S 1 0)) := by
      refine pub_count (S := S) (L3 := up L 3 b (L 3 b) 3) (fun c hc2 => ?_) p3 p2 (cnt := lL_tells_501 L b) rfl (fun n => rfl)
      rw [up_same rfl]
      obtain ⟨w1, w2⟩ := p1 c hc2
      rw [w1]
      exact (m1_le w2).1
    rw [hcnt, up_same rfl]
    exact good_8 hI e8 (fun r hr => rfl) hR
theorem g_plan {M : Nat} {S L : St} (hR : REL M S L) (hI : Inv S) {t a : Nat} (ht : t < 5) (ha : a < nsc S) : ((((L 4 (8 * t + 1)) >>> ((nI a) &&& 31)) &&& 1) = 1 → GOOD M S (up L 4 (8 * t + 1) (L 4 (8 * t + 1) ||| (1 <<< ((nI a) &&& 31))), (17, nI t, nI a, 0), 1)) ∧ (¬ (((L 4 (8 * t + 1)) >>> ((nI a) &&& 31)) &&& 1) = 1 → GOOD M S (up L 4 (8 * t + 1) (L 4 (8 * t + 1) ||| (1 <<< ((nI a) &&& 31))), (17, nI t, nI a, 0), 0)) := by
  have hb7 := hI.m.b7
  obtain ⟨-, y1, -⟩ := hR.t t ht
  have h0 : okI (nI t) 8 := okI_nI (by decide) (show t < 8 by omega) (by decide)
  have h1 : okI (nI a) (S 7 0) := okI_nI hI.m.n7 ha (by omega)
  have et : ix (nI t) = t := nI_clamp (by omega)
  rw [y1]
  have hs : SU [22] S (up S 22 t (S 22 t ||| (1 <<< ((nI a) &&& 31)))) := fun r _ hn => by repeat rw [up_nm (by decide) hn]
  have hl : LU [4] L (up L 4 (8 * t + 1) (S 22 t ||| (1 <<< ((nI a) &&& 31)))) := fun r hn => by repeat rw [up_nm (by decide) hn]
  have hR' : REL M (up S 22 t (S 22 t ||| (1 <<< ((nI a) &&& 31)))) (up L 4 (8 * t + 1) (S 22 t ||| (1 <<< ((nI a) &&& 31)))) := by
    refine ⟨hR.q.cg hs hl, hR.h.cg hs hl, hR.hr.cg hs, hR.c.cg hs hl, hR.b.cg hs hl, fun t' ht' => ?_, hR.d.cg hs hl, hR.u.cg hs hl, hR.ur.cg hs, hR.m.cg (Nat.le_refl _) hs hl, hR.r.cg hs hl, hR.e.cg hs hl⟩
    obtain ⟨z0, z1, z2, z3, z4, z5, z6, z7, z8, z9⟩ := hR.t t' ht'
    rw [hs 21 (by decide) (by decide), hs 49 (by decide) (by decide), hs 50 (by decide) (by decide), hs 46 (by decide) (by decide), hs 47 (by decide) (by decide), hs 48 (by decide) (by decide), up_row S 22]
    rw [up_off (j := 8 * t') (by omega), up_off (j := 8 * t' + 2) (by omega), up_off (j := 8 * t' + 3) (by omega), up_off (j := 8 * t' + 4) (by omega), up_off (j := 8 * t' + 5) (by omega), up_off (j := 8 * t' + 6) (by omega)]
    by_cases e : t' = t
    · subst e
      rw [up_at, upd_at]
      exact ⟨z0, rfl, z2, z3, z4, z5, z6, z7, z8, z9⟩
    · rw [up_off (by omega), upd_off e]
      exact ⟨z0, z1, z2, z3, z4, z5, z6, z7, z8, z9⟩
  constructor
  · intro hc
    refine good_8 hI (A := up S 22 t (S 22 t ||| (1 <<< ((nI a) &&& 31)))) ?_ (fun r hr => up_ne (by omega)) hR'
    show fX8_plan S (nI t) (nI a) = _
    unfold fX8_plan
    rw [if_neg ((teller_I _).mpr h0), if_neg ((scheme_I hI.m _).mpr h1), et, if_pos hc]
  · intro hc
    refine good_8 hI (A := up S 22 t (S 22 t ||| (1 <<< ((nI a) &&& 31)))) ?_ (fun r hr => up_ne (by omega)) hR'
    show fX8_plan S (nI t) (nI a) = _
    unfold fX8_plan
    rw [if_neg ((teller_I _).mpr h0), if_neg ((scheme_I hI.m _).mpr h1), et, if_neg hc]
/-- a scheme's row is set: place j of it -/
theorem rh_put {S L S' : St} {a j : Nat} {v : Int32} (hb : a < 8) (hj : j = 5 ∨ j = 6) (h : RH S L) (hs : SU [if j = 5 then 13 else 14] S S') (h5 : j = 5 → (∀ c, c < 8 → S' 13 c + 1 = if c = a then v else S 13 c + 1)) (h6 : j = 6 → (∀ c, c < 8 → S' 14 c = if c = a then v else S 14 c)) : RH S' (up L 0 (8 * a + j) v) := by
  intro c hc
  obtain ⟨y0, y1, y2, y3, y4, y5, y6⟩ := h c hc
  rcases hj with rfl | rfl
  · have hs' : SU [13] S S' := hs
    rw [hs' 8 (by decide) (by decide), hs' 9 (by decide) (by decide), hs' 10 (by decide) (by decide), hs' 11 (by decide) (by decide), hs' 12 (by decide) (by decide), hs' 14 (by decide) (by decide), h5 rfl c hc]
    rw [up_off (j := 8 * c) (by omega), up_off (j := 8 * c + 1) (by omega), up_off (j := 8 * c + 2) (by omega), up_off (j := 8 * c + 3) (by omega), up_off (j := 8 * c + 4) (by omega), up_off (j := 8 * c + 6) (by omega)]
    refine ⟨y0, y1, y2, y3, y4, ?_, y6⟩
    by_cases e : c = a
    · subst e; rw [up_at, if_pos rfl]
    · rw [up_off (by omega), if_neg e]; exact y5
  · have hs' : SU [14] S S' := hs
    rw [hs' 8 (by decide) (by decide), hs' 9 (by decide) (by decide), hs' 10 (by decide) (by decide), hs' 11 (by decide) (by decide), hs' 12 (by decide) (by decide), hs' 13 (by decide) (by decide), h6 rfl c hc]
    rw [up_off (j := 8 * c) (by omega), up_off (j := 8 * c + 1) (by omega), up_off (j := 8 * c + 2) (by omega), up_off (j := 8 * c + 3) (by omega), up_off (j := 8 * c + 4) (by omega), up_off (j := 8 * c + 5) (by omega)]
    refine ⟨y0, y1, y2, y3, y4, y5, ?_⟩
    by_cases e : c = a
    · subst e; rw [up_at, if_pos rfl]
    · rw [up_off (by omega), if_neg e]; exact y6
theorem g_know {M : Nat} {S L : St} (hR : REL M S L) (hI : Inv S) {a : Nat} (ha : a < nsc S) : (L 0 (8 * a + 5) ≤ 0 → GOOD M S (up L 0 (8 * a + 5) (L 11 0 + 1), (18, nI a, 0, 0), 0)) ∧ (¬ L 0 (8 * a + 5) ≤ 0 → GOOD M S (up L 0 (8 * a + 5) (L 0 (8 * a + 5)), (18, nI a, 0, 0), 1)) := by
  have hb7 := hI.m.b7
  obtain ⟨-, -, -, -, -, y5, -⟩ := hR.h a (by omega)
  obtain ⟨-, -, -, -, h13⟩ := hR.hr a ha
  obtain ⟨m1, -, -⟩ := m1_le h13
  have h1 : okI (nI a) (S 7 0) := okI_nI hI.m.n7 ha (by omega)
  have ea : ix (nI a) = a := nI_clamp (by omega)
  constructor
  · intro hc
    have c13 : S 13 a = -1 := m1.mp (by rw [← y5]; exact hc)
    have hs : SU [13] S (up S 13 a (S 1 0)) := fun r _ hn => by repeat rw [up_nm (by decide) hn]
    have hl : LU [0] L (up L 0 (8 * a + 5) (L 11 0 + 1)) := fun r hn => by repeat rw [up_nm (by decide) hn]
    refine good_8 hI (A := up S 13 a (S 1 0)) ?_ (fun r hr => up_ne (by omega)) ⟨hR.q.cg hs hl, rh_put (by omega) (Or.inl rfl) hR.h hs (fun _ c hc2 => ?_) (fun q => absurd q (by decide)), fun c hc2 => ?_, hR.c.cg hs hl, hR.b.cg hs hl, hR.t.cg hs hl, hR.d.cg hs hl, hR.u.cg hs hl, hR.ur.cg hs, hR.m.cg (Nat.le_refl _) hs hl, hR.r.cg hs hl, hR.e.cg hs hl⟩
    · show fX8_know S (nI a) = _
      unfold fX8_know
      rw [if_neg ((scheme_I hI.m _).mpr h1), ea, if_pos c13]
    · rw [up_row, hR.q.1]
      by_cases e : c = a
      · subst e; rw [upd_at, if_pos rfl]
      · rw [upd_off e, if_neg e]
    · obtain ⟨z1, z2, z3, z4, z5⟩ := hR.hr c hc2
      rw [hs 8 (by decide) (by decide), hs 9 (by decide) (by decide), hs 10 (by decide) (by decide), hs 11 (by decide) (by decide), hs 12 (by decide) (by decide), up_row]
      by_cases e : c = a
      · subst e; rw [upd_at]; exact ⟨z1, z2, z3, z4, Or.inr hI.td⟩
      · rw [upd_off e]; exact ⟨z1, z2, z3, z4, z5⟩
  · intro hc
    have c13 : ¬ S 13 a = -1 := fun q => hc (by rw [y5]; exact m1.mpr q)
    rw [up_same rfl]
    refine good_8 hI (A := S) ?_ (fun r hr => rfl) hR
    show fX8_know S (nI a) = _
    unfold fX8_know
    rw [if_neg ((scheme_I hI.m _).mpr h1), ea, if_neg c13, up_same rfl]
theorem admit_law {M : Nat} {S L : St} (hR : REL M S L) (hI : Inv S) {a : Nat} (ha : a < nsc S) : ∀ r i, i + r = nsu S → (lL_tells_703 L a i = 1 → rX8_admit_19 S (nI a) r i 0 = if lL_tells_703 L a (nsu S) = 0 then (0, 2, S) else (S 14 a, 0, up S 14 a 1)) ∧ (lL_tells_703 L a i = 0 → lL_tells_703 L a (nsu S) = 0) ∧ (lL_tells_703 L a i = 0 ∨ lL_tells_703 L a i = 1) := by
  have hb7 := hI.m.b7
  have hs8 := hR.ur.1
  have ea : ix (nI a) = a := nI_clamp (by omega)
  have bin : ∀ i, lL_tells_703 L a i = 0 ∨ lL_tells_703 L a i = 1 := by
    intro i
    induction i with
    | zero => exact Or.inr rfl
    | succ i ih =>
      show iL_tells_703 L a i (lL_tells_703 L a i) = 0 ∨ iL_tells_703 L a i (lL_tells_703 L a i) = 1
      unfold iL_tells_703
      repeat' split
      all_goals first | exact Or.inl rfl | exact Or.inr rfl
  intro r
  induction r with
  | zero =>
    intro i hi
    have hi : i = nsu S := by omega
    subst hi
    refine ⟨fun h => ?_, fun h => h, bin _⟩
    rw [rX8_admit_19_0, if_pos (by decide), h, if_neg (by decide), ea]
  | succ r ih =>
    intro i hi
    obtain ⟨ih1, ih2, -⟩ := ih (i + 1) (by omega)
    have hstep : lL_tells_703 L a (i + 1) = iL_tells_703 L a i (lL_tells_703 L a i) := rfl
    refine ⟨fun h => ?_, fun h => ih2 ?_, bin _⟩
    · obtain ⟨-, -, -, u3, u4, -⟩ := hR.u i (by omega)
      rw [hstep, h] at ih1 ih2
      unfold iL_tells_703 at ih1 ih2
      rw [if_neg (by decide), u3, u4, hR.q.1, day_eq hR hI (by omega) ha] at ih1 ih2
      rw [rX8_admit_19_s, if_pos rfl, ea]
      unfold fX8_isSealed
      by_cases c1 : S 34 i = 3
      · rw [if_pos c1] at ih1
        rw [if_pos c1, ite_self, ite_self]
        exact ih1 rfl
      · rw [if_neg c1] at ih1 ih2
        have hlt : (S 1 0 < S 36 i) ↔ ¬ (S 36 i ≤ S 1 0) := by
          rw [Int32.lt_iff_toInt_lt, Int32.le_iff_toInt_le]; omega
        by_cases c2 : S 36 i ≤ S 1 0
        · rw [if_neg (fun q => hlt.mp q c2)] at ih1 ih2
          rcases day_R hI (k := i) (by omega) ha with hd | ⟨D, hD, hd⟩
          · rw [hd, if_neg (by decide)] at ih1
            rw [if_pos hd]
            exact ih1 rfl
          · rw [hd, if_pos (nI_pos' (by omega))] at ih2
            rw [hd, if_neg (nI_ne1 (by omega)), if_pos c2, if_pos rfl, if_neg c1, admit2, ih2 rfl, if_pos rfl]
        · rw [if_pos (hlt.mpr c2)] at ih1
          rw [if_neg c2]
          have := ih1 rfl
          split
          · exact this
          · rw [if_neg (by decide)]; exact this
    · rw [hstep, h]
      unfold iL_tells_703
      rw [if_pos rfl]
theorem g_admit {M : Nat} {S L : St} (hR : REL M S L) (hI : Inv S) {a : Nat} (ha : a < nsc S) : (lL_tells_703 L a (q4 L) = 0 → GOOD M S (up L 0 (8 * a + 6) (L 0 (8 * a + 6)), (1, nI a, 0, 0), -1003)) ∧ (¬ lL_tells_703 L a (q4 L) = 0 → GOOD M S (up L 0 (8 * a + 6) 1, (1, nI a, 0, 0), L 0 (8 * a + 6))) := by
  have hb7 := hI.m.b7
  have h1 : okI (nI a) (S 7 0) := okI_nI hI.m.n7 ha (by omega)
  have ea : ix (nI a) = a := nI_clamp (by omega)
  obtain ⟨k1, -, -⟩ := admit_law hR hI ha (nsu S) 0 (by omega)
  have k1 := k1 rfl
  have e8 : xq8 S 1 (nI a) 0 0 = if lL_tells_703 L a (nsu S) = 0 then (0, 2, S) else (S 14 a, 0, up S 14 a 1) := by
    show fX8_admit S (nI a) = _
    unfold fX8_admit
    rw [if_neg ((scheme_I hI.m _).mpr h1)]
    exact k1
  obtain ⟨-, -, -, -, -, -, y6⟩ := hR.h a (by omega)
  rw [hR.q4e]
  constructor
  · intro hc
    rw [if_pos hc] at e8
    rw [up_same rfl]
    have hone := (xq_one hI 1 (nI a) 0 0).1
    rw [e8] at hone
    exact good_t (by decide) e8 (mp13_2 hone.symm (c7_admit S (nI a)).1) (fun r hr => k65 S 1 (by decide) (by decide) _ _ _ r hr) hR
  · intro hc
    rw [if_neg hc] at e8
    have hs : SU [14] S (up S 14 a 1) := fun r _ hn => by repeat rw [up_nm (by decide) hn]
    have hl : LU [0] L (up L 0 (8 * a + 6) 1) := fun r hn => by repeat rw [up_nm (by decide) hn]
    rw [y6]
    refine good_8 hI e8 (fun r hr => up_ne (by omega)) ⟨hR.q.cg hs hl, rh_put (by omega) (Or.inr rfl) hR.h hs (fun q => absurd q (by decide)) (fun _ c hc2 => ?_), hR.hr.cg hs, hR.c.cg hs hl, hR.b.cg hs hl, hR.t.cg hs hl, hR.d.cg hs hl, hR.u.cg hs hl, hR.ur.cg hs, hR.m.cg (Nat.le_refl _) hs hl, hR.r.cg hs hl, hR.e.cg hs hl⟩
    rw [up_row]
    by_cases e : c = a
    · subst e; rw [upd_at, if_pos rfl]
    · rw [upd_off e, if_neg e]
/-- a deal's number, taken apart -/
theorem deal_n {a b p d : Nat} (ha : a < 8) (hb : b < 8) (hp : p < 128) (hd : d ≤ 3000) : nI (a + 8 * b + 64 * p + 8192 * d) - nI (a + 8 * b + 64 * p + 8192 * d) / 8 * 8 = nI a ∧ (nI (a + 8 * b + 64 * p + 8192 * d) / 8) - (nI (a + 8 * b + 64 * p + 8192 * d) / 8) / 8 * 8 = nI b ∧ (nI (a + 8 * b + 64 * p + 8192 * d) / 64) - (nI (a + 8 * b + 64 * p + 8192 * d) / 64) / 128 * 128 = nI p ∧ nI (a + 8 * b + 64 * p + 8192 * d) / 8192 = nI d := by
  refine ⟨?_, ?_, ?_, ?_⟩
  · rw [nx_rem 8 (by omega) (by decide) (by decide) (by decide), show (a + 8 * b + 64 * p + 8192 * d) % 8 = a by omega]
  · rw [nx_div 8 (by omega) (by decide) (by decide) (by decide), nx_rem 8 (by omega) (by decide) (by decide) (by decide), show (a + 8 * b + 64 * p + 8192 * d) / 8 % 8 = b by omega]
  · rw [nx_div 64 (by omega) (by decide) (by decide) (by decide), nx_rem 128 (by omega) (by decide) (by decide) (by decide), show (a + 8 * b + 64 * p + 8192 * d) / 64 % 128 = p by omega]
  · rw [nx_div 8192 (by omega) (by decide) (by decide) (by decide), show (a + 8 * b + 64 * p + 8192 * d) / 8192 = d by omega]
theorem deal_law {M : Nat} {S L : St} (hR : REL M S L) {zv : Int32} {t p : Nat} (ht : t < 5) (e0 : 1 + fL_low (zv >>> ((7 : Int32) &&& 31)) 40 = nI p) : ∀ n, n ≤ ndl S → lL_tells_877 L zv t n = lX8_deal_57 S (nI t) (nI p) n := by
  intro n
  induction n with
  | zero => exact fun _ => e0
  | succ n ih =>
    intro hn
    have s1 : lL_tells_877 L zv t (n + 1) = iL_tells_877 L t n (lL_tells_877 L zv t n) := rfl
    have s2 : lX8_deal_57 S (nI t) (nI p) (n + 1) = iX8_deal_57 S (nI t) n (lX8_deal_57 S (nI t) (nI p) n) := rfl
    rw [s1, s2, ih (by omega)]
    obtain ⟨a, b, q, d, ha, hb, hq, hd, e24, e25, e26, e27, e5⟩ := hR.d.1 n (by omega)
    obtain ⟨r1, r2, r3, r4⟩ := deal_n (a := a) (b := b) (p := q) (d := d) (by omega) (by omega) (by omega) hd
    unfold iL_tells_877 iX8_deal_57
    rw [e5, r1, r3, e24, e26]
theorem g_deal {M : Nat} {S L : St} (hR : REL M S L) (hI : Inv S) {zv : Int32} {t o p : Nat} (ht : t < 5) (ho : o < 5) (hto : ¬ t = o) (hp0 : 0 < p) (hp : p ≤ 40) (e0 : 1 + fL_low (zv >>> ((7 : Int32) &&& 31)) 40 = nI p) : (100 < lL_tells_877 L zv t (q3 L) → GOOD M S (L, (2, nI t, nI o, nI p), -1003)) ∧ (¬ 100 < lL_tells_877 L zv t (q3 L) → 20 ≤ L 11 3 → GOOD M S (L, (2, nI t, nI o, nI p), -1003)) ∧ (¬ 100 < lL_tells_877 L zv t (q3 L) → ¬ 20 ≤ L 11 3 → GOOD M S (up (up L 5 (q3 L) (((nI t + 8 * nI o) + 64 * nI p) + 8192 * L 11 0)) 11 3 (L 11 3 + 1), (2, nI t, nI o, nI p), lL_tells_877 L zv t (q3 L))) := by
  have n23 := hI.m.n23
  have b23 := hI.m.b23
  obtain ⟨x0, x1, x2, x3, x4, x5, x6⟩ := hR.q
  have hfull := full_I n23 b23 (c := 20) (K := 20) (by decide) (by decide)
  have hlaw := deal_law hR ht e0 (ndl S) (Nat.le_refl _)
  have hq3 : q3 L = ndl S := hR.q3e
  have h0 : okI (nI t) 8 := okI_nI (by decide) (show t < 8 by omega) (by decide)
  have h1 : okI (nI o) 8 := okI_nI (by decide) (show o < 8 by omega) (by decide)
  have h2 : okR (nI p) 1 100 := okR_nI (lo := 1) (hi := 100) (by decide) (by decide) hp0 (by omega) (by decide)
  have hne : ¬ nI t = nI o := fun q => hto ((nI_eq (by omega) (by omega)).mp q)
  have hle : ∀ x : Int32, (x ≤ 100 ↔ ¬ 100 < x) := fun x => by
    rw [Int32.le_iff_toInt_le, Int32.lt_iff_toInt_lt]; omega
  have e8 : xq8 S 2 (nI t) (nI o) (nI p) = (if S 23 0 = 20 then (0, 3, S) else if lX8_deal_57 S (nI t) (nI p) (ndl S) ≤ 100 then (lX8_deal_57 S (nI t) (nI p) (ndl S), 0, up (up (up (up (up S 24 (ndl S) (nI t)) 25 (ndl S) (nI o)) 26 (ndl S) (nI p)) 27 (ndl S) (S 1 0)) 23 0 (S 23 0 + 1)) else (0, 3, S)) := by
    show fX8_deal S (nI t) (nI o) (nI p) = _
    unfold fX8_deal
    rw [if_neg ((teller_I _).mpr h0), if_neg ((teller_I _).mpr h1), if_neg hne, if_neg ((in_R _ _ _).mpr h2)]
  have thr : xq8 S 2 (nI t) (nI o) (nI p) = (0, 3, S) → GOOD M S (L, (2, nI t, nI o, nI p), -1003) := by
    intro e
    have hone := (xq_one hI 2 (nI t) (nI o) (nI p)).1
    rw [e] at hone
    exact good_t (by decide) e (mp3_3 hone.symm) (fun r hr => k65 S 2 (by decide) (by decide) _ _ _ r hr) hR
  rw [hq3, hlaw, x3]
  refine ⟨fun hc => thr ?_, fun hc hc2 => thr ?_, fun hc hc2 => ?_⟩
  · rw [e8, if_neg (c := lX8_deal_57 S (nI t) (nI p) (ndl S) ≤ 100) (fun q => (hle _).mp q hc), ite_self]
  · rw [e8, if_pos (hfull.mp hc2)]
  · rw [if_neg (fun q => hc2 (hfull.mpr q)), if_pos ((hle _).mpr hc)] at e8
    have hlt : ndl S < 20 := ne_ix n23 b23 (fun q => hc2 (hfull.mpr q)) (by decide) (by decide)
    refine good_8 hI e8 (fun r hr => by repeat rw [up_ne (by omega)]) ?_
    have hs : SU [23, 24, 25, 26, 27] S (up (up (up (up (up S 24 (ndl S) (nI t)) 25 (ndl S) (nI o)) 26 (ndl S) (nI p)) 27 (ndl S) (S 1 0)) 23 0 (S 23 0 + 1)) := fun r _ hn => by repeat rw [up_nm (by decide) hn]
    have hl : LU [5, 11] L (up (up L 5 (ndl S) (((nI t + 8 * nI o) + 64 * nI p) + 8192 * L 11 0)) 11 3 (S 23 0 + 1)) := fun r hn => by repeat rw [up_nm (by decide) hn]
    generalize hS' : up (up (up (up (up S 24 (ndl S) (nI t)) 25 (ndl S) (nI o)) 26 (ndl S) (nI p)) 27 (ndl S) (S 1 0)) 23 0 (S 23 0 + 1) = S' at hs ⊢
    generalize hL' : up (up L 5 (ndl S) (((nI t + 8 * nI o) + 64 * nI p) + 8192 * L 11 0)) 11 3 (S 23 0 + 1) = L' at hl ⊢
    have s23 : S' 23 = upd (S 23) 0 (S 23 0 + 1) := by rw [← hS']; rfl
    have s24 : S' 24 = upd (S 24) (ndl S) (nI t) := by rw [← hS']; rfl
    have s25 : S' 25 = upd (S 25) (ndl S) (nI o) := by rw [← hS']; rfl
    have s26 : S' 26 = upd (S 26) (ndl S) (nI p) := by rw [← hS']; rfl
    have s27 : S' 27 = upd (S 27) (ndl S) (S 1 0) := by rw [← hS']; rfl
    have l5 : L' 5 = upd (L 5) (ndl S) (((nI t + 8 * nI o) + 64 * nI p) + 8192 * L 11 0) := by rw [← hL']; rfl
    have l11 : L' 11 = upd (L 11) 3 (S 23 0 + 1) := by rw [← hL']; rfl
    obtain ⟨c1, c2⟩ := cnt_up s23 n23 (by omega)
    have hns : ndl S' = ndl S + 1 := c2
    refine ⟨?_, hR.h.cg hs hl, hR.hr.cg hs, hR.c.cg hs hl, hR.b.cg hs hl, hR.t.cg hs hl, ⟨fun i hi => ?_, fun i hi => ?_⟩, hR.u.cg hs hl, hR.ur.cg hs, hR.m.cg (Nat.le_refl _) hs hl, hR.r.cg hs hl, hR.e.cg hs hl⟩
    · unfold RQ
      rw [l11, s23, hs 1 (by decide) (by decide), hs 7 (by decide) (by decide), hs 15 (by decide) (by decide), hs 28 (by decide) (by decide), hs 42 (by decide) (by decide), hs 6 (by decide) (by decide)]
      exact ⟨x0, x1, x2, rfl, x4, x5, x6⟩
    · rw [hns] at hi
      rw [s24, s25, s26, s27, l5]
      by_cases e : i = ndl S
      · subst e
        obtain ⟨T, hT, eT⟩ := hI.td
        rw [upd_at, upd_at, upd_at, upd_at, upd_at]
        refine ⟨t, o, p, T, ht, ho, hp, hT, rfl, rfl, rfl, eT, ?_⟩
        rw [x0, eT, show (8 : Int32) = nI 8 by decide, show (64 : Int32) = nI 64 by decide, show (8192 : Int32) = nI 8192 by decide, pk_mul, pk_mul, pk_mul, nI_add, nI_add, nI_add]
      · rw [upd_off e, upd_off e, upd_off e, upd_off e, upd_off e]
        exact hR.d.1 i (by omega)
    · rw [hns] at hi
      rw [l5, upd_off (by omega)]
      exact hR.d.2 i (by omega)
