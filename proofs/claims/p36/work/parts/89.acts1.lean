/-! a round of the law and of the bench: the rows stay alike -/
def GOOD (M : Nat) (S : St) (x : St × (Nat × Int32 × Int32 × Int32) × Int32) : Prop := XOK S x.2.1 x.2.2 ∧ REL M (XS S x.2.1) x.1
theorem good_ok {M : Nat} {S A B L' : St} {w : Nat} {a b c ex v8 : Int32} (e8 : xq8 S w a b c = (v8, 0, A)) (e7 : xq7 S w a b c = (ex, 0, B)) (hR : REL M (mrg A B) L') : GOOD M S (L', (w, a, b, c), ex) := by
  refine ⟨?_, ?_⟩
  · unfold XOK
    simp only []
    rw [e7]
    split
    · exact ⟨Or.inl rfl, rfl⟩
    · exact ⟨rfl, rfl⟩
  · show REL M (mrg (xq8 S w a b c).2.2 (xq7 S w a b c).2.2) L'
    rw [e8, e7]
    exact hR
theorem good_thr {M : Nat} {S L' : St} {w : Nat} {a b c t : Int32} (hw : w < 12) (e8 : xq8 S w a b c = (0, t, S)) (e7 : xq7 S w a b c = (0, 3, S)) (hR : REL M S L') : GOOD M S (L', (w, a, b, c), -1003) := by
  refine ⟨?_, ?_⟩
  · unfold XOK
    simp only []
    rw [e7, if_pos hw]
    exact ⟨Or.inr rfl, rfl⟩
  · show REL M (mrg (xq8 S w a b c).2.2 (xq7 S w a b c).2.2) L'
    rw [e8, e7, mrg_self]
    exact hR
theorem good_99 {M : Nat} {S L : St} (hR : REL M S L) : GOOD M S (L, (99, 0, 0, 0), 0) := by
  refine good_ok (A := S) (B := S) (v8 := 0) rfl rfl ?_
  rw [mrg_self]
  exact hR
theorem REL.up {M M' : Nat} {S L : St} (h : REL M S L) (hM : M ≤ M') : REL M' S L := ⟨h.q, h.h, h.hr, h.c, h.b, h.t, h.d, h.u, h.ur, h.m.cg hM (SU.rf S) (LU.rf L), h.r, h.e⟩
theorem okI_nI {n N : Nat} {x : Int32} (hx : x = nI N) (h : n < N) (hN : N < 2 ^ 31) : okI (nI n) x := by
  subst hx
  exact okI_of (vp_in_nI h hN) hN
theorem okR_nI {n lo hi : Nat} {a b : Int32} (ha : a = nI lo) (hb : b = nI hi) (h1 : lo ≤ n) (h2 : n ≤ hi) (hh : hi < 2 ^ 31) : okR (nI n) a b := by
  subst ha hb
  exact ⟨nI_nlt h1 (by omega), nI_nlt h2 hh⟩
theorem nI_3 (a b d : Nat) : (nI a + 8 * nI b) + 131072 * nI d = nI (a + 8 * b + 131072 * d) := by
  rw [show (8 : Int32) = nI 8 by decide, show (131072 : Int32) = nI 131072 by decide, pk_mul, pk_mul, nI_add, nI_add]
theorem g_fund {M : Nat} {S L : St} (hR : REL M S L) (hI : Inv S) {f m : Nat} (hf : f < 3) (hm0 : 0 < m) (hm : m ≤ 3000) (hM : M ≤ 99000000) : GOOD (M + 3000) S (up (up L 9 (4 * f) (L 9 (4 * f) + nI m)) 9 (4 * f + 1) ((up L 9 (4 * f) (L 9 (4 * f) + nI m)) 9 (4 * f + 1) + nI m), (12, nI f, nI m, 0), (up (up L 9 (4 * f) (L 9 (4 * f) + nI m)) 9 (4 * f + 1) ((up L 9 (4 * f) (L 9 (4 * f) + nI m)) 9 (4 * f + 1) + nI m)) 9 (4 * f)) := by
  obtain ⟨m0, m1, -, -, n, hn, en⟩ := hR.m.1 f hf
  have hF : okI (nI f) 6 := okI_nI (by decide) (show f < 6 by omega) (by decide)
  have h1 : okR (nI m) 1 1000000 := okR_nI (lo := 1) (hi := 1000000) (by decide) (by decide) hm0 (by omega) (by decide)
  have ef : ix (nI f) = f := nI_clamp (by omega)
  have hle : S 2 f + nI m ≤ 100000000 := by
    rw [en, nI_add, show (100000000 : Int32) = nI 100000000 by decide]
    exact nI_le (by omega) (by decide)
  have hle7 : ¬ (100000000 : Int32) < S 2 f + nI m := by
    rw [Int32.lt_iff_toInt_lt]
    rw [Int32.le_iff_toInt_le] at hle
    omega
  have e8 : xq8 S 12 (nI f) (nI m) 0 = (S 2 f + nI m, 0, up (up S 2 f (S 2 f + nI m)) 3 f (S 3 f + nI m)) := by
    show fX8_fund S (nI f) (nI m) = _
    unfold fX8_fund
    rw [ef, if_neg ((firm_I _).mpr hF), if_neg ((in_R _ _ _).mpr h1), if_pos hle]
  have e7 : xq7 S 12 (nI f) (nI m) 0 = (S 2 f + nI m, 0, up (up S 2 f (S 2 f + nI m)) 3 f (S 3 f + nI m)) := by
    show fX7_fund S (nI f) (nI m) = _
    unfold fX7_fund
    rw [ef, if_pos hF, if_pos h1, if_neg hle7]
  have hex : (up (up L 9 (4 * f) (L 9 (4 * f) + nI m)) 9 (4 * f + 1) ((up L 9 (4 * f) (L 9 (4 * f) + nI m)) 9 (4 * f + 1) + nI m)) 9 (4 * f) = S 2 f + nI m := by rw [up_off (by omega), up_at, m0]
  rw [hex]
  refine good_ok e8 e7 ?_
  rw [mrg_self]
  have hs : SU [2, 3] S (up (up S 2 f (S 2 f + nI m)) 3 f (S 3 f + nI m)) := fun r _ hn => by repeat rw [up_nm (by decide) hn]
  have hl : LU [9] L (up (up L 9 (4 * f) (L 9 (4 * f) + nI m)) 9 (4 * f + 1) ((up L 9 (4 * f) (L 9 (4 * f) + nI m)) 9 (4 * f + 1) + nI m)) := fun r hn => by repeat rw [up_nm (by decide) hn]
  refine ⟨hR.q.cg hs hl, hR.h.cg hs hl, hR.hr.cg hs, hR.c.cg hs hl, hR.b.cg hs hl, hR.t.cg hs hl, hR.d.cg hs hl, hR.u.cg hs hl, hR.ur.cg hs, ⟨fun f' hf' => ?_, ?_⟩, hR.r.cg hs hl, hR.e.cg hs hl⟩
  · obtain ⟨x0, x1, x2, x3, n', hn', en'⟩ := hR.m.1 f' hf'
    have r2 : up (up S 2 f (S 2 f + nI m)) 3 f (S 3 f + nI m) 2 = upd (S 2) f (S 2 f + nI m) := rfl
    have r3 : up (up S 2 f (S 2 f + nI m)) 3 f (S 3 f + nI m) 3 = upd (S 3) f (S 3 f + nI m) := rfl
    have r4 : up (up S 2 f (S 2 f + nI m)) 3 f (S 3 f + nI m) 4 = S 4 := rfl
    have r5 : up (up S 2 f (S 2 f + nI m)) 3 f (S 3 f + nI m) 5 = S 5 := rfl
    rw [r2, r3, r4, r5]
    by_cases e : f' = f
    · subst e
      rw [upd_at, upd_at]
      refine ⟨by rw [up_off (by omega), up_at, x0], by rw [up_at, up_off (by omega), x1], by rw [up_off (by omega), up_off (by omega)]; exact x2, by rw [up_off (by omega), up_off (by omega)]; exact x3, n' + m, by omega, by rw [en', nI_add]⟩
    · rw [upd_off e, upd_off e]
      refine ⟨by rw [up_off (by omega), up_off (by omega)]; exact x0, by rw [up_off (by omega), up_off (by omega)]; exact x1, by rw [up_off (by omega), up_off (by omega)]; exact x2, by rw [up_off (by omega), up_off (by omega)]; exact x3, n', by omega, en'⟩
  · obtain ⟨-, y2, y3, y4, y5⟩ := hR.m
    refine ⟨?_, ?_, y4, y5⟩
    · show upd (S 2) f _ 3 = 0
      rw [upd_off (by omega)]; exact y2
    · show upd (S 3) f _ 3 = 0
      rw [upd_off (by omega)]; exact y3
theorem g_scheme {M : Nat} {S L : St} (hR : REL M S L) (hI : Inv S) {f x y : Nat} (hf : f < 3) (hx0 : 0 < x) (hx : x < 256) (hy : y ≤ 2) (h8 : ¬ L 11 1 = 8) {L' : St} (hL' : L' = up (up (up (up (up L 11 1 (L 11 1 + 1)) 0 (8 * q1 L) (nI f)) 0 (8 * q1 L + 1) (nI x)) 0 (8 * q1 L + 2) (nI y)) 0 (8 * q1 L + 3) 1) : GOOD M S (L', (13, nI f, L' 0 (8 * q1 L + 1), L' 0 (8 * q1 L + 2)), L 11 1) := by
  have hb7 := hI.m.b7
  have n7 := hI.m.n7
  rw [hR.q.2.1] at h8
  have hlt : nsc S < 8 := ne_ix n7 hb7 h8 (by decide) (by decide)
  have a1 : L' 0 (8 * q1 L + 1) = nI x := by rw [hL', up_off (by omega), up_off (by omega), up_at]
  have a2 : L' 0 (8 * q1 L + 2) = nI y := by rw [hL', up_off (by omega), up_at]
  rw [a1, a2]
  have hF : okI (nI f) 6 := okI_nI (by decide) (show f < 6 by omega) (by decide)
  have h1 : okR (nI x) 1 65535 := okR_nI (lo := 1) (hi := 65535) (by decide) (by decide) hx0 (by omega) (by decide)
  have h2 : okR (nI y) 0 2 := okR_nI (lo := 0) (hi := 2) (by decide) (by decide) (Nat.zero_le _) hy (by decide)
  have hS1 : S 7 0 + 1 - 1 = S 7 0 := by rw [n7, nI_1, nI_pred]
  have e8 : xq8 S 13 (nI f) (nI x) (nI y) = (S 7 0, 0, up (up (up (up (up S 8 (nsc S) (nI f)) 9 (nsc S) (nI x)) 10 (nsc S) (nI y)) 11 (nsc S) 1) 7 0 (S 7 0 + 1)) := by
    show fX8_scheme S (nI f) (nI x) (nI y) = _
    unfold fX8_scheme
    rw [if_neg ((firm_I _).mpr hF), if_neg ((in_R _ _ _).mpr h1), if_neg ((in_R _ _ _).mpr h2), if_neg h8, hS1]
  have e7 : xq7 S 13 (nI f) (nI x) (nI y) = (S 7 0, 0, up (up (up (up (up S 8 (nsc S) (nI f)) 9 (nsc S) (nI x)) 10 (nsc S) (nI y)) 11 (nsc S) 1) 7 0 (S 7 0 + 1)) := by
    show fX7_scheme S (nI f) (nI x) (nI y) = _
    unfold fX7_scheme
    rw [if_pos hF, if_pos h1, if_pos h2, if_neg (fun q => h8 ((full_I n7 hb7 (by decide) (by decide)).mp q)), hS1]
  rw [hR.q.2.1]
  refine good_ok e8 e7 ?_
  rw [mrg_self]
  have hq1 : q1 L = nsc S := hR.q1e
  have hs : SU [7, 8, 9, 10, 11] S (up (up (up (up (up S 8 (nsc S) (nI f)) 9 (nsc S) (nI x)) 10 (nsc S) (nI y)) 11 (nsc S) 1) 7 0 (S 7 0 + 1)) := fun r _ hn => by repeat rw [up_nm (by decide) hn]
  have hl : LU [0, 11] L L' := fun r hn => by rw [hL']; repeat rw [up_nm (by decide) hn]
  generalize hS' : up (up (up (up (up S 8 (nsc S) (nI f)) 9 (nsc S) (nI x)) 10 (nsc S) (nI y)) 11 (nsc S) 1) 7 0 (S 7 0 + 1) = S' at hs ⊢
  have s7 : S' 7 = upd (S 7) 0 (S 7 0 + 1) := by rw [← hS']; rfl
  have s8 : S' 8 = upd (S 8) (nsc S) (nI f) := by rw [← hS']; rfl
  have s9 : S' 9 = upd (S 9) (nsc S) (nI x) := by rw [← hS']; rfl
  have s10 : S' 10 = upd (S 10) (nsc S) (nI y) := by rw [← hS']; rfl
  have s11 : S' 11 = upd (S 11) (nsc S) 1 := by rw [← hS']; rfl
  have s12 : S' 12 = S 12 := hs 12 (by decide) (by decide)
  have s13 : S' 13 = S 13 := hs 13 (by decide) (by decide)
  have s14 : S' 14 = S 14 := hs 14 (by decide) (by decide)
  obtain ⟨c1, c2⟩ := cnt_up s7 n7 (by omega)
  have hns : nsc S' = nsc S + 1 := c2
  have l11 : L' 11 = upd (L 11) 1 (L 11 1 + 1) := by rw [hL']; rfl
  have l0 : ∀ j, L' 0 j = if j = 8 * q1 L + 3 then 1 else if j = 8 * q1 L + 2 then nI y else if j = 8 * q1 L + 1 then nI x else if j = 8 * q1 L then nI f else L 0 j := fun j => by
    rw [hL']
    simp only [up_app, true_and, show ¬ (0 = 11) by decide, false_and, if_false]
  obtain ⟨x0, x1, x2, x3, x4, x5, x6⟩ := hR.q
  refine ⟨?_, ?_, ?_, ?_, hR.b.cg hs hl, hR.t.cg hs hl, hR.d.cg hs hl, hR.u.cg hs hl, hR.ur.cg hs, hR.m.cg (Nat.le_refl _) hs hl, hR.r.cg hs hl, hR.e.cg hs hl⟩
  · unfold RQ
    rw [l11, s7, hs 1 (by decide) (by decide), hs 15 (by decide) (by decide), hs 23 (by decide) (by decide), hs 28 (by decide) (by decide), hs 42 (by decide) (by decide), hs 6 (by decide) (by decide)]
    exact ⟨x0, congrArg (· + 1) x1, x2, x3, x4, x5, x6⟩
  · intro a ha
    obtain ⟨y0, y1, y2, y3, y4, y5, y6⟩ := hR.h a ha
    rw [s8, s9, s10, s11, s12, s13, s14]
    simp only [l0, hq1]
    by_cases e : a = nsc S
    · subst e
      rw [upd_at, upd_at, upd_at, upd_at]
      refine ⟨?_, ?_, ?_, ?_, ?_, ?_, ?_⟩
      · rw [if_neg (by omega), if_neg (by omega), if_neg (by omega), if_pos rfl]
      · rw [if_neg (by omega), if_neg (by omega), if_pos rfl]
      · rw [if_neg (by omega), if_pos rfl]
      · rw [if_pos rfl]
      · rw [if_neg (by omega), if_neg (by omega), if_neg (by omega), if_neg (by omega)]; exact y4
      · rw [if_neg (by omega), if_neg (by omega), if_neg (by omega), if_neg (by omega)]; exact y5
      · rw [if_neg (by omega), if_neg (by omega), if_neg (by omega), if_neg (by omega)]; exact y6
    · rw [upd_off e, upd_off e, upd_off e, upd_off e]
      refine ⟨?_, ?_, ?_, ?_, ?_, ?_, ?_⟩
      all_goals rw [if_neg (by omega), if_neg (by omega), if_neg (by omega), if_neg (by omega)]
      · exact y0
      · exact y1
      · exact y2
      · exact y3
      · exact y4
      · exact y5
      · exact y6
  · intro a ha
    rw [hns] at ha
    rw [s8, s9, s10, s11, s12, s13]
    by_cases e : a = nsc S
    · subst e
      obtain ⟨z12, z13, -⟩ := hI.z.1 (nsc S) (Nat.le_refl _)
      rw [upd_at, upd_at, upd_at, upd_at, z12, z13]
      exact ⟨⟨f, hf, rfl⟩, ⟨x, hx0, hx, rfl⟩, ⟨y, hy, rfl⟩, ⟨1, 0, by decide, by decide, by decide, by decide, by decide⟩, Or.inl rfl⟩
    · rw [upd_off e, upd_off e, upd_off e, upd_off e]
      exact hR.hr a (by omega)
  · obtain ⟨p1, p2⟩ := hR.c
    have t15 : S' 15 = S 15 := hs 15 (by decide) (by decide)
    have t16 : S' 16 = S 16 := hs 16 (by decide) (by decide)
    have t17 : S' 17 = S 17 := hs 17 (by decide) (by decide)
    have t18 : S' 18 = S 18 := hs 18 (by decide) (by decide)
    have t19 : S' 19 = S 19 := hs 19 (by decide) (by decide)
    have l1 : L' 1 = L 1 := hl 1 (by decide)
    have l2 : L' 2 = L 2 := hl 2 (by decide)
    unfold RC ncl
    rw [t15, t16, t17, t18, t19, l1, l2]
    refine ⟨fun i hi => ?_, p2⟩
    obtain ⟨a, m, d, ha, q⟩ := p1 i hi
    exact ⟨a, m, d, by omega, q⟩
