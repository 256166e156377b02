/-! extend, choose, help -/
theorem suit_ok {M : Nat} {S L : St} (hR : REL M S L) (hI : Inv S) {k : Nat} (hk : k < nsu S) : okI (nI k) (S 28 0) ∧ ix (nI k) = k := by
  have hs8 := hR.ur.1
  exact ⟨okI_nI hI.m.n28 hk (by omega), nI_clamp (by omega)⟩
theorem sealed_law {M : Nat} {S L : St} (hR : REL M S L) {k : Nat} (hk : k < 8) : jL_suits_44 L k = fX8_isSealed S k := by
  obtain ⟨-, -, -, -, u4, -⟩ := hR.u k hk
  unfold jL_suits_44 fX8_isSealed
  rw [u4, hR.q.1]
theorem over_i {S : St} {k : Nat} : fX8_isOver S k = 0 ↔ ¬ 3 ≤ S 34 k := by
  unfold fX8_isOver
  have : (S 34 k < 3) ↔ ¬ 3 ≤ S 34 k := by rw [Int32.lt_iff_toInt_lt, Int32.le_iff_toInt_le]; omega
  by_cases c : S 34 k < 3
  · rw [if_pos c]; exact ⟨fun _ => this.mp c, fun _ => rfl⟩
  · rw [if_neg c]; exact ⟨fun q => absurd q (by decide), fun q => absurd (this.mpr q) c⟩
/-- a throw of a call of the state's kind, nothing changed -/
theorem good_t3 {M : Nat} {S L : St} (hI : Inv S) (hR : REL M S L) {w : Nat} {a b c v : Int32} (hw : w < 12) (h3 : ¬ w = 3 := by decide) (h4 : ¬ w = 4 := by decide) (e8 : xq8 S w a b c = (v, 3, S)) (hm : ∀ x, mp_w w x = mp3 x := by intro x; rfl) : GOOD M S (L, (w, a, b, c), -1003) := by
  have hone := (xq_one hI w a b c).1
  rw [e8, hm] at hone
  exact good_t hw e8 (mp3_3 hone.symm) (fun r hr => k65 S w h3 h4 _ _ _ r hr) hR
theorem or_1 : ∀ m, m < 5 → ((nI (8 * m) ||| 1 : Int32) = nI (8 * m + 1)) ∧ ((nI (8 * m + 1) ||| 1 : Int32) = nI (8 * m + 1)) := by decide +kernel
theorem g_extend {M : Nat} {S L : St} (hR : REL M S L) (hI : Inv S) {k : Nat} (hk : k < nsu S) : GOOD M S (if jL_suits_44 L k = 0 then ((up (up L 6 (8 * k + 5) ((L 6 (8 * k + 5)) + 0)) 6 (8 * k + 4) (((up L 6 (8 * k + 5) ((L 6 (8 * k + 5)) + 0)) 6 (8 * k + 4)) + 0)), (5, nI k, 0, 0), (-1003)) else (if 4 ≤ ((L 6 (8 * k + 5)) / 8) then ((up (up L 6 (8 * k + 5) ((L 6 (8 * k + 5)) + 0)) 6 (8 * k + 4) (((up L 6 (8 * k + 5) ((L 6 (8 * k + 5)) + 0)) 6 (8 * k + 4)) + 0)), (5, nI k, 0, 0), (-1003)) else ((up (up L 6 (8 * k + 5) ((L 6 (8 * k + 5)) + 8)) 6 (8 * k + 4) (((up L 6 (8 * k + 5) ((L 6 (8 * k + 5)) + 8)) 6 (8 * k + 4)) + 30)), (5, nI k, 0, 0), (((up L 6 (8 * k + 5) ((L 6 (8 * k + 5)) + 8)) 6 (8 * k + 4)) + 30)))) := by
  have hs8 := hR.ur.1
  obtain ⟨h0, ek⟩ := suit_ok hR hI hk
  obtain ⟨u0, u1, u2, u3, u4, u5, u6, u7, u8, u9⟩ := hR.u k (by omega)
  obtain ⟨n, m, hm, hn, e36, e37⟩ := hI.o k hk
  rw [hup0, hup0, sealed_law hR (by omega)]
  have thr : xq8 S 5 (nI k) 0 0 = (0, 2, S) → GOOD M S (L, (5, nI k, 0, 0), -1003) := fun e8 => by
    have hone := (xq_one hI 5 (nI k) 0 0).1
    rw [e8] at hone
    exact good_t (by decide) e8 (mp13_2 hone.symm (c7_extend S (nI k)).1) (fun r hr => k65 S 5 (by decide) (by decide) _ _ _ r hr) hR
  have h8 : (4 ≤ (L 6 (8 * k + 5)) / 8) ↔ S 37 k = 4 := by
    rw [u5, e37]
    rcases hI.m.z35 k with z | z
    · rw [z, show (8 : Int32) = nI 8 by decide, pk_mul, show (0 : Int32) = nI 0 by decide, nI_add, nx_div 8 (by omega) (by decide) (by decide) (by decide), show (8 * m + 0) / 8 = m by omega, show (4 : Int32) = nI 4 by decide, nI_leI (by decide) (by omega), nI_eq (by omega) (by decide)]
      omega
    · rw [z, show (8 : Int32) = nI 8 by decide, pk_mul, show (1 : Int32) = nI 1 by decide, nI_add, nx_div 8 (by omega) (by decide) (by decide) (by decide), show (8 * m + 1) / 8 = m by omega, show (4 : Int32) = nI 4 by decide, nI_leI (by decide) (by omega), nI_eq (by omega) (by decide)]
      omega
  by_cases c1 : fX8_isSealed S k = 0
  · rw [if_pos c1]
    refine thr ?_
    show fX8_extend S (nI k) = _
    unfold fX8_extend
    rw [if_neg ((suit_I hI.m _).mpr h0), ek, if_pos c1]
  rw [if_neg c1]
  by_cases c2 : S 37 k = 4
  · rw [if_pos (h8.mpr c2)]
    refine thr ?_
    show fX8_extend S (nI k) = _
    unfold fX8_extend
    rw [if_neg ((suit_I hI.m _).mpr h0), ek, if_neg c1, if_pos c2]
  rw [if_neg (fun q => c2 (h8.mp q)), up_off (by omega), u4]
  have e8 : xq8 S 5 (nI k) 0 0 = (S 36 k + 30, 0, up (up S 37 k (S 37 k + 1)) 36 k (S 36 k + 30)) := by
    show fX8_extend S (nI k) = _
    unfold fX8_extend
    rw [if_neg ((suit_I hI.m _).mpr h0), ek, if_neg c1, if_neg c2]
  have hs : SU [36, 37] S (up (up S 37 k (S 37 k + 1)) 36 k (S 36 k + 30)) := fun r _ hn => by repeat rw [up_nm (by decide) hn]
  have hl : LU [6] L (up (up L 6 (8 * k + 5) (L 6 (8 * k + 5) + 8)) 6 (8 * k + 4) (S 36 k + 30)) := fun r hn => by repeat rw [up_nm (by decide) hn]
  refine good_8 hI e8 (fun r hr => by rw [up_ne (by omega), up_ne (by omega)]) ⟨hR.q.cg hs hl, hR.h.cg hs hl, hR.hr.cg hs, hR.c.cg hs hl, hR.b.cg hs hl, hR.t.cg hs hl, hR.d.cg hs hl, fun k' hk' => ?_, hR.ur.cg hs, hR.m.cg (Nat.le_refl _) hs hl, hR.r.cg hs hl, hR.e.cg hs hl⟩
  obtain ⟨w0, w1, w2, w3, w4, w5, w6, w7, w8, w9⟩ := hR.u k' hk'
  have r36 : up (up S 37 k (S 37 k + 1)) 36 k (S 36 k + 30) 36 = upd (S 36) k (S 36 k + 30) := rfl
  have r37 : up (up S 37 k (S 37 k + 1)) 36 k (S 36 k + 30) 37 = upd (S 37) k (S 37 k + 1) := rfl
  rw [r36, r37, hs 29 (by decide) (by decide), hs 30 (by decide) (by decide), hs 33 (by decide) (by decide), hs 34 (by decide) (by decide), hs 35 (by decide) (by decide), hs 38 (by decide) (by decide), hs 41 (by decide) (by decide), hs 39 (by decide) (by decide), hs 40 (by decide) (by decide), hl 8 (by decide)]
  refine ⟨by rw [up_off (by omega), up_off (by omega)]; exact w0, by rw [up_off (by omega), up_off (by omega)]; exact w1, by rw [up_off (by omega), up_off (by omega)]; exact w2, by rw [up_off (by omega), up_off (by omega)]; exact w3, ?_, ?_, by rw [up_off (by omega), up_off (by omega)]; exact w6, by rw [up_off (by omega), up_off (by omega)]; exact w7, w8, w9⟩
  · by_cases e : k' = k
    · subst e; rw [up_at, upd_at]
    · rw [up_off (by omega), up_off (by omega), upd_off e]; exact w4
  · by_cases e : k' = k
    · subst e
      rw [up_off (by omega), up_at, upd_at, w5, e37]
      rcases hI.m.z35 k' with z | z
      · rw [z, show (8 : Int32) = nI 8 by decide, nI_1, pk_mul, pk_mul, show (0 : Int32) = nI 0 by decide, nI_add, nI_add, nI_add]
        congr 1
      · rw [z, show (8 : Int32) = nI 8 by decide, nI_1, pk_mul, pk_mul, show (1 : Int32) = nI 1 by decide, nI_add, nI_add, nI_add]
        congr 1
    · rw [up_off (by omega), up_off (by omega), upd_off e]; exact w5
theorem choose_rel {M : Nat} {S L : St} (hR : REL M S L) (hI : Inv S) {k : Nat} (hk : k < nsu S) {c j o : Int32} {L' : St} (h3 : L' 6 (8 * k + 3) = c) (h5 : L' 6 (8 * k + 5) = 8 * S 37 k + j) (h4 : L' 6 (8 * k + 4) = o) (hoth : ∀ i, ¬ i = 8 * k + 3 → ¬ i = 8 * k + 4 → ¬ i = 8 * k + 5 → L' 6 i = L 6 i) (hl : LU [6] L L') : REL M (up (up (up S 34 k c) 35 k j) 36 k o) L' := by
  have hs8 := hR.ur.1
  have hs : SU [34, 35, 36] S (up (up (up S 34 k c) 35 k j) 36 k o) := fun r _ hn => by repeat rw [up_nm (by decide) hn]
  refine ⟨hR.q.cg hs hl, hR.h.cg hs hl, hR.hr.cg hs, hR.c.cg hs hl, hR.b.cg hs hl, hR.t.cg hs hl, hR.d.cg hs hl, fun k' hk' => ?_, hR.ur.cg hs, hR.m.cg (Nat.le_refl _) hs hl, hR.r.cg hs hl, hR.e.cg hs hl⟩
  obtain ⟨w0, w1, w2, w3, w4, w5, w6, w7, w8, w9⟩ := hR.u k' hk'
  have r34 : up (up (up S 34 k c) 35 k j) 36 k o 34 = upd (S 34) k c := rfl
  have r35 : up (up (up S 34 k c) 35 k j) 36 k o 35 = upd (S 35) k j := rfl
  have r36 : up (up (up S 34 k c) 35 k j) 36 k o 36 = upd (S 36) k o := rfl
  rw [r34, r35, r36, hs 29 (by decide) (by decide), hs 30 (by decide) (by decide), hs 33 (by decide) (by decide), hs 37 (by decide) (by decide), hs 38 (by decide) (by decide), hs 41 (by decide) (by decide), hs 39 (by decide) (by decide), hs 40 (by decide) (by decide), hl 8 (by decide)]
  refine ⟨(hoth _ (by omega) (by omega) (by omega)).trans w0, (hoth _ (by omega) (by omega) (by omega)).trans w1, (hoth _ (by omega) (by omega) (by omega)).trans w2, ?_, ?_, ?_, (hoth _ (by omega) (by omega) (by omega)).trans w6, (hoth _ (by omega) (by omega) (by omega)).trans w7, w8, w9⟩
  · by_cases e : k' = k
    · subst e; rw [upd_at]; exact h3
    · rw [upd_off e]; exact (hoth _ (by omega) (by omega) (by omega)).trans w3
  · by_cases e : k' = k
    · subst e; rw [upd_at]; exact h4
    · rw [upd_off e]; exact (hoth _ (by omega) (by omega) (by omega)).trans w4
  · by_cases e : k' = k
    · subst e; rw [upd_at]; exact h5
    · rw [upd_off e]; exact (hoth _ (by omega) (by omega) (by omega)).trans w5
theorem g_choose {M : Nat} {S L : St} (hR : REL M S L) (hI : Inv S) {k c : Nat} (hk : k < nsu S) (hc0 : 0 < c) (hc : c ≤ 3) : GOOD M S (bL_suits_448 L k (jL_suits_44 L k) (nI c)) := by
  have hs8 := hR.ur.1
  obtain ⟨h0, ek⟩ := suit_ok hR hI hk
  have h1 : okR (nI c) 1 3 := okR_nI (lo := 1) (hi := 3) (by decide) (by decide) hc0 hc (by decide)
  obtain ⟨u0, u1, u2, u3, u4, u5, u6, u7, u8, u9⟩ := hR.u k (by omega)
  obtain ⟨n, m, hm, hn, e36, e37⟩ := hI.o k hk
  have thr : xq8 S 6 (nI k) (nI c) 0 = (0, 3, S) → GOOD M S (L, (6, nI k, nI c, 0), -1003) := fun e8 => good_t3 hI hR (by decide) (e8 := e8)
  have start : ∀ x, (if fX8_isSuit S (nI k) = 0 then (0, 1, S) else if fX8_in (nI c) 1 3 = 0 then (0, 2, S) else x) = (x : Int32 × Int32 × St) := fun x => by rw [if_neg ((suit_I hI.m _).mpr h0), if_neg ((in_R _ _ _).mpr h1)]
  rw [sealed_law hR (by omega)]
  -- the class's own answer where nothing is refused
  have run : ¬ 3 ≤ S 34 k → ¬ (nI c = 2 ∧ S 34 k = 1) → xq8 S 6 (nI k) (nI c) 0 = (S 34 k, 0, up (up (up S 34 k (nI c)) 35 k (if S 35 k = 0 then (if nI c = 1 then 1 else 0) else 1)) 36 k (if fX8_isSealed S k = 0 then S 36 k else S 1 0)) := by
    intro q1 q2
    show fX8_choose S (nI k) (nI c) = _
    unfold fX8_choose
    rw [start, ek, if_pos (over_i.mpr q1)]
    have hse : ∀ x y, fX8_isSealed (up (up S 34 k x) 35 k y) k = fX8_isSealed S k := fun _ _ => rfl
    simp only [hse]
    by_cases a1 : nI c = 2
    · have a2 : ¬ S 34 k = 1 := fun w => q2 ⟨a1, w⟩
      rw [if_pos a1, if_neg a2]
      by_cases a3 : S 35 k = 0
      · rw [if_pos a3, if_pos a3]
        by_cases a4 : nI c = 1
        · rw [if_pos a4, if_pos a4]
          by_cases a5 : fX8_isSealed S k = 0
          · rw [if_pos a5, if_pos a5]
          · rw [if_neg a5, if_neg a5]
        · rw [if_neg a4, if_neg a4]
          by_cases a5 : fX8_isSealed S k = 0
          · rw [if_pos a5, if_pos a5]
          · rw [if_neg a5, if_neg a5]
      · rw [if_neg a3, if_neg a3]
        by_cases a5 : fX8_isSealed S k = 0
        · rw [if_pos a5, if_pos a5]
        · rw [if_neg a5, if_neg a5]
    · rw [if_neg a1]
      by_cases a3 : S 35 k = 0
      · rw [if_pos a3, if_pos a3]
        by_cases a4 : nI c = 1
        · rw [if_pos a4, if_pos a4]
          by_cases a5 : fX8_isSealed S k = 0
          · rw [if_pos a5, if_pos a5]
          · rw [if_neg a5, if_neg a5]
        · rw [if_neg a4, if_neg a4]
          by_cases a5 : fX8_isSealed S k = 0
          · rw [if_pos a5, if_pos a5]
          · rw [if_neg a5, if_neg a5]
      · rw [if_neg a3, if_neg a3]
        by_cases a5 : fX8_isSealed S k = 0
        · rw [if_pos a5, if_pos a5]
        · rw [if_neg a5, if_neg a5]
  -- the bit of having joined
  have j1 : nI c = 1 → (8 * S 37 k + S 35 k) ||| 1 = 8 * S 37 k + (if S 35 k = 0 then (if nI c = 1 then 1 else 0) else 1) := by
    intro a4
    rw [e37]
    rcases hI.m.z35 k with z | z
    · rw [z, if_pos rfl, if_pos a4, show (8 : Int32) = nI 8 by decide, pk_mul, nI_1, Int32.add_zero]
      exact (or_1 m (by omega)).1
    · rw [z, if_neg (by decide), show (8 : Int32) = nI 8 by decide, pk_mul, nI_1]
      exact (or_1 m (by omega)).2
  have j0 : ¬ nI c = 1 → (8 * S 37 k + S 35 k) ||| 0 = 8 * S 37 k + (if S 35 k = 0 then (if nI c = 1 then 1 else 0) else 1) := by
    intro a4
    rw [or_0, if_neg a4]
    rcases hI.m.z35 k with z | z
    · rw [z, if_pos rfl]
    · rw [z, if_neg (by decide)]
  have fin : ∀ (j : Int32), (8 * S 37 k + S 35 k) ||| j = 8 * S 37 k + (if S 35 k = 0 then (if nI c = 1 then 1 else 0) else 1) → ¬ 3 ≤ S 34 k → ¬ (nI c = 2 ∧ S 34 k = 1) → GOOD M S (if fX8_isSealed S k = 0 then ((up (up (up L 6 (8 * k + 3) (nI c)) 6 (8 * k + 5) (((up L 6 (8 * k + 3) (nI c)) 6 (8 * k + 5)) ||| j)) 6 (8 * k + 4) ((up (up L 6 (8 * k + 3) (nI c)) 6 (8 * k + 5) (((up L 6 (8 * k + 3) (nI c)) 6 (8 * k + 5)) ||| j)) 6 (8 * k + 4))), (6, nI k, (nI c), 0), S 34 k) else ((up (up (up L 6 (8 * k + 3) (nI c)) 6 (8 * k + 5) (((up L 6 (8 * k + 3) (nI c)) 6 (8 * k + 5)) ||| j)) 6 (8 * k + 4) (L 11 0)), (6, nI k, (nI c), 0), S 34 k)) := by
    intro j hj q1 q2
    have e8 := run q1 q2
    have r5 : (up L 6 (8 * k + 3) (nI c)) 6 (8 * k + 5) = 8 * S 37 k + S 35 k := by rw [up_off (by omega), u5]
    by_cases a5 : fX8_isSealed S k = 0
    · rw [if_pos a5]
      rw [if_pos a5] at e8
      refine good_8 hI e8 (fun r hr => by rw [up_ne (by omega), up_ne (by omega), up_ne (by omega)]) (choose_rel hR hI hk ?_ ?_ ?_ (fun i i3 i4 i5 => ?_) (fun r hn => by repeat rw [up_nm (by decide) hn]))
      · rw [up_off (by omega), up_off (by omega), up_at]
      · rw [up_off (by omega), up_at, r5, hj]
      · rw [up_at, up_off (by omega), up_off (by omega), u4]
      · rw [up_off i4, up_off i5, up_off i3]
    · rw [if_neg a5]
      rw [if_neg a5] at e8
      refine good_8 hI e8 (fun r hr => by rw [up_ne (by omega), up_ne (by omega), up_ne (by omega)]) (choose_rel hR hI hk ?_ ?_ ?_ (fun i i3 i4 i5 => ?_) (fun r hn => by repeat rw [up_nm (by decide) hn]))
      · rw [up_off (by omega), up_off (by omega), up_at]
      · rw [up_off (by omega), up_at, r5, hj]
      · rw [up_at, hR.q.1]
      · rw [up_off i4, up_off i5, up_off i3]
  unfold bL_suits_448
  rw [u3]
  by_cases c1 : 3 ≤ S 34 k
  · rw [if_pos c1]
    refine thr ?_
    show fX8_choose S (nI k) (nI c) = _
    unfold fX8_choose
    rw [start, ek, if_neg (fun q => over_i.mp q c1)]
  rw [if_neg c1]
  by_cases c2 : nI c = 2
  · rw [if_pos c2]
    by_cases c3 : S 34 k = 1
    · rw [if_pos c3]
      refine thr ?_
      show fX8_choose S (nI k) (nI c) = _
      unfold fX8_choose
      rw [start, ek, if_pos (over_i.mpr c1), if_pos c2, if_pos c3]
    · rw [if_neg c3]
      by_cases c4 : nI c = 1
      · rw [if_pos c4]; exact fin 1 (j1 c4) c1 (fun q => c3 q.2)
      · rw [if_neg c4]; exact fin 0 (j0 c4) c1 (fun q => c3 q.2)
  · rw [if_neg c2]
    by_cases c4 : nI c = 1
    · rw [if_pos c4]; exact fin 1 (j1 c4) c1 (fun q => c2 q.1)
    · rw [if_neg c4]; exact fin 0 (j0 c4) c1 (fun q => c2 q.1)
theorem g_help {M : Nat} {S L : St} (hR : REL M S L) (hI : Inv S) {k h : Nat} (hk : k < nsu S) (hh : h ≤ 10) : GOOD M S (if 3 ≤ (L 6 (8 * k + 3)) then ((up L 6 (8 * k + 6) (L 6 (8 * k + 6))), (7, nI k, nI h, 0), (-1003)) else ((up L 6 (8 * k + 6) (nI h)), (7, nI k, nI h, 0), L 6 (8 * k + 6))) := by
  have hs8 := hR.ur.1
  obtain ⟨h0, ek⟩ := suit_ok hR hI hk
  have h1 : okR (nI h) 0 10 := okR_nI (lo := 0) (hi := 10) (by decide) (by decide) (Nat.zero_le _) hh (by decide)
  obtain ⟨u0, u1, u2, u3, u4, u5, u6, u7, u8, u9⟩ := hR.u k (by omega)
  rw [u3]
  by_cases c1 : 3 ≤ S 34 k
  · rw [if_pos c1, up_same rfl]
    refine good_t3 hI hR (by decide) (v := 0) (e8 := ?_)
    show fX8_help S (nI k) (nI h) = _
    unfold fX8_help
    rw [if_neg ((suit_I hI.m _).mpr h0), if_neg ((in_R _ _ _).mpr h1), ek, if_neg (fun q => over_i.mp q c1)]
  · rw [if_neg c1, u6]
    have hs : SU [38] S (up S 38 k (nI h)) := fun r _ hn => by repeat rw [up_nm (by decide) hn]
    have hl : LU [6] L (up L 6 (8 * k + 6) (nI h)) := fun r hn => by repeat rw [up_nm (by decide) hn]
    refine good_8 hI (A := up S 38 k (nI h)) ?_ (fun r hr => by rw [up_ne (by omega)]) ⟨hR.q.cg hs hl, hR.h.cg hs hl, hR.hr.cg hs, hR.c.cg hs hl, hR.b.cg hs hl, hR.t.cg hs hl, hR.d.cg hs hl, fun k' hk' => ?_, ⟨hR.ur.1, hR.ur.2.1, fun k' hk' => ?_⟩, hR.m.cg (Nat.le_refl _) hs hl, hR.r.cg hs hl, hR.e.cg hs hl⟩
    · show fX8_help S (nI k) (nI h) = _
      unfold fX8_help
      rw [if_neg ((suit_I hI.m _).mpr h0), if_neg ((in_R _ _ _).mpr h1), ek, if_pos (over_i.mpr c1)]
    · obtain ⟨w0, w1, w2, w3, w4, w5, w6, w7, w8, w9⟩ := hR.u k' hk'
      rw [up_row S 38, hs 29 (by decide) (by decide), hs 30 (by decide) (by decide), hs 33 (by decide) (by decide), hs 34 (by decide) (by decide), hs 35 (by decide) (by decide), hs 36 (by decide) (by decide), hs 37 (by decide) (by decide), hs 41 (by decide) (by decide), hs 39 (by decide) (by decide), hs 40 (by decide) (by decide), hl 8 (by decide)]
      refine ⟨by rw [up_off (by omega)]; exact w0, by rw [up_off (by omega)]; exact w1, by rw [up_off (by omega)]; exact w2, by rw [up_off (by omega)]; exact w3, by rw [up_off (by omega)]; exact w4, by rw [up_off (by omega)]; exact w5, ?_, by rw [up_off (by omega)]; exact w7, w8, w9⟩
      by_cases e : k' = k
      · subst e; rw [up_at, upd_at]
      · rw [up_off (by omega), upd_off e]; exact w6
    · obtain ⟨z1, z2⟩ := hR.ur.2.2 k' hk'
      rw [hs 33 (by decide) (by decide), up_row]
      refine ⟨z1, ?_⟩
      by_cases e : k' = k
      · subst e; rw [upd_at]; exact ⟨h, hh, rfl⟩
      · rw [upd_off e]; exact z2
