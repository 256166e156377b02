/-! what the bench says is what the rows say -/
theorem sk_all {M : Nat} {S L : St} (hR : REL M S L) (hI : Inv S) : fX7_all S 0 = (L 11 0, 0, S) ∧ fX7_all S 1 = (L 11 6, 0, S) ∧ fX7_all S 3 = (lL_same_38 L (q4 L), 0, S) := by
  have hs8 := hR.ur.1
  obtain ⟨x0, x1, x2, x3, x4, x5, x6⟩ := hR.q
  refine ⟨?_, ?_, ?_⟩
  · unfold fX7_all
    rw [if_pos rfl, x0]
  · unfold fX7_all
    rw [if_neg (by decide), if_pos rfl, x6]
  · have key : ∀ n, n ≤ nsu S → lL_same_38 L n = lX7_sealedSuits_4 S n := by
      intro n
      induction n with
      | zero => exact fun _ => rfl
      | succ n ih =>
        intro hn
        obtain ⟨-, -, -, -, u4, -⟩ := hR.u n (by omega)
        show iL_same_38 L n (lL_same_38 L n) = iX7_sealedSuits_4 S n (lX7_sealedSuits_4 S n)
        rw [ih (by omega)]
        unfold iL_same_38 bL_same_76 jL_same_76 iX7_sealedSuits_4 fX5_isSealedOn
        rw [u4, x0]
        by_cases c : S 36 n ≤ S 1 0
        · rw [if_pos c, if_pos rfl, Int32.add_zero]
        · rw [if_neg c, if_neg (by decide)]
    unfold fX7_all fX7_sealedSuits
    rw [if_neg (by decide), if_neg (by decide), if_neg (by decide), if_pos rfl, hR.q4e, key _ (Nat.le_refl _)]
theorem sk_suit {M : Nat} {S L : St} (hR : REL M S L) (hI : Inv S) {k : Nat} (hk : k < q4 L) : fX7_ofSuit S (nI k) 0 = (L 6 (8 * k), 0, S) ∧ fX7_ofSuit S (nI k) 1 = (L 6 (8 * k + 1), 0, S) ∧ fX7_ofSuit S (nI k) 2 = (fL_had L k 3000, 0, S) ∧ fX7_ofSuit S (nI k) 3 = (L 6 (8 * k + 2), 0, S) ∧ fX7_ofSuit S (nI k) 4 = (L 6 (8 * k + 3), 0, S) ∧ fX7_ofSuit S (nI k) 5 = (L 6 (8 * k + 4), 0, S) ∧ fX7_ofSuit S (nI k) 6 = (L 6 (8 * k + 6), 0, S) ∧ fX7_ofSuit S (nI k) 7 = (L 8 k, 0, S) ∧ fX7_ofSuit S (nI k) 8 = (L 8 (8 + k), 0, S) ∧ fX7_ofSuit S (nI k) 9 = (fL_hundredths L k, 0, S) := by
  have hs8 := hR.ur.1
  rw [hR.q4e] at hk
  obtain ⟨h0, ek⟩ := suit_ok hR hI hk
  obtain ⟨u0, u1, u2, u3, u4, u5, u6, u7, u8, u9⟩ := hR.u k (by omega)
  rw [(had_all hR hk).1, hund_law hR hI hk, u0, u1, u2, u3, u4, u6, u8, u9, ← hund_eq hI.p hk hI.s hI.m.b28 hI.m.b7 hI.pl.p (hI.m.v29 k)]
  unfold fX7_ofSuit
  rw [if_pos h0, if_pos h0, if_pos h0, if_pos h0, if_pos h0, if_pos h0, if_pos h0, if_pos h0, if_pos h0, if_pos h0, ek]
  exact ⟨rfl, rfl, rfl, rfl, rfl, rfl, rfl, rfl, rfl, rfl⟩
theorem sk_claim {M : Nat} {S L : St} (hR : REL M S L) (hI : Inv S) {i : Nat} (hi : i < q2 L) : fX7_ofClaim S (nI i) 0 = (L 1 i - L 1 i / 8 * 8, 0, S) ∧ fX7_ofClaim S (nI i) 1 = ((L 1 i / 8) - (L 1 i / 8) / 16384 * 16384, 0, S) ∧ fX7_ofClaim S (nI i) 2 = (L 1 i / 131072, 0, S) ∧ fX7_ofClaim S (nI i) 3 = (L 2 i - 1, 0, S) := by
  have hb7 := hI.m.b7
  have hb15 := hI.m.b15
  rw [hR.q2e] at hi
  have h0 : okI (nI i) (S 15 0) := okI_nI hI.m.n15 hi (by omega)
  have ei : ix (nI i) = i := nI_clamp (by omega)
  obtain ⟨a, m, d, ha, hm, hd, e16, e17, e18, e1, e2, -⟩ := hR.c.1 i hi
  obtain ⟨r1, r2, r3⟩ := claim_n (a := a) (m := m) (d := d) (by omega) hm hd
  rw [e1, r1, r2, r3, e2, add1_sub]
  unfold fX7_ofClaim
  rw [if_pos h0, if_pos h0, if_pos h0, if_pos h0, ei, e16, e17, e18]
  exact ⟨rfl, rfl, rfl, rfl⟩
theorem sk_firm {M : Nat} {S L : St} (hR : REL M S L) : (∀ i, 12 ≤ i → i < 15 → fX7_ofFirm S 3 ((nI i) - 12) = (0, 0, S)) ∧ ∀ i, i < 12 → fX7_ofFirm S ((nI i) / 4) ((nI i) - (nI i) / 4 * 4) = (L 9 i, 0, S) := by
  obtain ⟨m1, m2, m3, m4, m5⟩ := hR.m
  refine ⟨fun i h1 h2 => ?_, fun i hi => ?_⟩
  · have hF : okI (3 : Int32) 6 := okI_nI (n := 3) (by decide) (show 3 < 6 by decide) (by decide)
    rw [show (12 : Int32) = nI 12 by decide, pk_sub h1]
    unfold fX7_ofFirm
    rw [if_pos hF, show ix (3 : Int32) = 3 by decide, m2, m3, m4, m5]
    rcases (show i - 12 = 0 ∨ i - 12 = 1 ∨ i - 12 = 2 by omega) with q | q | q
    · rw [q]; rfl
    · rw [q]; rfl
    · rw [q]; rfl
  · have hF : okI (nI (i / 4)) 6 := okI_nI (by decide) (show i / 4 < 6 by omega) (by decide)
    obtain ⟨x0, x1, x2, x3, -⟩ := m1 (i / 4) (by omega)
    rw [nx_div 4 (by omega) (by decide) (by decide) (by decide), show nI i - nI (i / 4) * 4 = nI (i % 4) by rw [show (4 : Int32) = nI 4 by decide, pk_mul, pk_sub (by omega)]; congr 1; omega]
    unfold fX7_ofFirm
    rw [if_pos hF, show ix (nI (i / 4)) = i / 4 from nI_clamp (by omega), ← x0, ← x1, ← x2, ← x3]
    rcases (show i % 4 = 0 ∨ i % 4 = 1 ∨ i % 4 = 2 ∨ i % 4 = 3 by omega) with q | q | q | q
    · rw [q, show i = 4 * (i / 4) by omega]; simp only [show 4 * (i / 4) / 4 = i / 4 by omega]; rfl
    · rw [q, show i = 4 * (i / 4) + 1 by omega]; simp only [show (4 * (i / 4) + 1) / 4 = i / 4 by omega]; rfl
    · rw [q, show i = 4 * (i / 4) + 2 by omega]; simp only [show (4 * (i / 4) + 2) / 4 = i / 4 by omega]; rfl
    · rw [q, show i = 4 * (i / 4) + 3 by omega]; simp only [show (4 * (i / 4) + 3) / 4 = i / 4 by omega]; rfl
theorem sk_got {M : Nat} {S L : St} (hR : REL M S L) : ∀ i, i < 15 → fX7_got S ((nI i) - (nI i) / 5 * 5) ((nI i) / 5) = (L 4 (8 * (i % 5) + 4 + i / 5), 0, S) := by
  intro i hi
  have hT : okI (nI (i % 5)) 8 := okI_nI (by decide) (show i % 5 < 8 by omega) (by decide)
  obtain ⟨-, -, -, -, y4, y5, y6, -⟩ := hR.t (i % 5) (by omega)
  rw [nx_rem 5 (by omega) (by decide) (by decide) (by decide), nx_div 5 (by omega) (by decide) (by decide) (by decide)]
  unfold fX7_got
  rw [if_pos hT, show ix (nI (i % 5)) = i % 5 from nI_clamp (by omega), ← y4, ← y5, ← y6]
  rcases (show i / 5 = 0 ∨ i / 5 = 1 ∨ i / 5 = 2 by omega) with q | q | q
  · rw [q]; rfl
  · rw [q]; rfl
  · rw [q]; rfl
theorem sk_due {M : Nat} {S L : St} (hR : REL M S L) (hI : Inv S) {k : Nat} (hk : k < q4 L) : fX7_due S (nI k) = (fL_due L k, 0, S) := by
  rw [hR.q4e] at hk
  obtain ⟨h0, ek⟩ := suit_ok hR hI hk
  unfold fX7_due
  rw [if_pos h0, ek, due_law hR hI hk, hI.w.due hk]
theorem sk_sees {M : Nat} {S L : St} (hR : REL M S L) (hI : Inv S) {k t : Nat} (hk : k < q4 L) (ht : t < 5) : fX7_sees S (nI t) (nI k) = (jL_same_575 L k t, 0, S) := by
  have hs8 := hR.ur.1
  rw [hR.q4e] at hk
  obtain ⟨h0, ek⟩ := suit_ok hR hI hk
  have hT : okI (nI t) 8 := okI_nI (by decide) (show t < 8 by omega) (by decide)
  obtain ⟨u0, u1, u2, u3, u4, -⟩ := hR.u k (by omega)
  unfold fX7_sees jL_same_575 fX5_isSealedOn
  rw [if_pos hT, if_pos h0, ek, u0, u4, hR.q.1]
  by_cases c : S 29 k = nI t
  · rw [if_pos c, if_pos c]
  · rw [if_neg c, if_neg c]
    by_cases c2 : S 36 k ≤ S 1 0
    · rw [if_pos c2, if_pos rfl, if_neg (fun q => by rw [Int32.lt_iff_toInt_lt] at q; rw [Int32.le_iff_toInt_le] at c2; omega)]
    · rw [if_neg c2, if_neg (by decide), if_pos (by rw [Int32.lt_iff_toInt_lt]; rw [Int32.le_iff_toInt_le] at c2; omega)]
theorem sk_scheme {M : Nat} {S L : St} (hR : REL M S L) (hI : Inv S) {a : Nat} (ha : a < q1 L) : fX7_first S (nI a) = (fL_first L a, 0, S) ∧ fX7_firstAnew S (nI a) = (fL_first L a, 0, S) ∧ ∀ k, k < q4 L → fX7_covers S (nI k) (nI a) = (fL_day L k a, 0, S) ∧ fX7_bars S (nI k) (nI a) = (fL_bar L k a, 0, S) := by
  have hb7 := hI.m.b7
  rw [hR.q1e] at ha
  have h7 : okI (nI a) (S 7 0) := okI_nI hI.m.n7 ha (by omega)
  have ea : ix (nI a) = a := nI_clamp (by omega)
  have hs := hI.s a ha
  refine ⟨?_, ?_, fun k hk => ?_⟩
  · unfold fX7_first
    rw [if_pos h7, ea, first_law hR hI ha, first_eq hI.p hs hI.m.b28]
  · unfold fX7_firstAnew
    rw [if_pos h7, anew_eq hI.p (by rw [ea]; exact hs) hI.pd.p hI.m.b28, ea, first_law hR hI ha]
  · rw [hR.q4e] at hk
    obtain ⟨h0, ek⟩ := suit_ok hR hI hk
    constructor
    · unfold fX7_covers
      rw [if_pos h0, if_pos h7, ek, ea, cover_eq (hI.p k hk) hs, day_eq hR hI hk ha]
    · unfold fX7_bars
      rw [if_pos h0, if_pos h7, ek, ea, bar_eq hI.p hk hs hI.m.b28, bar_law hR hI hk ha]
theorem cnt_pos {x : Int32} {n : Nat} (hx : x = nI n) (h : ¬ x = 0) : 0 < n := by
  rcases Nat.eq_zero_or_pos n with q | q
  · subst q; exact absurd hx h
  · exact q
theorem same_met (l : Launch) (hfl : l.stackTraces = false) (A B : Nat → Prop) (D : va_G) (cy : Nat → ClassId) (g : CWt) (S : St) (e0 mi n0 x0 : Nat) (la : Nat → Nat) (hK : XK A B e0 n0 x0 la g S) (L : St) {M : Nat} (hR : REL M S L) (hI : Inv S) (zy : Int32) : Met l yL_same wsL_same ({ frames := 9, cells := 200, slots := 1300, locals := 184 } : Room) (va_Pc [.ref x0, .int zy, .ref (la 0), .ref (la 1), .ref (la 2), .ref (la 3), .ref (la 4), .ref (la 6), .ref (la 7), .ref (la 8), .ref (la 9), .ref (la 11)] (XW A B D cy g S e0 mi n0 la L)) (va_Qi (fun (r : Int32) (_ : Unit) => r = 1) (fun _ t9 => CH D cy g S t9.heap ∧ LH 12 D cy la L t9.heap) (AB A B)) 200 1300 (AB A B) := by
  have hV := hR.v hI.m
  have hb2 := hV.b2
  have hb4 := hV.b4
  obtain ⟨t, ht, et⟩ := low_n (zy >>> ((3 : Int32) &&& 31)) (n := 5) (N := 5) (by decide) (by decide) (by decide)
  obtain ⟨i, hi, ei⟩ := low_n (zy >>> ((4 : Int32) &&& 31)) (n := (L 11 2) + 1) (N := q2 L + 1) (by rw [hV.n2, nI_1]) (by omega) (by omega)
  obtain ⟨k, hk8, hkq, ek⟩ : ∃ k, k < 8 ∧ (¬ L 11 4 = 0 → k < q4 L) ∧ (¬ L 11 4 = 0 → fL_low zy (L 11 4) = nI k) := by
    by_cases c : L 11 4 = 0
    · exact ⟨0, by decide, fun q => absurd c q, fun q => absurd c q⟩
    · obtain ⟨k, hk, ek⟩ := low_n zy (n := L 11 4) (N := q4 L) hV.n4 (cnt_pos hV.n4 c) (by omega)
      exact ⟨k, by omega, fun _ => hk, fun _ => ek⟩
  exact qL_same l hfl A B D cy g S e0 mi n0 x0 la hK L hV zy k hk8 t ht i (by omega) hkq (by omega) ek et ei (sk_all hR hI).1 (sk_all hR hI).2.1 (fun q => (sk_claim hR hI (i := 0) (cnt_pos hV.n2 q)).2.2.2) (fun q => sk_due hR hI (hkq q)) (fun q => (sk_suit hR hI (hkq q)).2.2.2.2.2.2.2.2.2) (fun q => sk_sees hR hI (hkq q) ht) (fun _ q => (sk_claim hR hI q).1) (fun _ q => (sk_claim hR hI q).2.1) (fun _ q => (sk_claim hR hI q).2.2.1) (fun _ q => (sk_claim hR hI q).2.2.2) (fun q a ha => ((sk_scheme hR hI ha).2.2 k (hkq q)).1) (fun q a ha => ((sk_scheme hR hI ha).2.2 k (hkq q)).2) (fun a ha => (sk_scheme hR hI ha).1) (fun a ha => (sk_scheme hR hI ha).2.1) (sk_firm hR).1 (sk_firm hR).2 (sk_got hR) (fun i hi => (sk_suit hR hI hi).1) (fun i hi => (sk_suit hR hI hi).2.1) (fun i hi => (sk_suit hR hI hi).2.2.1) (fun i hi => (sk_suit hR hI hi).2.2.2.1) (fun i hi => (sk_suit hR hI hi).2.2.2.2.1) (fun i hi => (sk_suit hR hI hi).2.2.2.2.2.1) (fun i hi => (sk_suit hR hI hi).2.2.2.2.2.2.1) (fun i hi => (sk_suit hR hI hi).2.2.2.2.2.2.2.1) (fun i hi => (sk_suit hR hI hi).2.2.2.2.2.2.2.2.1) (sk_all hR hI).2.2
