/-! what the law reads: first, bar, counts, due, hundredths, knows are the bench's -/
theorem day_R {S : St} (hI : Inv S) {k a : Nat} (hk : k < nsu S) (ha : a < nsc S) : fX8_dayOf S k a = -1 ∨ dayR (fX8_dayOf S k a) := by
  rcases cover_day (hI.p k hk) (hI.s a ha) with h | ⟨j, hj, h⟩
  · exact Or.inl h
  · rw [h]
    exact Or.inr (hI.d.1 k hk j hj)
theorem first_law {M : Nat} {S L : St} (hR : REL M S L) (hI : Inv S) {a : Nat} (ha : a < nsc S) : fL_first L a = fX8_firstOf S a := by
  have hs8 := hR.ur.1
  have key : ∀ n, n ≤ nsu S → (lL_first_7 L a n = 2147483647 ∧ ∀ i, i < n → ¬ Elig S a i) ∨ ∃ k D, k < n ∧ D ≤ 3000 ∧ lL_first_7 L a n = nI (16 * D + k) ∧ Elig S a k ∧ fX8_dayOf S k a = nI D ∧ ∀ i, i < n → Elig S a i → ∀ D', D' ≤ 3000 → fX8_dayOf S i a = nI D' → 16 * D + k ≤ 16 * D' + i := by
    intro n
    induction n with
    | zero => exact fun _ => Or.inl ⟨rfl, fun i hi => absurd hi (Nat.not_lt_zero i)⟩
    | succ n ih =>
      intro hn
      have ih := ih (by omega)
      obtain ⟨-, -, -, u3, -⟩ := hR.u n (by omega)
      have hd := day_R hI (k := n) (by omega) ha
      have hstep : lL_first_7 L a (n + 1) = iL_first_7 L a n (lL_first_7 L a n) := rfl
      rw [hstep]
      unfold iL_first_7
      rw [day_eq hR hI (by omega) ha, u3]
      have skip : ¬ Elig S a n → (lL_first_7 L a n = 2147483647 ∧ ∀ i, i < n + 1 → ¬ Elig S a i) ∨ ∃ k D, k < n + 1 ∧ D ≤ 3000 ∧ lL_first_7 L a n = nI (16 * D + k) ∧ Elig S a k ∧ fX8_dayOf S k a = nI D ∧ ∀ i, i < n + 1 → Elig S a i → ∀ D', D' ≤ 3000 → fX8_dayOf S i a = nI D' → 16 * D + k ≤ 16 * D' + i := by
        intro hno
        rcases ih with ⟨e, h⟩ | ⟨k, D, h1, h2, h3, h4, h5, h6⟩
        · refine Or.inl ⟨e, fun i hi => ?_⟩
          by_cases q : i = n
          · rw [q]; exact hno
          · exact h i (by omega)
        · refine Or.inr ⟨k, D, by omega, h2, h3, h4, h5, fun i hi hE => ?_⟩
          by_cases q : i = n
          · rw [q] at hE; exact absurd hE hno
          · exact h6 i (by omega) hE
      by_cases c1 : S 34 n = 3
      · rw [if_pos c1]
        exact skip (fun q => q.1 c1)
      rw [if_neg c1]
      rcases hd with hd | ⟨D, hD, hd⟩
      · rw [hd, if_pos (by decide)]
        exact skip (fun q => q.2 hd)
      have hEl : Elig S a n := ⟨c1, by rw [hd]; exact nI_ne1 (by omega)⟩
      have e16 : 16 * nI D + nI n = nI (16 * D + n) := by rw [show (16 : Int32) = nI 16 by decide, pk_mul, nI_add]
      rw [hd, if_neg (nI_pos (by omega)), e16]
      rcases ih with ⟨e, h⟩ | ⟨k, D2, h1, h2, h3, h4, h5, h6⟩
      · rw [e, show (2147483647 : Int32) = nI 2147483647 by decide, if_neg (nI_ge (by omega) (by decide))]
        refine Or.inr ⟨n, D, by omega, hD, rfl, hEl, hd, fun i hi hE D' hD' hd' => ?_⟩
        by_cases q : i = n
        · subst q
          rw [hd] at hd'
          have := (nI_eq (by omega) (by omega)).mp hd'
          omega
        · exact absurd hE (h i (by omega))
      · rw [h3]
        by_cases c2 : 16 * D2 + k ≤ 16 * D + n
        · rw [if_pos (nI_le c2 (by omega))]
          refine Or.inr ⟨k, D2, by omega, h2, rfl, h4, h5, fun i hi hE D' hD' hd' => ?_⟩
          by_cases q : i = n
          · subst q
            rw [hd] at hd'
            have := (nI_eq (by omega) (by omega)).mp hd'
            omega
          · exact h6 i (by omega) hE D' hD' hd'
        · rw [if_neg (nI_ge (by omega) (by omega))]
          refine Or.inr ⟨n, D, by omega, hD, rfl, hEl, hd, fun i hi hE D' hD' hd' => ?_⟩
          by_cases q : i = n
          · subst q
            rw [hd] at hd'
            have := (nI_eq (by omega) (by omega)).mp hd'
            omega
          · have := h6 i (by omega) hE D' hD' hd'
            omega
  refine fo_uniq (n := nsu S) ?_ (fo_first (by omega))
  unfold fL_first
  rw [hR.q4e]
  rcases key (nsu S) (Nat.le_refl _) with ⟨e, h⟩ | ⟨k, D, h1, h2, h3, h4, h5, h6⟩
  · rw [e, if_pos rfl]
    exact Or.inl ⟨rfl, h⟩
  · have hne : ¬ nI (16 * D + k) = (2147483647 : Int32) := by
      rw [show (2147483647 : Int32) = nI 2147483647 by decide, nI_eq (by omega) (by decide)]
      omega
    rw [h3, if_neg hne, nx_rem 16 (by omega) (by decide) (by decide) (by decide), show (16 * D + k) % 16 = k by omega]
    refine Or.inr ⟨k, h1, rfl, h4, fun i hi hE => ?_⟩
    rcases day_R hI (k := i) hi ha with q | ⟨D', hD', hd'⟩
    · exact absurd q hE.2
    · have := h6 i hi hE D' hD' hd'
      rw [h5, hd', nI_toInt (by omega), nI_toInt (by omega)]
      refine ⟨by omega, fun q => ?_⟩
      have := (nI_eq (by omega) (by omega)).mp q
      omega
theorem public_spec (S : St) (d : Int32) : ∃ m, m < 65536 ∧ fX8_publicBy S d = nI m ∧ ∀ b, b < 16 → (m.testBit b = true ↔ ¬ S 20 b = -1 ∧ ¬ d < S 20 b) := by
  have key : ∀ n, n ≤ 16 → ∃ m, m < 2 ^ n ∧ lX8_publicBy_4 S d n = nI m ∧ ∀ b, b < n → (m.testBit b = true ↔ ¬ S 20 b = -1 ∧ ¬ d < S 20 b) := by
    intro n
    induction n with
    | zero => exact fun _ => ⟨0, by decide, rfl, fun b hb => absurd hb (Nat.not_lt_zero b)⟩
    | succ n ih =>
      intro hn
      obtain ⟨m, hm, e, hb⟩ := ih (by omega)
      have hm2 : m < 2 ^ (n + 1) := Nat.lt_of_lt_of_le hm (Nat.pow_le_pow_right (by decide) (by omega))
      have keep : ¬ (¬ S 20 n = -1 ∧ ¬ d < S 20 n) → ∀ b, b < n + 1 → (m.testBit b = true ↔ ¬ S 20 b = -1 ∧ ¬ d < S 20 b) := by
        intro hno b hb2
        by_cases q : b = n
        · subst q
          rw [Nat.testBit_lt_two_pow hm]
          exact ⟨fun q => absurd q (by decide), fun q => absurd q hno⟩
        · exact hb b (by omega)
      show ∃ m, m < 2 ^ (n + 1) ∧ iX8_publicBy_4 S d n (lX8_publicBy_4 S d n) = nI m ∧ _
      rw [e]
      unfold iX8_publicBy_4
      rw [or_0, shl1 n (by omega), nI_or]
      by_cases c1 : S 20 n = -1
      · rw [if_pos c1]
        exact ⟨m, hm2, rfl, keep (fun q => q.1 c1)⟩
      · rw [if_neg c1]
        by_cases c2 : d < S 20 n
        · rw [if_pos c2]
          exact ⟨m, hm2, rfl, keep (fun q => q.2 c2)⟩
        · rw [if_neg c2]
          obtain ⟨o1, o2⟩ := or_bitL hm
          refine ⟨m ||| 2 ^ n, o1, rfl, fun b hb2 => ?_⟩
          rw [o2]
          by_cases q : b = n
          · subst q
            simp only [decide_true, Bool.or_true, true_iff]
            exact ⟨c1, c2⟩
          · rw [decide_eq_false q, Bool.or_false]
            exact hb b (by omega)
  exact key 16 (Nat.le_refl _)
theorem not_nI {p : Nat} (hp : p < 2 ^ 31) : nI p ^^^ (-1) = nI (2 ^ 32 - (p + 1)) := by
  apply Int32.toBitVec_inj.mp
  apply BitVec.eq_of_toNat_eq
  have e1 : (nI p ^^^ (-1)).toBitVec.toNat = (nI p).toBitVec.toNat ^^^ (2 ^ 32 - 1) := by
    rw [Int32.toBitVec_xor, BitVec.toNat_xor]
    rfl
  rw [e1, pk_tn (by omega), pk_tn (by omega)]
  apply Nat.eq_of_testBit_eq
  intro b
  rw [Nat.testBit_xor, Nat.testBit_two_pow_sub_one, Nat.testBit_two_pow_sub_succ (x := p) (by omega)]
  by_cases hb : b < 32
  · simp [hb]
  · have : p.testBit b = false := Nat.testBit_lt_two_pow (Nat.lt_of_lt_of_le hp (Nat.pow_le_pow_right (by decide) (by omega)))
    simp [hb, this]
theorem andn_0 {x p : Nat} (hx : x < 2 ^ 31) (hp : p < 2 ^ 31) : (nI x &&& (nI p ^^^ (-1)) = 0) ↔ ∀ b, x.testBit b = true → p.testBit b = true := by
  rw [not_nI hp, nI_and, show (0 : Int32) = nI 0 by decide, nI_eq (Nat.lt_of_le_of_lt Nat.and_le_left hx) (by decide)]
  constructor
  · intro h b hb
    have e := congrArg (fun y => y.testBit b) h
    have hb32 : b < 32 := by
      rcases Nat.lt_or_ge b 32 with q | q
      · exact q
      · rw [Nat.testBit_lt_two_pow (Nat.lt_of_lt_of_le hx (Nat.pow_le_pow_right (by decide) (by omega)))] at hb
        exact absurd hb (by decide)
    simp only [Nat.testBit_and, hb, Bool.true_and, Nat.zero_testBit] at e
    rw [Nat.testBit_two_pow_sub_succ (by omega)] at e
    simpa [hb32] using e
  · intro h
    apply Nat.eq_of_testBit_eq
    intro b
    rw [Nat.testBit_and, Nat.zero_testBit, Nat.testBit_two_pow_sub_succ (by omega)]
    cases hb : x.testBit b
    · rfl
    · rw [h b hb]; simp
theorem nbits_hi {x : Nat} (hx : x < 256) : nbits x 16 = nbits x 8 := by
  have : ∀ x, x < 256 → nbits x 16 = nbits x 8 := by decide +kernel
  exact this x hx
theorem m1_le {x : Int32} (h : x = -1 ∨ dayR x) : (x + 1 ≤ 0 ↔ x = -1) ∧ (x + 1) - 1 = x ∧ (x + 1 = 0 ↔ x = -1) := by
  rcases h with rfl | ⟨n, hn, rfl⟩
  · exact ⟨by decide, by decide, by decide⟩
  · refine ⟨⟨fun q => ?_, fun q => absurd q (nI_ne1 (by omega))⟩, by rw [nI_1]; exact nI_pred n, ⟨fun q => ?_, fun q => absurd q (nI_ne1 (by omega))⟩⟩
    · rw [nI_1] at q
      exact absurd q (nI_nle (by omega) (by omega))
    · rw [nI_1] at q
      exact absurd q (nI_ne0 (by omega) (by omega))
theorem bar_loop {M : Nat} {S L : St} (hR : REL M S L) (hI : Inv S) {k a f p F : Nat} (hk : k < nsu S) (ha : a < nsc S) (e9 : S 9 a = nI f) (hf : f < 256) (hF9 : F < 65536) (e32 : S 32 k = nI F) (hp : ∀ b, b < 16 → (p.testBit b = true ↔ ¬ S 20 b = -1 ∧ ¬ fX8_dayOf S k a < S 20 b)) :
    ∀ n, n ≤ 8 → ∃ o, o ≤ n ∧ lL_bar_52 L k a n = (nI o, nI (nbits (p &&& f) n)) ∧ (o = 0 ↔ ∀ b, b < n → f.testBit b = true → F.testBit b = true → p.testBit b = true) := by
  have hb7 := hI.m.b7
  have hs8 := hR.ur.1
  obtain ⟨-, h1, -⟩ := hR.h a (by omega)
  obtain ⟨pf, pd, ⟨hn0, h65, hmono, e31, e33, e32', T, eT, hT, hTn⟩, hE⟩ := hR.e k hk
  have hF : F = pf (npp S k - 1) := (nI_eq (by omega) (by have := (h65 (npp S k - 1) (by omega)).2.1; omega)).mp (e32.symm.trans e32')
  have hpd : ∀ j, j < npp S k → pd j ≤ 3000 := fun j hj => (h65 j hj).2.2.2
  intro n
  induction n with
  | zero => exact fun _ => ⟨0, Nat.le_refl _, rfl, ⟨fun _ b hb => absurd hb (Nat.not_lt_zero b), fun _ => rfl⟩⟩
  | succ n ih =>
    intro hn
    obtain ⟨o, ho, e, hiff⟩ := ih (by omega)
    have hstep : lL_bar_52 L k a (n + 1) = iL_bar_52 L k a n (lL_bar_52 L k a n).1 (lL_bar_52 L k a n).2 := rfl
    rw [hstep, e]
    unfold iL_bar_52
    obtain ⟨eb, hbR⟩ := hR.b.1 n (by omega)
    obtain ⟨m1, m2, -⟩ := m1_le hbR
    rw [h1, e9, eb, m2, day_eq hR hI hk ha]
    have hbit : nbits (p &&& f) (n + 1) = nbits (p &&& f) n + (if p.testBit n = true ∧ f.testBit n = true then 1 else 0) := by
      show nbits (p &&& f) n + _ = _
      rw [bit_and1, Nat.testBit_and]
      congr 1
      by_cases c : p.testBit n = true ∧ f.testBit n = true
      · rw [if_pos c, if_pos (by rw [c.1, c.2]; rfl)]
      · rw [if_neg c, if_neg (fun q => c (by rw [Bool.and_eq_true] at q; exact q))]
    have hpn := hp n (by omega)
    have hFn : (L 7 (8 * k + n) ≤ 0 ↔ F.testBit n = false) := by
      rcases pe_day (hE n (by omega)) hpd with ⟨h0, -, -, hno⟩ | ⟨j, hj, hjb, -, h0, -⟩
      · rw [hF, hno _ (by omega)]
        exact ⟨fun _ => rfl, fun _ => h0⟩
      · rw [hF, (hmono j (npp S k - 1) (by omega) (by omega)).2 n hjb]
        exact ⟨fun q => absurd q h0, fun q => absurd q (by decide)⟩
    have z0 : ∀ x : Int32, x + 0 = x := Int32.add_zero
    -- nothing is added to the others
    have keepO : (f.testBit n = true → F.testBit n = true → p.testBit n = true) → (o = 0 ↔ ∀ b, b < n + 1 → f.testBit b = true → F.testBit b = true → p.testBit b = true) := by
      intro hx
      rw [hiff]
      constructor
      · intro h b hb
        by_cases q : b = n
        · rw [q]; exact hx
        · exact h b (by omega)
      · exact fun h b hb => h b (by omega)
    have moreO : (f.testBit n = true ∧ F.testBit n = true ∧ p.testBit n = false) → (o + 1 = 0 ↔ ∀ b, b < n + 1 → f.testBit b = true → F.testBit b = true → p.testBit b = true) := by
      rintro ⟨x1, x2, x3⟩
      constructor
      · intro q; omega
      · intro h
        have := h n (by omega) x1 x2
        rw [x3] at this
        exact absurd this (by decide)
    by_cases c1 : (((nI f) >>> ((nI n) &&& 31)) &&& 1) = 1
    · have hfn := (shr_bit (by omega) (by omega)).mp c1
      rw [if_pos c1]
      have noP : ¬ (p.testBit n = true) → ∃ o1, o1 ≤ n + 1 ∧ (if L 7 (8 * k + n) ≤ 0 then ((nI o + 0), (nI (nbits (p &&& f) n) + 0)) else ((nI o + 1), (nI (nbits (p &&& f) n) + 0))) = (nI o1, nI (nbits (p &&& f) (n + 1))) ∧ (o1 = 0 ↔ ∀ b, b < n + 1 → f.testBit b = true → F.testBit b = true → p.testBit b = true) := by
        intro hnp
        rw [hbit, if_neg (c := p.testBit n = true ∧ f.testBit n = true) (fun q => hnp q.1), z0, z0]
        by_cases c3 : L 7 (8 * k + n) ≤ 0
        · rw [if_pos c3]
          exact ⟨o, by omega, rfl, keepO (fun _ q => by rw [hFn.mp c3] at q; exact absurd q (by decide))⟩
        · rw [if_neg c3, nI_1]
          refine ⟨o + 1, by omega, rfl, moreO ⟨hfn, ?_, ?_⟩⟩
          · cases q : F.testBit n
            · exact absurd (hFn.mpr q) c3
            · rfl
          · cases q : p.testBit n
            · rfl
            · exact absurd q hnp
      by_cases c2 : S 20 n + 1 ≤ 0
      · rw [if_pos c2]
        exact noP (fun q => (hpn.mp q).1 (m1.mp c2))
      · rw [if_neg c2]
        by_cases c3 : fX8_dayOf S k a < S 20 n
        · rw [if_pos c3]
          exact noP (fun q => (hpn.mp q).2 c3)
        · have hpt : p.testBit n = true := hpn.mpr ⟨fun q => c2 (m1.mpr q), c3⟩
          rw [if_neg c3, hbit, if_pos ⟨hpt, hfn⟩, nI_1, z0]
          exact ⟨o, by omega, rfl, keepO (fun _ _ => hpt)⟩
    · have hfn : ¬ f.testBit n = true := fun q => c1 ((shr_bit (by omega) (by omega)).mpr q)
      rw [if_neg c1, hbit, if_neg (c := p.testBit n = true ∧ f.testBit n = true) (fun q => hfn q.2)]
      refine ⟨o, by omega, ?_, keepO (fun q => absurd q hfn)⟩
      repeat' split
      all_goals exact congr (congrArg Prod.mk (z0 _)) (z0 _)
theorem bar_law {M : Nat} {S L : St} (hR : REL M S L) (hI : Inv S) {k a : Nat} (hk : k < nsu S) (ha : a < nsc S) : fL_bar L k a = fX8_bar S k a := by
  have hb7 := hI.m.b7
  have hs8 := hR.ur.1
  obtain ⟨-, h1, -⟩ := hR.h a (by omega)
  obtain ⟨-, -, -, -, -, u5, -⟩ := hR.u k (by omega)
  obtain ⟨-, ⟨f, hf0, hf, e9⟩, -⟩ := hR.hr a ha
  obtain ⟨F, hF, e32⟩ := (hI.p k hk).s32
  unfold fL_bar fX8_bar
  rw [day_eq hR hI hk ha, first_law hR hI ha, h1, e9, e32]
  rcases day_R hI hk ha with hd | ⟨D, hD, hd⟩
  · rw [hd, if_pos (by decide), if_neg (by decide), if_pos rfl]
  obtain ⟨p, hp, ep, hpb⟩ := public_spec S (fX8_dayOf S k a)
  obtain ⟨o, ho, eL, hiff⟩ := bar_loop hR hI hk ha e9 hf hF e32 hpb 8 (Nat.le_refl _)
  have hdp : 0 ≤ fX8_dayOf S k a := by rw [hd]; exact nI_pos' (by omega)
  have hd1 : ¬ fX8_dayOf S k a = -1 := by rw [hd]; exact nI_ne1 (by omega)
  have hd2 : ¬ fX8_dayOf S k a < 0 := by rw [hd]; exact nI_pos (by omega)
  rw [if_neg hd2, if_pos hdp, if_neg hd1, eL, ep]
  have hpf : p &&& f < 256 := Nat.lt_of_le_of_lt Nat.and_le_right hf
  have hhalf : (2 * nI (nbits (p &&& f) 8) < fL_ones (nI f)) ↔ fX8_isHalf S (nI p) a = 0 := by
    have l1 := nbits_le (p &&& f) 8
    have l2 := nbits_le f 16
    rw [half_n e9 (by omega) hp, ones_256 f hf, show (2 : Int32) = nI 2 by decide, pk_mul, nI_ltI (by omega) (by omega), nbits_hi hpf]
    by_cases q : 2 * nbits (p &&& f) 8 < nbits f 16
    · rw [if_pos q]; exact ⟨fun _ => rfl, fun _ => q⟩
    · rw [if_neg q]; exact ⟨fun w => absurd w q, fun w => absurd w (by decide)⟩
  have hoth : (nI o = 0) ↔ ((nI F &&& nI f) &&& (nI p ^^^ (-1)) = 0) := by
    have hFf : F &&& f < 256 := Nat.lt_of_le_of_lt Nat.and_le_right hf
    rw [nI_and, andn_0 (by omega) (by omega), show (0 : Int32) = nI 0 by decide, nI_eq (by omega) (by decide), hiff]
    constructor
    · intro h b hb
      rw [Nat.testBit_and, Bool.and_eq_true] at hb
      refine h b ?_ hb.2 hb.1
      rcases Nat.lt_or_ge b 8 with q | q
      · exact q
      · rw [Nat.testBit_lt_two_pow (Nat.lt_of_lt_of_le hf (show 2 ^ 8 ≤ 2 ^ b from Nat.pow_le_pow_right (by decide) q))] at hb
        exact absurd hb.2 (by decide)
    · intro h b _ h1 h2
      exact h b (by rw [Nat.testBit_and, h1, h2]; rfl)
  have hjn : (L 6 (8 * k + 5) - L 6 (8 * k + 5) / 2 * 2 = 0) ↔ S 35 k = 0 := by
    obtain ⟨n, m, hm, -, -, e37⟩ := hI.o k hk
    rw [u5, e37]
    rcases hI.m.z35 k with z | z
    · rw [z, show (8 : Int32) = nI 8 by decide, pk_mul, show (0 : Int32) = nI 0 by decide, nI_add, nx_rem 2 (by omega) (by decide) (by decide) (by decide), show (8 * m + 0) % 2 = 0 by omega]
    · rw [z, show (8 : Int32) = nI 8 by decide, pk_mul, show (1 : Int32) = nI 1 by decide, nI_add, nx_rem 2 (by omega) (by decide) (by decide) (by decide), show (8 * m + 1) % 2 = 1 by omega]
  by_cases c1 : fX8_firstOf S a = nI k
  · rw [if_pos c1, if_pos c1]
    by_cases c2 : fX8_isHalf S (nI p) a = 0
    · rw [if_pos c2, if_pos (hhalf.mpr c2)]
    · rw [if_neg c2, if_neg (fun q => c2 (hhalf.mp q))]
      by_cases c3 : (nI F &&& nI f) &&& (nI p ^^^ (-1)) = 0
      · rw [if_pos c3, if_pos (hoth.mpr c3)]
        by_cases c4 : S 35 k = 0
        · rw [if_pos c4, if_pos (hjn.mpr c4)]
        · rw [if_neg c4, if_neg (fun q => c4 (hjn.mp q))]
      · rw [if_neg c3, if_neg (fun q => c3 (hoth.mp q))]
  · rw [if_neg c1, if_neg c1]
