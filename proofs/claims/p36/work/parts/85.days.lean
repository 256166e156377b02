/-! the facts that a suit had by a day, and the day of its covering: the law's are the bench's -/
theorem or_bitL {n i : Nat} (hn : n < 2 ^ i) : (n ||| 2 ^ i) < 2 ^ (i + 1) ∧ ∀ b, (n ||| 2 ^ i).testBit b = (n.testBit b || decide (b = i)) := by
  refine ⟨Nat.or_lt_two_pow (Nat.lt_of_lt_of_le hn (Nat.pow_le_pow_right (by decide) (by omega))) (Nat.pow_lt_pow_right (by decide) (by omega)), fun b => ?_⟩
  rw [Nat.testBit_or, Nat.testBit_two_pow]
  congr 1
  exact decide_eq_decide.mpr ⟨fun h => h.symm, fun h => h.symm⟩
theorem had_loop {L : St} {k n D : Nat} {pf pd : Nat → Nat} (hpd : ∀ j, j < n → pd j ≤ 3000) (hD : D ≤ 3000) (hE : ∀ b, b < 8 → PEb n pf pd b (L 7 (8 * k + b))) (hm : ∀ i j, i ≤ j → j < n → pd i ≤ pd j) : ∀ i, i ≤ 8 → ∃ h, h < 2 ^ i ∧ lL_had_5 L k (nI D) i = nI h ∧ ∀ b, b < i → (h.testBit b = true ↔ ∃ j, j < n ∧ pd j ≤ D ∧ (pf j).testBit b = true) := by
  intro i
  induction i with
  | zero => exact fun _ => ⟨0, by decide, rfl, fun b hb => absurd hb (Nat.not_lt_zero b)⟩
  | succ i ih =>
    intro hi
    obtain ⟨h, hh, eh, hb⟩ := ih (by omega)
    have hi8 : i < 16 := by omega
    have hh2 : h < 2 ^ (i + 1) := Nat.lt_of_lt_of_le hh (Nat.pow_le_pow_right (by decide) (by omega))
    have keep : (¬ ∃ j, j < n ∧ pd j ≤ D ∧ (pf j).testBit i = true) → ∀ b, b < i + 1 → (h.testBit b = true ↔ ∃ j, j < n ∧ pd j ≤ D ∧ (pf j).testBit b = true) := by
      intro hno b hb2
      by_cases e : b = i
      · subst e
        rw [Nat.testBit_lt_two_pow hh]
        exact ⟨fun q => absurd q (by decide), fun q => absurd q hno⟩
      · exact hb b (by omega)
    show ∃ h, h < 2 ^ (i + 1) ∧ iL_had_5 L k (nI D) i (lL_had_5 L k (nI D) i) = nI h ∧ _
    rw [eh]
    unfold iL_had_5
    rcases hE i (by omega) with ⟨hno, e⟩ | ⟨j, hj, hjb, hjf, e⟩
    · rw [e, if_pos (by decide), or_0]
      refine ⟨h, hh2, rfl, keep ?_⟩
      rintro ⟨j, hj, -, hb2⟩
      rw [hno j hj] at hb2
      exact absurd hb2 (by decide)
    · have hp := hpd j hj
      have hx : pd j + 1 + (if j = 0 then 4096 else 0) < 2 ^ 31 := by split <;> omega
      have hmod : (pd j + 1 + (if j = 0 then 4096 else 0)) % 4096 = pd j + 1 := by split <;> omega
      rw [e, if_neg (nI_nle (by omega) hx), nx_rem 4096 hx (by decide) (by decide) (by decide), hmod, nI_pred]
      by_cases hc : D < pd j
      · rw [if_pos (nI_lt hc (by omega)), or_0]
        refine ⟨h, hh2, rfl, keep ?_⟩
        rintro ⟨j2, hj2, hd2, hb2⟩
        rcases Nat.lt_or_ge j2 j with q | q
        · rw [hjf j2 q] at hb2
          exact absurd hb2 (by decide)
        · have := hm j j2 q hj2
          omega
      · rw [if_neg (nI_nlt (by omega) (by omega)), shl1 i hi8, nI_or]
        obtain ⟨o1, o2⟩ := or_bitL hh
        refine ⟨h ||| 2 ^ i, o1, rfl, fun b hb2 => ?_⟩
        rw [o2]
        by_cases e : b = i
        · subst e
          simp only [decide_true, Bool.or_true, true_iff]
          exact ⟨j, hj, by omega, hjb⟩
        · rw [decide_eq_false e, Bool.or_false]
          exact hb b (by omega)
theorem had_spec {L : St} {k n D : Nat} {pf pd : Nat → Nat} (hpd : ∀ j, j < n → pd j ≤ 3000) (hD : D ≤ 3000) (hE : ∀ b, b < 8 → PEb n pf pd b (L 7 (8 * k + b))) (hm : ∀ i j, i ≤ j → j < n → pd i ≤ pd j) (h256 : ∀ j, j < n → pf j < 256) : ∃ h, h < 256 ∧ fL_had L k (nI D) = nI h ∧ ∀ b, h.testBit b = true ↔ ∃ j, j < n ∧ pd j ≤ D ∧ (pf j).testBit b = true := by
  obtain ⟨h, hh, eh, hb⟩ := had_loop hpd hD hE hm 8 (Nat.le_refl 8)
  refine ⟨h, hh, eh, fun b => ?_⟩
  rcases Nat.lt_or_ge b 8 with q | q
  · exact hb b q
  · have hl : ∀ x, x < 256 → x.testBit b = false := fun x hx => Nat.testBit_lt_two_pow (Nat.lt_of_lt_of_le hx (show 2 ^ 8 ≤ 2 ^ b from Nat.pow_le_pow_right (by decide) q))
    rw [hl h hh]
    refine ⟨fun q => absurd q (by decide), ?_⟩
    rintro ⟨j, hj, -, hb2⟩
    rw [hl _ (h256 j hj)] at hb2
    exact absurd hb2 (by decide)
theorem ones_256 : ∀ n, n < 256 → fL_ones (nI n) = nI (nbits n 16) := by decide +kernel
theorem bits_eq {a b : Nat} (h : ∀ j, a.testBit j = b.testBit j) : a = b := Nat.eq_of_testBit_eq h
/-- half of a scheme's facts -/
def halfN (f x : Nat) : Prop := nbits f 16 ≤ 2 * nbits (x &&& f) 16
theorem halfN_mono {f x y : Nat} (h : ∀ b, x.testBit b = true → f.testBit b = true → y.testBit b = true) (hx : halfN f x) : halfN f y := by
  unfold halfN at hx ⊢
  have := nbits_mono (a := x &&& f) (b := y &&& f) (fun j hj => by
    rw [Nat.testBit_and, Bool.and_eq_true] at hj ⊢
    exact ⟨h j hj.1 hj.2, hj.2⟩) 16
  omega
theorem halfN_iff {S : St} {a f o : Nat} (e9 : S 9 a = nI f) (hf : f < 256) (ho : o < 256) : ¬ fX8_isHalf S (nI o) a = 0 ↔ halfN f o := by
  rw [half_n e9 (by omega) (by omega)]
  unfold halfN
  by_cases h : 2 * nbits (o &&& f) 16 < nbits f 16
  · rw [if_pos h]
    exact ⟨fun q => absurd rfl q, fun q => absurd h (by omega)⟩
  · rw [if_neg h]
    exact ⟨fun _ => by omega, fun _ => by decide⟩
theorem halfN_law {f o : Nat} (hf : f < 256) : fL_ones (nI f) ≤ 2 * fL_ones (nI o &&& nI f) ↔ halfN f o := by
  have l1 := nbits_le (o &&& f) 16
  have l2 := nbits_le f 16
  have ho : o &&& f < 256 := Nat.lt_of_le_of_lt Nat.and_le_right hf
  rw [nI_and, ones_256 f hf, ones_256 _ ho, show (2 : Int32) = nI 2 by decide, pk_mul, nI_leI (by omega) (by omega)]
  exact Iff.rfl
theorem halfN_lt {f o : Nat} (hf : f < 256) : 2 * fL_ones (nI o &&& nI f) < fL_ones (nI f) ↔ ¬ halfN f o := by
  have l1 := nbits_le (o &&& f) 16
  have l2 := nbits_le f 16
  have ho : o &&& f < 256 := Nat.lt_of_le_of_lt Nat.and_le_right hf
  rw [nI_and, ones_256 f hf, ones_256 _ ho, show (2 : Int32) = nI 2 by decide, pk_mul, nI_ltI (by omega) (by omega)]
  unfold halfN
  omega
theorem halfN_0 {f x : Nat} (hf0 : 0 < f) (hf : f < 256) (h : ∀ b, x.testBit b = true → f.testBit b = false) : ¬ halfN f x := by
  have e : x &&& f = 0 := Nat.eq_of_testBit_eq fun b => by
    rw [Nat.testBit_and, Nat.zero_testBit]
    cases hb : x.testBit b
    · rfl
    · rw [h b hb]; rfl
  have := nbits_pos (n := f) (by omega) (by omega)
  unfold halfN
  rw [e, nbits_zero]
  omega
/-- the first paper with half -/
theorem first_half (P : Nat → Prop) : ∀ n, (∃ j, j < n ∧ P j) → ∃ j, j < n ∧ P j ∧ ∀ i, i < j → ¬ P i := by
  intro n
  induction n with
  | zero => rintro ⟨j, hj, -⟩; exact absurd hj (Nat.not_lt_zero j)
  | succ n ih =>
    rintro ⟨j, hj, hp⟩
    by_cases h : ∃ j, j < n ∧ P j
    · obtain ⟨j, hj, hp, hf⟩ := ih h
      exact ⟨j, by omega, hp, hf⟩
    · have hjn : j = n := by
        rcases Nat.lt_or_ge j n with q | q
        · exact absurd ⟨j, q, hp⟩ h
        · omega
      subst hjn
      exact ⟨j, hj, hp, fun i hi q => h ⟨i, hi, q⟩⟩
theorem pe_day {n b : Nat} {pf pd : Nat → Nat} {x : Int32} (h : PEb n pf pd b x) (hpd : ∀ j, j < n → pd j ≤ 3000) : (x ≤ 0 ∧ x ≤ 4096 ∧ (x - x / 4096 * 4096) - 1 < 0 ∧ ∀ j, j < n → (pf j).testBit b = false) ∨ ∃ j, j < n ∧ (pf j).testBit b = true ∧ (∀ i, i < j → (pf i).testBit b = false) ∧ ¬ x ≤ 0 ∧ (x ≤ 4096 ↔ 0 < j) ∧ (x - x / 4096 * 4096) - 1 = nI (pd j) := by
  rcases h with ⟨hno, e⟩ | ⟨j, hj, hb, hf, e⟩
  · subst e
    exact Or.inl ⟨by decide, by decide, by decide, hno⟩
  · have hp := hpd j hj
    have hx : pd j + 1 + (if j = 0 then 4096 else 0) < 2 ^ 31 := by split <;> omega
    have hmod : (pd j + 1 + (if j = 0 then 4096 else 0)) % 4096 = pd j + 1 := by split <;> omega
    refine Or.inr ⟨j, hj, hb, hf, ?_, ?_, ?_⟩
    · rw [e]; exact nI_nle (by omega) hx
    · rw [e, show (4096 : Int32) = nI 4096 by decide, nI_leI hx (by decide)]
      split <;> omega
    · rw [e, nx_rem 4096 hx (by decide) (by decide) (by decide), hmod, nI_pred]
/-- a fact of the scheme that was filed with: the day of filing, whatever was found -/
theorem day_back {L : St} {k a n f : Nat} {pf pd : Nat → Nat} (hpd : ∀ j, j < n → pd j ≤ 3000) (h0 : 0 < n) (hf : f < 256) (e9 : L 0 (8 * a + 1) = nI f) (hE : ∀ b, b < 8 → PEb n pf pd b (L 7 (8 * k + b))) : ∀ r i, i + r = 8 → (∃ b, i ≤ b ∧ b < 8 ∧ f.testBit b = true ∧ (pf 0).testBit b = true) → ∀ x, rL_day_62 L k a r i x = L 6 (8 * k + 2) := by
  intro r
  induction r with
  | zero => rintro i hi ⟨b, h1, h2, -⟩; omega
  | succ r ih =>
    rintro i hi ⟨b, h1, h2, h3, h4⟩ x
    rw [rL_day_62_s, e9]
    have hp := pe_day (hE i (by omega)) hpd
    have next : ¬ (f.testBit i = true ∧ ¬ L 7 (8 * k + i) ≤ 4096) → ∀ x, rL_day_62 L k a r (i + 1) x = L 6 (8 * k + 2) := by
      intro hno x
      refine ih (i + 1) (by omega) ⟨b, ?_, h2, h3, h4⟩ x
      rcases Nat.lt_or_ge i b with q | q
      · exact q
      · have e : b = i := by omega
        subst e
        refine absurd ⟨h3, ?_⟩ hno
        rcases hp with ⟨-, -, -, hn⟩ | ⟨j, hj, hb, hfj, -, hle, -⟩
        · rw [hn 0 h0] at h4
          exact absurd h4 (by decide)
        · intro q9
          rw [hfj 0 (hle.mp q9)] at h4
          exact absurd h4 (by decide)
    by_cases c1 : (((nI f) >>> ((nI i) &&& 31)) &&& 1) = 1
    · rw [if_pos c1]
      by_cases c2 : L 7 (8 * k + i) ≤ 4096
      · rw [if_pos c2]
        have := next (fun q => q.2 c2)
        repeat' split
        all_goals exact this _
      · rw [if_neg c2]
    · rw [if_neg c1]
      have := next (fun q => c1 ((shr_bit (by omega) (by omega)).mpr q.1))
      repeat' split
      all_goals exact this _
/-- else the earliest day at which it had half -/
theorem day_best {L : St} {k a n f d0 bs : Nat} {pf pd : Nat → Nat} (hpd : ∀ j, j < n → pd j ≤ 3000) (hf : f < 256) (e9 : L 0 (8 * a + 1) = nI f) (hE : ∀ b, b < 8 → PEb n pf pd b (L 7 (8 * k + b))) (hno : ∀ b, f.testBit b = true → (pf 0).testBit b = false) (hd0 : d0 ≤ 3000)
    (hlow : ∀ b j, b < 8 → j < n → (pf j).testBit b = true → (∀ i, i < j → (pf i).testBit b = false) → ∀ h, h < 256 → fL_had L k (nI (pd j)) = nI h → halfN f h → d0 ≤ pd j)
    (hbs : bs < 8 ∧ ∃ j, j < n ∧ (pf j).testBit bs = true ∧ (∀ i, i < j → (pf i).testBit bs = false) ∧ pd j = d0) (hhad : ∀ D, D ≤ 3000 → ∃ h, h < 256 ∧ fL_had L k (nI D) = nI h) (hbh : ∀ h, h < 256 → fL_had L k (nI d0) = nI h → halfN f h) :
    ∀ r i B, i + r = 8 → d0 ≤ B → (B = d0 ∨ i ≤ bs) → B ≤ 3001 → rL_day_62 L k a r i (nI B) = nI d0 := by
  obtain ⟨hb8, js, hjs, hjb, hjf, hjd⟩ := hbs
  intro r
  induction r with
  | zero =>
    intro i B hi h1 h2 _
    rw [rL_day_62_0]
    congr 1
    omega
  | succ r ih =>
    intro i B hi h1 h2 h3
    rw [rL_day_62_s, e9]
    have hp := pe_day (hE i (by omega)) hpd
    have body : (if (((L 7 (8 * k + i)) - (L 7 (8 * k + i)) / 4096 * 4096) - 1) < 0 then (rL_day_62 L k a r (i + 1) (nI B)) else (if (nI B) ≤ (((L 7 (8 * k + i)) - (L 7 (8 * k + i)) / 4096 * 4096) - 1) then (rL_day_62 L k a r (i + 1) (nI B)) else (if (2 * (fL_ones ((fL_had L k (((L 7 (8 * k + i)) - (L 7 (8 * k + i)) / 4096 * 4096) - 1)) &&& (nI f)))) < (fL_ones (nI f)) then (rL_day_62 L k a r (i + 1) (nI B)) else (rL_day_62 L k a r (i + 1) (((L 7 (8 * k + i)) - (L 7 (8 * k + i)) / 4096 * 4096) - 1))))) = nI d0 := by
      rcases hp with ⟨-, -, hneg, hn⟩ | ⟨j, hj, hb, hfj, -, hle, e⟩
      · rw [if_pos hneg]
        refine ih (i + 1) B (by omega) h1 ?_ h3
        rcases h2 with h2 | h2
        · exact Or.inl h2
        · rcases Nat.lt_or_ge i bs with q | q
          · exact Or.inr q
          · have e : i = bs := by omega
            subst e
            rw [hn js hjs] at hjb
            exact absurd hjb (by decide)
      · have hpj := hpd j hj
        have same : i = bs → pd j = d0 := by
          intro e
          subst e
          have : j = js := by
            rcases Nat.lt_trichotomy j js with q | q | q
            · rw [hjf j q] at hb; exact absurd hb (by decide)
            · exact q
            · rw [hfj js q] at hjb; exact absurd hjb (by decide)
          rw [this]; exact hjd
        rw [e, if_neg (nI_pos (by omega))]
        by_cases c3 : nI B ≤ nI (pd j)
        · rw [if_pos c3]
          rw [nI_leI (by omega) (by omega)] at c3
          refine ih (i + 1) B (by omega) h1 ?_ h3
          by_cases e2 : i = bs
          · have := same e2
            exact Or.inl (by omega)
          · exact h2.imp id (fun q => by omega)
        · rw [if_neg c3]
          rw [nI_leI (by omega) (by omega)] at c3
          obtain ⟨h, hh, eh⟩ := hhad (pd j) hpj
          rw [eh]
          by_cases c4 : halfN f h
          · rw [if_neg (fun q => (halfN_lt hf).mp q c4)]
            have hlo := hlow i j (by omega) hj hb hfj h hh eh c4
            refine ih (i + 1) (pd j) (by omega) hlo ?_ (by omega)
            by_cases e2 : i = bs
            · exact Or.inl (same e2)
            · rcases h2 with h2 | h2
              · omega
              · exact Or.inr (by omega)
          · rw [if_pos ((halfN_lt hf).mpr c4)]
            refine ih (i + 1) B (by omega) h1 ?_ h3
            by_cases e2 : i = bs
            · have := same e2
              rw [this] at eh
              exact absurd (hbh h hh eh) c4
            · exact h2.imp id (fun q => by omega)
    by_cases c1 : (((nI f) >>> ((nI i) &&& 31)) &&& 1) = 1
    · rw [if_pos c1]
      by_cases c2 : L 7 (8 * k + i) ≤ 4096
      · rw [if_pos c2]; exact body
      · exfalso
        rcases hp with ⟨-, hle, -⟩ | ⟨j, hj, hb, hfj, -, hle, -⟩
        · exact c2 hle
        · have hj0 : j = 0 := by
            rcases Nat.eq_zero_or_pos j with q | q
            · exact q
            · exact absurd (hle.mpr q) c2
          subst hj0
          rw [hno i ((shr_bit (by omega) (by omega)).mp c1)] at hb
          exact absurd hb (by decide)
    · rw [if_neg c1]; exact body
theorem hadN_inj {a b : Nat} (hb : b < 256) (h : nI a = nI b) (ha : a < 256 := by omega) : a = b := (nI_eq (by omega) (by omega)).mp h
/-- the bench's walk over the papers -/
theorem cov_spec {S : St} {k a f n : Nat} {pf pd : Nat → Nat} (h65 : ∀ j, j < n → S 65 (64 * k + j) = nI (pf j) ∧ pf j < 256 ∧ S 66 (64 * k + j) = nI (pd j) ∧ pd j ≤ 3000) (hf : f < 256) (e9 : S 9 a = nI f) : ∀ r i, i + r = n → (rX5_coverDay_33 S k a r i = -1 ∧ ∀ j, i ≤ j → j < n → ¬ halfN f (pf j)) ∨ ∃ j, i ≤ j ∧ j < n ∧ halfN f (pf j) ∧ (∀ j2, i ≤ j2 → j2 < j → ¬ halfN f (pf j2)) ∧ rX5_coverDay_33 S k a r i = nI (pd j) := by
  intro r
  induction r with
  | zero => exact fun i hi => Or.inl ⟨rfl, fun j h1 h2 => by omega⟩
  | succ r ih =>
    intro i hi
    obtain ⟨e1, e2, e3, -⟩ := h65 i (by omega)
    rw [rX5_coverDay_33_s, e1, half_eq ⟨f, by omega, e9⟩ ⟨_, by omega, rfl⟩]
    by_cases c : halfN f (pf i)
    · rw [if_neg ((halfN_iff e9 hf e2).mpr c)]
      exact Or.inr ⟨i, Nat.le_refl _, by omega, c, fun j2 h1 h2 => by omega, e3⟩
    · rw [if_pos (Decidable.byContradiction fun q => c ((halfN_iff e9 hf e2).mp q))]
      rcases ih (i + 1) (by omega) with ⟨h1, h2⟩ | ⟨j, h1, h2, h3, h4, h5⟩
      · refine Or.inl ⟨h1, fun j q1 q2 => ?_⟩
        by_cases e : j = i
        · rw [e]; exact c
        · exact h2 j (by omega) q2
      · refine Or.inr ⟨j, by omega, h2, h3, fun j2 q1 q2 => ?_, h5⟩
        by_cases e : j2 = i
        · rw [e]; exact c
        · exact h4 j2 (by omega) q2
theorem day_eq {M : Nat} {S L : St} (hR : REL M S L) (hI : Inv S) {k a : Nat} (hk : k < nsu S) (ha : a < nsc S) : fL_day L k a = fX8_dayOf S k a := by
  rw [← cover_eq (hI.p k hk) (hI.s a ha)]
  have hb7 := hI.m.b7
  have hs8 := hR.ur.1
  obtain ⟨h0, h1, -⟩ := hR.h a (by omega)
  obtain ⟨-, u1, u2, -⟩ := hR.u k (by omega)
  obtain ⟨-, ⟨f, hf0, hf, e9⟩, -⟩ := hR.hr a ha
  obtain ⟨pf, pd, ⟨hn0, h65, hmono, e31, e33, e32, T, eT, hT, hTn⟩, hE⟩ := hR.e k hk
  have hpd : ∀ j, j < npp S k → pd j ≤ 3000 := fun j hj => (h65 j hj).2.2.2
  have hm : ∀ i j, i ≤ j → j < npp S k → pd i ≤ pd j := fun i j h1 h2 => (hmono i j h1 h2).1
  have hhad := fun D hD => had_spec (L := L) (k := k) (D := D) hpd hD hE hm (fun j hj => (h65 j hj).2.1)
  have h1' : L 0 (8 * a + 1) = nI f := h1.trans e9
  unfold fL_day fX5_coverDay
  rw [h0, h1', u1, e9]
  by_cases c0 : ¬ S 30 k = S 8 a
  · rw [if_neg c0, if_neg (fun q => c0 q.symm)]
  have c0 := Classical.not_not.mp c0
  rw [if_pos c0, if_pos c0.symm, e31, nI_and]
  have h31 : pf 0 &&& f < 256 := Nat.lt_of_le_of_lt Nat.and_le_right hf
  obtain ⟨h, hh, eh, hb⟩ := hhad 3000 (Nat.le_refl _)
  rw [show (3000 : Int32) = nI 3000 by decide, eh]
  -- all of its facts at the end
  have hall : ∀ b, h.testBit b = true ↔ (pf (npp S k - 1)).testBit b = true := by
    intro b
    rw [hb]
    constructor
    · rintro ⟨j, hj, -, hjb⟩
      exact (hmono j _ (by omega) (by omega)).2 b hjb
    · exact fun q => ⟨_, by omega, hpd _ (by omega), q⟩
  have hlast : halfN f h ↔ halfN f (pf (npp S k - 1)) := ⟨halfN_mono (fun b q _ => (hall b).mp q), halfN_mono (fun b q _ => (hall b).mpr q)⟩
  by_cases c1 : ¬ halfN f h
  · have hnone : ∀ j, j < npp S k → ¬ halfN f (pf j) := fun j hj q => c1 (hlast.mpr (halfN_mono (fun b q2 _ => (hmono j _ (by omega) (by omega)).2 b q2) q))
    rw [if_neg (fun q => c1 ((halfN_law hf).mp q))]
    have hz := cov_none (S := S) (k := k) (a := a) (npp S k) 0 (fun j2 _ h2 => by
      obtain ⟨e1, e2, -⟩ := h65 j2 (by omega)
      rw [e1, half_eq ⟨f, by omega, e9⟩ ⟨_, by omega, rfl⟩]
      exact Decidable.byContradiction fun q => hnone j2 (by omega) ((halfN_iff e9 hf e2).mp q))
    rw [hz.1, hz.2, ite_self]
  have c1 := Classical.not_not.mp c1
  rw [if_pos ((halfN_law hf).mpr c1)]
  obtain ⟨j0, hj0, hh0, hfirst⟩ := first_half (fun j => halfN f (pf j)) (npp S k) ⟨npp S k - 1, by omega, hlast.mp c1⟩
  by_cases c2 : nI (pf 0 &&& f) = 0
  · rw [if_pos c2]
    have c2n : pf 0 &&& f = 0 := by
      rw [show (0 : Int32) = nI 0 by decide, nI_eq (by omega) (by decide)] at c2
      exact c2
    have hno : ∀ b, f.testBit b = true → (pf 0).testBit b = false := by
      intro b hb1
      have := congrArg (fun x => x.testBit b) c2n
      simpa [Nat.testBit_and, hb1] using this
    have hj0p : 0 < j0 := by
      rcases Nat.eq_zero_or_pos j0 with q | q
      · subst q
        refine absurd hh0 (halfN_0 hf0 hf (fun b hb1 => ?_))
        cases hq : f.testBit b
        · rfl
        · rw [hno b hq] at hb1
          exact absurd hb1 (by decide)
      · exact q
    have hcov : rX5_coverDay_33 S k a (npp S k) 0 = nI (pd j0) := by
      rcases cov_spec h65 hf e9 (npp S k) 0 (by omega) with ⟨-, h2⟩ | ⟨j, -, h2, h3, h4, h5⟩
      · exact absurd hh0 (h2 j0 (by omega) hj0)
      · have : j = j0 := by
          rcases Nat.lt_trichotomy j j0 with q | q | q
          · exact absurd h3 (hfirst j q)
          · exact q
          · exact absurd hh0 (h4 j0 (by omega) q)
        rw [h5, this]
    rw [hcov, show (3001 : Int32) = nI 3001 by decide]
    -- the fact that made the half
    have hex : ∃ b, f.testBit b = true ∧ (pf j0).testBit b = true ∧ (pf (j0 - 1)).testBit b = false := by
      refine Classical.byContradiction fun hne => hfirst (j0 - 1) (by omega) (halfN_mono (fun b q1 q2 => ?_) hh0)
      cases hq : (pf (j0 - 1)).testBit b
      · exact absurd ⟨b, q2, q1, hq⟩ hne
      · rfl
    obtain ⟨bs, hbf, hbj, hbn⟩ := hex
    have hbs8 : bs < 8 := by
      rcases Nat.lt_or_ge bs 8 with q | q
      · exact q
      · rw [Nat.testBit_lt_two_pow (Nat.lt_of_lt_of_le hf (show 2 ^ 8 ≤ 2 ^ bs from Nat.pow_le_pow_right (by decide) q))] at hbf
        exact absurd hbf (by decide)
    have hbfirst : ∀ i, i < j0 → (pf i).testBit bs = false := by
      intro i hi
      cases hq : (pf i).testBit bs
      · rfl
      · rw [(hmono i (j0 - 1) (by omega) (by omega)).2 bs hq] at hbn
        exact absurd hbn (by decide)
    refine day_best hpd hf h1' hE hno (hpd j0 hj0) ?_ ⟨hbs8, j0, hj0, hbj, hbfirst, rfl⟩ (fun D hD => (hhad D hD).imp fun h q => ⟨q.1, q.2.1⟩) ?_ 8 0 3001 (by omega) (by have := hpd j0 hj0; omega) (Or.inr (Nat.zero_le _)) (Nat.le_refl _)
    · intro b j hb8 hj hjb hjf h' hl' eh' hh'
      obtain ⟨h2, hh2, eh2, hb2⟩ := hhad (pd j) (hpd j hj)
      have e : h' = h2 := by
        have q1 : nI h' = nI h2 := eh'.symm.trans eh2
        exact hadN_inj hh2 q1 hl'
      subst e
      refine Nat.le_of_not_lt fun q => ?_
      refine hfirst (j0 - 1) (by omega) (halfN_mono (fun c q1 _ => ?_) hh')
      obtain ⟨j2, hj2, hd2, hc2⟩ := (hb2 c).mp q1
      have hj20 : j2 < j0 := by
        rcases Nat.lt_or_ge j2 j0 with w | w
        · exact w
        · have := hm j0 j2 w hj2
          omega
      exact (hmono j2 (j0 - 1) (by omega) (by omega)).2 c hc2
    · intro h' hl' eh'
      obtain ⟨h2, hh2, eh2, hb2⟩ := hhad (pd j0) (hpd j0 hj0)
      have e : h' = h2 := hadN_inj hh2 (eh'.symm.trans eh2) hl'
      subst e
      exact halfN_mono (fun c q1 _ => (hb2 c).mpr ⟨j0, hj0, Nat.le_refl _, q1⟩) hh0
  · rw [if_neg c2]
    have hex : ∃ b, 0 ≤ b ∧ b < 8 ∧ f.testBit b = true ∧ (pf 0).testBit b = true := by
      obtain ⟨b, hb1⟩ := Nat.exists_testBit_of_ne_zero (x := pf 0 &&& f) (fun q => c2 (by rw [q]; decide))
      rw [Nat.testBit_and, Bool.and_eq_true] at hb1
      refine ⟨b, Nat.zero_le _, ?_, hb1.2, hb1.1⟩
      rcases Nat.lt_or_ge b 8 with q | q
      · exact q
      · rw [Nat.testBit_lt_two_pow (Nat.lt_of_lt_of_le hf (show 2 ^ 8 ≤ 2 ^ b from Nat.pow_le_pow_right (by decide) q))] at hb1
        exact absurd hb1.2 (by decide)
    rw [day_back hpd hn0 hf h1' hE 8 0 (by omega) hex, u2]
    refine (cov_some (npp S k) 0 ⟨j0, Nat.zero_le _, by omega, ?_⟩).symm
    obtain ⟨e1, e2, -⟩ := h65 j0 hj0
    rw [e1, half_eq ⟨f, by omega, e9⟩ ⟨_, by omega, rfl⟩]
    exact (halfN_iff e9 hf e2).mpr hh0
