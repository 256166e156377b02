/-! a suit is won -/
def LB (L X : St) : Prop := X 0 = L 0 ∧ X 3 = L 3 ∧ X 6 = L 6 ∧ X 7 = L 7 ∧ X 11 4 = L 11 4
theorem had_cg {L X : St} (h7 : X 7 = L 7) (k : Nat) (d : Int32) : fL_had X k d = fL_had L k d := by
  have key : ∀ n, lL_had_5 X k d n = lL_had_5 L k d n := by
    intro n
    induction n with
    | zero => rfl
    | succ n ih =>
      show iL_had_5 X k d n (lL_had_5 X k d n) = iL_had_5 L k d n (lL_had_5 L k d n)
      rw [ih]
      unfold iL_had_5
      rw [h7]
  exact key 8
theorem day_cg {L X : St} (h : LB L X) (k a : Nat) : fL_day X k a = fL_day L k a := by
  obtain ⟨h0, h3, h6, h7, h4⟩ := h
  have key : ∀ r i x, rL_day_62 X k a r i x = rL_day_62 L k a r i x := by
    intro r
    induction r with
    | zero => exact fun _ _ => rfl
    | succ r ih =>
      intro i x
      rw [rL_day_62_s, rL_day_62_s, h0, h6, h7]
      simp only [ih, had_cg h7]
  unfold fL_day
  rw [h0, h6, had_cg h7, key]
theorem first_cg {L X : St} (h : LB L X) (a : Nat) : fL_first X a = fL_first L a := by
  have key : ∀ n, lL_first_7 X a n = lL_first_7 L a n := by
    intro n
    induction n with
    | zero => rfl
    | succ n ih =>
      show iL_first_7 X a n (lL_first_7 X a n) = iL_first_7 L a n (lL_first_7 L a n)
      rw [ih]
      unfold iL_first_7
      rw [day_cg h, h.2.2.1]
  unfold fL_first q4
  rw [h.2.2.2.2, key]
theorem bar_cg {L X : St} (h : LB L X) (k a : Nat) : fL_bar X k a = fL_bar L k a := by
  have key : ∀ n, lL_bar_52 X k a n = lL_bar_52 L k a n := by
    intro n
    induction n with
    | zero => rfl
    | succ n ih =>
      show iL_bar_52 X k a n (lL_bar_52 X k a n).1 (lL_bar_52 X k a n).2 = iL_bar_52 L k a n (lL_bar_52 L k a n).1 (lL_bar_52 L k a n).2
      rw [ih]
      unfold iL_bar_52
      rw [day_cg h, h.1, h.2.1, h.2.2.2.1]
  unfold fL_bar
  rw [day_cg h, first_cg h, key, h.1, h.2.2.1]
theorem countsL_cg {L X : St} (h : LB L X) (h1 : X 1 = L 1) {i : Nat} (h2 : X 2 i = L 2 i) (k : Nat) : fL_counts X i k = fL_counts L i k := by
  unfold fL_counts
  rw [h1, h2, h.1, bar_cg h, day_cg h]
theorem share_n {m p : Nat} (hm : m ≤ 99000000) (hp : p ≤ 128) : (nI m / 100) * nI p + ((nI m - nI m / 100 * 100) * nI p) / 100 = nI (m * p / 100) := by
  have e1 : m * p = 100 * (m / 100 * p) + m % 100 * p := by
    have := Nat.div_add_mod m 100
    calc m * p = (100 * (m / 100) + m % 100) * p := by rw [this]
      _ = _ := by rw [Nat.add_mul, Nat.mul_assoc]
  have b1 : m / 100 * p ≤ 990000 * 128 := Nat.mul_le_mul (by omega) hp
  have b2 : m % 100 * p ≤ 100 * 128 := Nat.mul_le_mul (by omega) hp
  rw [nx_rem 100 (by omega) (by decide) (by decide) (by decide), nx_div 100 (by omega) (by decide) (by decide) (by decide), pk_mul, pk_mul, nx_div 100 (by omega) (by decide) (by decide) (by decide), nI_add]
  congr 1
  omega
theorem share_l {m p : Nat} (hm : m ≤ 99000000) (hp : p ≤ 128) : (((nI m).toInt64 * (nI p).toInt64) / (100 : Int64)).toInt32 = nI (m * p / 100) := by
  have b1 : m * p ≤ 99000000 * 128 := Nat.mul_le_mul hm hp
  rw [nI_l (by omega), nI_l (by omega), lN_mul, show (100 : Int64) = lN 100 by decide, pk_lDiv (by omega) (by decide) (by decide), lN_i]
theorem share_le {m p : Nat} (hp : p ≤ 100) : m * p / 100 ≤ m := by
  have : m * p ≤ m * 100 := Nat.mul_le_mul (Nat.le_refl m) hp
  omega
theorem hund_n {M : Nat} {S L : St} (hR : REL M S L) (hI : Inv S) {k : Nat} (hk : k < nsu S) (hw : S 34 k = 1 ∨ S 34 k = 2) : ∃ p, p ≤ 30 ∧ fX8_hundredthsOf S k = nI p := by
  obtain ⟨-, h, hh, e38⟩ := hR.ur.2.2 k hk
  unfold fX8_hundredthsOf bX8_hundredthsOf_74 jX8_hundredthsOf_74
  rw [e38, show (15 : Int32) = nI 15 by decide, show (25 : Int32) = nI 25 by decide, nI_add, nx_div 2 (by omega) (by decide) (by decide) (by decide), nI_add]
  have n1 : ∃ p, p ≤ 30 ∧ (if lX8_hundredthsOf_80 S k (nsc S) = 0 then nI (15 + h) else nI (15 + h) / 2) = nI p := by
    by_cases c : lX8_hundredthsOf_80 S k (nsc S) = 0
    · rw [if_pos c]
      exact ⟨15 + h, by omega, rfl⟩
    · rw [if_neg c, nx_div 2 (by omega) (by decide) (by decide) (by decide)]
      exact ⟨(15 + h) / 2, by omega, rfl⟩
  have n2 : ∃ p, p ≤ 30 ∧ (if lX8_hundredthsOf_80 S k (nsc S) = 0 then nI (25 + h / 2) else nI (25 + h / 2) / 2) = nI p := by
    by_cases c : lX8_hundredthsOf_80 S k (nsc S) = 0
    · rw [if_pos c]
      exact ⟨25 + h / 2, by omega, rfl⟩
    · rw [if_neg c, nx_div 2 (by omega) (by decide) (by decide) (by decide)]
      exact ⟨(25 + h / 2) / 2, by omega, rfl⟩
  rcases hw with q | q
  · rw [if_pos q, if_pos q]
    exact n1
  · have q1 : ¬ S 34 k = 1 := by rw [q]; decide
    rw [if_neg q1, if_pos q, if_neg q1]
    exact n2
theorem parts_law {M : Nat} {S L : St} (hR : REL M S L) (hI : Inv S) {k m p : Nat} (hk : k < nsu S) (hm : m ≤ 99000000) (hp : p ≤ 30) (eH : fX8_hundredthsOf S k = nI p) : ∀ n, n ≤ ndl S → (lL_wins_114 L k (nI m) n).1 = (lX8_wins_94 S k (nI m) n).1 ∧ (∀ t, t < 5 → (lL_wins_114 L k (nI m) n).2 (8 * t + 5) = (lX8_wins_94 S k (nI m) n).2 t) ∧ ∀ j, (∀ t, t < 5 → ¬ j = 8 * t + 5) → (lL_wins_114 L k (nI m) n).2 j = L 4 j := by
  have hs8 := hR.ur.1
  have eL : fL_hundredths L k = nI p := (hund_law hR hI hk).trans eH
  have sh1 := share_n (m := m) (p := p) hm (by omega)
  have sh2 := share_l (m := m) (p := p) hm (by omega)
  have hshm := share_le (m := m) (p := p) (by omega)
  obtain ⟨u0, -, u2, -⟩ := hR.u k (by omega)
  intro n
  induction n with
  | zero =>
    intro _
    refine ⟨?_, fun t ht => ?_, fun j _ => rfl⟩
    · show ((nI m / 100) * (fL_hundredths L k)) + (((nI m - nI m / 100 * 100) * (fL_hundredths L k)) / 100) = (((nI m).toInt64 * (fX8_hundredthsOf S k).toInt64) / (100 : Int64)).toInt32
      rw [eL, eH, sh1, sh2]
    · obtain ⟨-, -, -, -, -, t5, -⟩ := hR.t t ht
      exact t5
  | succ n ih =>
    intro hn
    obtain ⟨i1, i2, i3⟩ := ih (by omega)
    have s1 : lL_wins_114 L k (nI m) (n + 1) = iL_wins_114 L k (nI m) n (lL_wins_114 L k (nI m) n).1 (lL_wins_114 L k (nI m) n).2 := rfl
    have s2 : lX8_wins_94 S k (nI m) (n + 1) = iX8_wins_94 S k (nI m) n (lX8_wins_94 S k (nI m) n).1 (lX8_wins_94 S k (nI m) n).2 := rfl
    rw [s1, s2]
    obtain ⟨a, b, q, d, ha, hb, hq, hd, e24, e25, e26, e27, e5⟩ := hR.d.1 n (by omega)
    obtain ⟨r1, r2, r3, r4⟩ := deal_n (a := a) (b := b) (p := q) (d := d) (by omega) (by omega) (by omega) hd
    have eb : ix (nI b) = b := nI_clamp (by omega)
    unfold iL_wins_114 iX8_wins_94
    have g1 := share_n (m := m * p / 100) (p := q) (by omega) (by omega)
    have g2 := share_l (m := m * p / 100) (p := q) (by omega) (by omega)
    rw [e5, r1, r2, r3, r4, eb, e24, e25, eb, e26, e27, eL, eH, sh1, sh2, g1, g2, u0, u2]
    by_cases c1 : nI a = S 29 k
    · rw [if_pos c1, if_pos c1]
      by_cases c2 : S 33 k ≤ nI d
      · rw [if_pos c2, if_pos c2]
        exact ⟨i1, i2, i3⟩
      · rw [if_neg c2, if_neg c2]
        refine ⟨?_, fun t ht => ?_, fun j hj => ?_⟩
        · show (lL_wins_114 L k (nI m) n).1 - _ = (lX8_wins_94 S k (nI m) n).1 - _
          rw [i1]
        · show upd _ (8 * b + 5) _ (8 * t + 5) = upd _ b _ t
          by_cases e : t = b
          · subst e
            rw [upd_at, upd_at, i2 t ht]
          · rw [upd_off (by omega), upd_off e]
            exact i2 t ht
        · show upd _ (8 * b + 5) _ j = _
          rw [upd_off (hj b hb)]
          exact i3 j hj
    · rw [if_neg c1, if_neg c1]
      exact ⟨i1, i2, i3⟩
theorem set_law {M : Nat} {S L : St} (hR : REL M S L) (hI : Inv S) {k m : Nat} (hk : k < nsu S) : ∀ n, n ≤ nsc S → ∃ x, x < 2 ^ n ∧ lL_wins_251_v2 L k (nI m) n = nI x ∧ ∀ a, a < n → (x.testBit a = true ↔ fX8_bar S k a = 0) := by
  have hb7 := hI.m.b7
  intro n
  induction n with
  | zero => exact fun _ => ⟨0, by decide, rfl, fun a ha => absurd ha (Nat.not_lt_zero a)⟩
  | succ n ih =>
    intro hn
    obtain ⟨x, hx, ex, hb⟩ := ih (by omega)
    have hx2 : x < 2 ^ (n + 1) := Nat.lt_of_lt_of_le hx (Nat.pow_le_pow_right (by decide) (by omega))
    have hcg : ∀ X, LB L X → fL_bar X k n = fX8_bar S k n := fun X h => (bar_cg h k n).trans (bar_law hR hI hk (by omega))
    have s1 : lL_wins_251_v2 L k (nI m) (n + 1) = iL_wins_251_v2 L k (nI m) n (lL_wins_251_v2 L k (nI m) n) := rfl
    rw [s1, ex]
    unfold iL_wins_251_v2
    rw [hcg]
    · rw [or_0, shl1 n (by omega), nI_or]
      by_cases c : fX8_bar S k n = 0
      · rw [if_pos c]
        obtain ⟨o1, o2⟩ := or_bitL hx
        refine ⟨x ||| 2 ^ n, o1, rfl, fun a ha => ?_⟩
        rw [o2]
        by_cases e : a = n
        · subst e
          simp only [decide_true, Bool.or_true, true_iff]
          exact c
        · rw [decide_eq_false e, Bool.or_false]
          exact hb a (by omega)
      · rw [if_neg c]
        refine ⟨x, hx2, rfl, fun a ha => ?_⟩
        by_cases e : a = n
        · subst e
          rw [Nat.testBit_lt_two_pow hx]
          exact ⟨fun q => absurd q (by decide), fun q => absurd q c⟩
        · exact hb a (by omega)
    · exact ⟨rfl, rfl, rfl, rfl, rfl⟩
theorem claims_law {M : Nat} {S L : St} (hR : REL M S L) (hI : Inv S) {k m : Nat} (hk : k < nsu S) : ∀ n, n ≤ ncl S → ∀ c, lL_wins_300_v4 L k (nI m) n c = if c < n ∧ ¬ fX8_counts S c k = 0 then nI k + 1 else L 2 c := by
  have hb7 := hI.m.b7
  obtain ⟨x, hx, ex, hbx⟩ := set_law hR hI (m := m) hk (nsc S) (Nat.le_refl _)
  have hx256 : x < 65536 := Nat.lt_of_lt_of_le hx (show 2 ^ nsc S ≤ 2 ^ 16 from Nat.pow_le_pow_right (by decide) (by omega))
  intro n
  induction n with
  | zero => exact fun _ c => by rw [if_neg (fun q => absurd q.1 (Nat.not_lt_zero c))]; rfl
  | succ n ih =>
    intro hn c
    have ihn := ih (by omega)
    have hcg : ∀ X, LB L X → X 1 = L 1 → X 2 n = L 2 n → fL_counts X n k = fX8_counts S n k := fun X h h1 h2 => (countsL_cg h h1 h2 k).trans (counts_law hR hI (by omega) hk)
    have s1 : lL_wins_300_v4 L k (nI m) (n + 1) = iL_wins_300_v4 L k (nI m) n (lL_wins_300_v4 L k (nI m) n) := rfl
    have hown : lL_wins_300_v4 L k (nI m) n n = L 2 n := by rw [ihn n, if_neg (fun q => absurd q.1 (Nat.lt_irrefl n))]
    obtain ⟨a, m2, d, ha, hm2, hd, e16, e17, e18, e1, e2, hp⟩ := hR.c.1 n (by omega)
    obtain ⟨r1, r2, r3⟩ := claim_n (a := a) (m := m2) (d := d) (by omega) hm2 hd
    have ea : ix (nI a) = a := nI_clamp (by omega)
    rw [s1]
    unfold iL_wins_300_v4
    rw [hR.q1e, ex, e1, r1, hown]
    have hbit : (((nI x >>> ((nI a) &&& 31)) &&& 1) = 1) ↔ fX8_bar S k a = 0 := (shr_bit hx256 (by omega)).trans (hbx a ha)
    have hcb : ¬ fX8_bar S k a = 0 → fX8_counts S n k = 0 := fun q => counts_bar (by rw [e16, ea]; exact q)
    have same : ∀ v, (if c = n then v else (if c < n ∧ ¬ fX8_counts S c k = 0 then nI k + 1 else L 2 c)) = upd (lL_wins_300_v4 L k (nI m) n) n v c := fun v => by
      by_cases e : c = n
      · subst e; rw [if_pos rfl, upd_at]
      · rw [if_neg e, upd_off e, ihn c]
    have stay : fX8_counts S n k = 0 → (if c = n then L 2 n else (if c < n ∧ ¬ fX8_counts S c k = 0 then nI k + 1 else L 2 c)) = (if c < n + 1 ∧ ¬ fX8_counts S c k = 0 then nI k + 1 else L 2 c) := by
      intro q
      by_cases e : c = n
      · subst e; rw [if_pos rfl, if_neg (fun w => w.2 q)]
      · rw [if_neg e]
        by_cases w : c < n ∧ ¬ fX8_counts S c k = 0
        · rw [if_pos w, if_pos ⟨by omega, w.2⟩]
        · rw [if_neg w, if_neg (fun w2 => w ⟨by omega, w2.2⟩)]
    by_cases c1 : ((nI x >>> ((nI a) &&& 31)) &&& 1) = 1
    · rw [if_pos c1, hcg]
      · by_cases c2 : fX8_counts S n k = 0
        · rw [if_pos c2, ← same, stay c2]
        · rw [if_neg c2, ← same]
          by_cases e : c = n
          · subst e; rw [if_pos rfl, if_pos ⟨by omega, c2⟩]
          · rw [if_neg e]
            by_cases w : c < n ∧ ¬ fX8_counts S c k = 0
            · rw [if_pos w, if_pos ⟨by omega, w.2⟩]
            · rw [if_neg w, if_neg (fun w2 => w ⟨by omega, w2.2⟩)]
      · exact ⟨rfl, rfl, rfl, rfl, rfl⟩
      · rfl
      · rw [upr_at]; exact hown
    · rw [if_neg c1, ← same, stay (hcb (fun q => c1 (hbit.mpr q)))]
