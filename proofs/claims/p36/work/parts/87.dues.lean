/-! counts, due, hundredths, knows -/
/-- a claim's number, taken apart -/
theorem claim_n {a m d : Nat} (ha : a < 8) (hm : m ≤ 9999) (hd : d ≤ 3000) : nI (a + 8 * m + 131072 * d) - nI (a + 8 * m + 131072 * d) / 8 * 8 = nI a ∧ nI (a + 8 * m + 131072 * d) / 131072 = nI d ∧ (nI (a + 8 * m + 131072 * d) / 8) - (nI (a + 8 * m + 131072 * d) / 8) / 16384 * 16384 = nI m := by
  refine ⟨?_, ?_, ?_⟩
  · rw [nx_rem 8 (by omega) (by decide) (by decide) (by decide), show (a + 8 * m + 131072 * d) % 8 = a by omega]
  · rw [nx_div 131072 (by omega) (by decide) (by decide) (by decide), show (a + 8 * m + 131072 * d) / 131072 = d by omega]
  · rw [nx_div 8 (by omega) (by decide) (by decide) (by decide), nx_rem 16384 (by omega) (by decide) (by decide) (by decide), show (a + 8 * m + 131072 * d) / 8 % 16384 = m by omega]
theorem counts_law {M : Nat} {S L : St} (hR : REL M S L) (hI : Inv S) {i k : Nat} (hi : i < ncl S) (hk : k < nsu S) : fL_counts L i k = fX8_counts S i k := by
  have hb7 := hI.m.b7
  obtain ⟨a, m, d, ha, hm, hd, e16, e17, e18, e1, e2, hp⟩ := hR.c.1 i hi
  obtain ⟨r1, r2, r3⟩ := claim_n (a := a) (m := m) (d := d) (by omega) hm hd
  obtain ⟨-, -, -, -, -, h5, -⟩ := hR.h a (by omega)
  obtain ⟨-, -, -, -, h13⟩ := hR.hr a ha
  obtain ⟨m1, m2, m3⟩ := m1_le h13
  have ea : ix (nI a) = a := nI_clamp (by omega)
  unfold fL_counts fX8_counts
  rw [e1, r1, r2, ea, e16, ea, bar_law hR hI hk ha, day_eq hR hI hk ha, e2, h5, m2, e18]
  have hp0 : S 19 i + 1 = 0 ↔ S 19 i = -1 := by
    rcases hp with q | ⟨j, hj, q⟩
    · rw [q]; exact ⟨fun _ => rfl, fun _ => by decide⟩
    · rw [q, nI_1]
      exact ⟨fun w => absurd w (nI_ne0 (by omega) (by omega)), fun w => absurd w (nI_ne1 (by omega))⟩
  have hkn : (S 13 a ≤ nI d ↔ ¬ nI d < S 13 a) := by
    rw [Int32.le_iff_toInt_le, Int32.lt_iff_toInt_lt]; omega
  have hold : fX8_bar S k a = 0 → ((nI d + 600 < fX8_dayOf S k a) ↔ (600 < fX8_dayOf S k a - nI d)) := by
    intro hb
    rcases day_R hI hk ha with q | ⟨D, hD, q⟩
    · exact absurd q (bar_day hb)
    · rw [q, show (600 : Int32) = nI 600 by decide, nI_add, Int32.lt_iff_toInt_lt, Int32.lt_iff_toInt_lt, nI_toInt (by omega), nI_toInt (by omega), nI_toInt (by decide), pk_sub_toInt (by omega) (by omega)]
      omega
  by_cases c1 : S 19 i = -1
  · rw [if_pos (hp0.mpr c1), if_pos c1]
    by_cases c2 : S 13 a = -1
    · rw [if_pos (m3.mpr c2), if_pos c2]
      by_cases c3 : fX8_bar S k a = 0
      · rw [if_pos c3, if_pos c3]
        by_cases c4 : 600 < fX8_dayOf S k a - nI d
        · rw [if_pos c4, if_pos ((hold c3).mpr c4)]
        · rw [if_neg c4, if_neg (fun q => c4 ((hold c3).mp q))]
      · rw [if_neg c3, if_neg c3]
    · rw [if_neg (fun q => c2 (m3.mp q)), if_neg c2]
      by_cases c5 : nI d < S 13 a
      · rw [if_pos c5, if_neg (fun q => hkn.mp q c5)]
        by_cases c3 : fX8_bar S k a = 0
        · rw [if_pos c3, if_pos c3]
          by_cases c4 : 600 < fX8_dayOf S k a - nI d
          · rw [if_pos c4, if_pos ((hold c3).mpr c4)]
          · rw [if_neg c4, if_neg (fun q => c4 ((hold c3).mp q))]
        · rw [if_neg c3, if_neg c3]
      · rw [if_neg c5, if_pos (hkn.mpr c5), if_pos c1]
  · rw [if_neg (fun q => c1 (hp0.mp q)), if_neg c1]
    repeat' split
    all_goals rfl
theorem due_loop {M : Nat} {S L : St} (hR : REL M S L) (hI : Inv S) {k : Nat} (hk : k < nsu S) : ∀ n, n ≤ ncl S → ∀ a, (lL_due_18 L k n).1 a = (lX8_dues_31 S k a n).2 ∧ (lL_due_18 L k n).2 a = (lX8_dues_31 S k a n).1 ∨ 2 ^ 31 ≤ a := by
  have hb7 := hI.m.b7
  intro n
  induction n with
  | zero => exact fun _ a => Or.inl ⟨rfl, rfl⟩
  | succ n ih =>
    intro hn a
    by_cases hA : 2 ^ 31 ≤ a
    · exact Or.inr hA
    have ha : a < 2 ^ 31 := by omega
    refine Or.inl ?_
    obtain ⟨b, m, d, hb, hm, hd, e16, e17, e18, e1, e2, hp⟩ := hR.c.1 n (by omega)
    obtain ⟨r1, r2, r3⟩ := claim_n (a := b) (m := m) (d := d) (by omega) hm hd
    have eb : ix (nI b) = b := nI_clamp (by omega)
    obtain ⟨i1, i2⟩ := (ih (by omega) a).resolve_right (by omega)
    obtain ⟨j1, j2⟩ := (ih (by omega) b).resolve_right (by omega)
    have s1 : lL_due_18 L k (n + 1) = iL_due_18 L k n (lL_due_18 L k n).1 (lL_due_18 L k n).2 := rfl
    have s2 : lX8_dues_31 S k a (n + 1) = iX8_dues_31 S k a n (lX8_dues_31 S k a n).1 (lX8_dues_31 S k a n).2 := rfl
    rw [s1, s2]
    unfold iL_due_18 iX8_dues_31
    rw [e1, r1, r3, eb, e16, counts_law hR hI (by omega) hk, e17]
    have z0 : ∀ x : Int32, x + 0 = x := Int32.add_zero
    by_cases c1 : b = a
    · subst c1
      rw [if_pos rfl]
      by_cases c2 : fX8_counts S n k = 0
      · rw [if_pos c2, if_pos c2]
        simp only [upd, if_true, z0]
        exact ⟨i1, i2⟩
      · rw [if_neg c2, if_neg c2]
        simp only [upd, if_true]
        rw [i1, i2]
        exact ⟨rfl, rfl⟩
    · have hne : ¬ nI b = nI a := fun q => c1 ((nI_eq (by omega) ha).mp q)
      have hne2 : ¬ a = b := fun q => c1 q.symm
      rw [if_neg hne]
      by_cases c2 : fX8_counts S n k = 0
      · rw [if_pos c2]
        simp only [upd, if_neg hne2]
        exact ⟨i1, i2⟩
      · rw [if_neg c2]
        simp only [upd, if_neg hne2]
        exact ⟨i1, i2⟩
theorem due_zero (L : St) : ∀ n, lL_due_124 L n = 0 := by
  intro n
  induction n with
  | zero => rfl
  | succ n ih =>
    have s1 : lL_due_124 L (n + 1) = iL_due_124 L n (lL_due_124 L n) := rfl
    rw [s1, ih]
    unfold iL_due_124
    split <;> simp
theorem due_law {M : Nat} {S L : St} (hR : REL M S L) (hI : Inv S) {k : Nat} (hk : k < nsu S) : fL_due L k = fX8_dues S k := by
  have hb7 := hI.m.b7
  have hs8 := hR.ur.1
  obtain ⟨-, -, -, u3, -⟩ := hR.u k (by omega)
  unfold fL_due fX8_dues
  rw [u3, hR.q1e]
  by_cases c0 : 3 ≤ S 34 k
  · rw [if_pos c0, if_pos c0, due_zero, ite_self, ite_self]
  rw [if_neg c0, if_neg c0]
  have key : ∀ n, n ≤ nsc S → lL_due_124_v3 L k n = lX8_dues_4 S k n := by
    intro n
    induction n with
    | zero => exact fun _ => rfl
    | succ n ih =>
      intro hn
      have s1 : lL_due_124_v3 L k (n + 1) = iL_due_124_v3 L k n (lL_due_124_v3 L k n) := rfl
      have s2 : lX8_dues_4 S k (n + 1) = iX8_dues_4 S k n (lX8_dues_4 S k n) := rfl
      rw [s1, s2, ih (by omega)]
      obtain ⟨-, -, h2, h3, h4, -, h6⟩ := hR.h n (by omega)
      obtain ⟨-, -, ⟨y, hy, e10⟩, -, -⟩ := hR.hr n (by omega)
      obtain ⟨d1, d2⟩ := (due_loop hR hI hk (ncl S) (Nat.le_refl _) n).resolve_right (by omega)
      unfold iL_due_124_v3 iX8_dues_4 bX8_dues_113 bX8_dues_146 jX8_dues_113 jX8_dues_146
      rw [hR.q2e, d1, d2, h2, h3, h4, h6, e10]
      have ht : (3 : Int32) - S 14 n = if S 14 n = 0 then 3 else 2 := by
        rcases hI.m.z14 n with q | q <;> rw [q] <;> decide
      rw [ht, Int32.mul_comm (if S 14 n = 0 then (3 : Int32) else 2)]
      have hy3 : y = 0 ∨ y = 1 ∨ y = 2 := by omega
      rcases hy3 with rfl | rfl | rfl
      · rw [if_neg (by decide), show (100 : Int32) >>> (nI 0 &&& 31) = 100 by decide, Int32.mul_comm 100]
        rfl
      · rw [if_neg (by decide), show (100 : Int32) >>> (nI 1 &&& 31) = 50 by decide, Int32.mul_comm 50]
        rfl
      · rw [if_pos (by decide), Int32.mul_comm 20]
        rfl
  exact key (nsc S) (Nat.le_refl _)
theorem hund_law {M : Nat} {S L : St} (hR : REL M S L) (hI : Inv S) {k : Nat} (hk : k < nsu S) : fL_hundredths L k = fX8_hundredthsOf S k := by
  have hb7 := hI.m.b7
  have hs8 := hR.ur.1
  obtain ⟨u0, -, -, u3, -, -, u6, u7, -⟩ := hR.u k (by omega)
  obtain ⟨⟨t, ht, e29⟩, -⟩ := hR.ur.2.1 k (by omega)
  obtain ⟨-, t1, -⟩ := hR.t t ht
  obtain ⟨-, h, hh, e38⟩ := hR.ur.2.2 k hk
  have et : ix (nI t) = t := nI_clamp (by omega)
  have key : ∀ n, n ≤ nsc S → lL_hundredths_89 L k n = lX8_hundredthsOf_80 S k n := by
    intro n
    induction n with
    | zero => exact fun _ => rfl
    | succ n ih =>
      intro hn
      have s1 : lL_hundredths_89 L k (n + 1) = iL_hundredths_89 L k n (lL_hundredths_89 L k n) := rfl
      have s2 : lX8_hundredthsOf_80 S k (n + 1) = iX8_hundredthsOf_80 S k n (lX8_hundredthsOf_80 S k n) := rfl
      rw [s1, s2, ih (by omega)]
      unfold iL_hundredths_89 iX8_hundredthsOf_80
      rw [u0, e29, et, t1, bar_law hR hI hk (by omega)]
      by_cases c0 : lX8_hundredthsOf_80 S k n = 0
      · rw [if_pos c0, if_pos c0]
        by_cases c1 : fX8_bar S k n = 0
        · rw [if_pos c1]
          by_cases c2 : (S 22 t >>> (nI n &&& 31)) &&& 1 = 1
          · rw [if_pos c2, if_pos c2, if_pos c1]
          · rw [if_neg c2, if_neg c2]
        · rw [if_neg c1]
          by_cases c2 : (S 22 t >>> (nI n &&& 31)) &&& 1 = 1
          · rw [if_pos c2, if_neg c1]
          · rw [if_neg c2]
      · rw [if_neg c0, if_neg c0]
  have h50 : (50 + S 38 k) / 2 = 25 + S 38 k / 2 := by
    rw [e38, show (50 : Int32) = nI 50 by decide, show (25 : Int32) = nI 25 by decide, nI_add, nx_div 2 (by omega) (by decide) (by decide) (by decide), nx_div 2 (by omega) (by decide) (by decide) (by decide), nI_add]
    congr 1
    omega
  unfold fL_hundredths fX8_hundredthsOf bX8_hundredthsOf_74 jX8_hundredthsOf_74
  rw [u3, u6, u7, hR.q1e, key _ (Nat.le_refl _), h50]
  by_cases c1 : S 34 k = 1
  · rw [if_pos c1, if_pos c1, if_pos c1]
  · rw [if_neg c1, if_neg c1, if_neg c1]
theorem knows_law {M : Nat} {S L : St} (hR : REL M S L) (hI : Inv S) {f t : Nat} (hf : f < 3) (ht : t < 5) : fL_knows L f t = fX8_tellsFrom S f t := by
  have hs8 := hR.ur.1
  obtain ⟨e0, -, -⟩ := hR.r f hf t ht
  have ep : ix (fX8_place (nI f) (nI t)) = 8 * f + t := place_ix (by omega) (by omega)
  obtain ⟨m1, m2, -⟩ := m1_le (hI.t (8 * f + t) (by omega))
  have hj : jL_knows_29 L f t = jX8_tellsFrom_30 S f t := by
    unfold jL_knows_29 jX8_tellsFrom_30
    rw [e0, ep, m2]
    by_cases c : S 51 (8 * f + t) = -1
    · rw [if_pos c, if_pos (m1.mpr c)]
    · rw [if_neg c, if_neg (fun q => c (m1.mp q))]
  have key : ∀ y n, n ≤ nsu S → lL_knows_34 L f t y n = lX8_tellsFrom_34 S f t y n := by
    intro y n
    induction n with
    | zero => exact fun _ => rfl
    | succ n ih =>
      intro hn
      have s1 : lL_knows_34 L f t y (n + 1) = iL_knows_34 L f t n (lL_knows_34 L f t y n) := rfl
      have s2 : lX8_tellsFrom_34 S f t y (n + 1) = iX8_tellsFrom_34 S f t n (lX8_tellsFrom_34 S f t y n) := rfl
      rw [s1, s2, ih (by omega)]
      obtain ⟨u0, u1, -, -, u4, -⟩ := hR.u n (by omega)
      unfold iL_knows_34 iX8_tellsFrom_34
      rw [u0, u1, u4]
  unfold fL_knows bL_knows_29 fX8_tellsFrom bX8_tellsFrom_30
  rw [hj, hR.q4e, key _ _ (Nat.le_refl _)]
