/-! a win keeps the rows alike; judge and settle -/
theorem mul_div_le {x m n : Nat} (h : m ≤ n) : x * m / n ≤ x := by
  rcases Nat.eq_zero_or_pos n with q | q
  · subst q; simp
  · exact Nat.div_le_of_le_mul (by rw [Nat.mul_comm n]; exact Nat.mul_le_mul (Nat.le_refl x) h)
theorem dues_n {M : Nat} {S L : St} (hR : REL M S L) (hI : Inv S) (k : Nat) : ∃ D, D ≤ 9700000 ∧ fX8_dues S k = nI D := by
  have hb7 := hI.m.b7
  have hb15 := hI.m.b15
  have part : ∀ a n, n ≤ ncl S → ∃ x y, x ≤ n ∧ y ≤ 9999 * n ∧ lX8_dues_31 S k a n = (nI x, nI y) := by
    intro a n
    induction n with
    | zero => exact fun _ => ⟨0, 0, Nat.le_refl _, by omega, rfl⟩
    | succ n ih =>
      intro hn
      obtain ⟨x, y, hx, hy, e⟩ := ih (by omega)
      obtain ⟨b, m, d, -, hm, -, -, e17, -⟩ := hR.c.1 n (by omega)
      have s2 : lX8_dues_31 S k a (n + 1) = iX8_dues_31 S k a n (lX8_dues_31 S k a n).1 (lX8_dues_31 S k a n).2 := rfl
      rw [s2, e]
      unfold iX8_dues_31
      rw [e17]
      split
      · split
        · exact ⟨x, y, by omega, by omega, rfl⟩
        · exact ⟨x + 1, y + m, by omega, by omega, by rw [nI_1, nI_add]⟩
      · exact ⟨x, y, by omega, by omega, rfl⟩
  have all : ∀ n, n ≤ nsc S → ∃ D, D ≤ 1210000 * n ∧ lX8_dues_4 S k n = nI D := by
    intro n
    induction n with
    | zero => exact fun _ => ⟨0, by omega, rfl⟩
    | succ n ih =>
      intro hn
      obtain ⟨D, hD, e⟩ := ih (by omega)
      have s2 : lX8_dues_4 S k (n + 1) = iX8_dues_4 S k n (lX8_dues_4 S k n) := rfl
      obtain ⟨x, y, hx, hy, e31⟩ := part n (ncl S) (Nat.le_refl _)
      obtain ⟨-, -, -, ⟨q, m, hq0, hq, hmq, e11, e12⟩, -⟩ := hR.hr n (by omega)
      have w1 : ∃ z, z ≤ 100 ∧ jX8_dues_113 S n = nI z := by
        unfold jX8_dues_113
        split
        · exact ⟨100, by omega, by decide⟩
        · split
          · exact ⟨50, by omega, by decide⟩
          · exact ⟨20, by omega, by decide⟩
      have w2 : ∃ z, z ≤ 3 ∧ jX8_dues_146 S n = nI z := by
        unfold jX8_dues_146
        split
        · exact ⟨3, by omega, by decide⟩
        · exact ⟨2, by omega, by decide⟩
      obtain ⟨z1, hz1, f1⟩ := w1
      obtain ⟨z2, hz2, f2⟩ := w2
      have hx40 : x ≤ 40 := by omega
      have hy40 : y ≤ 399960 := by omega
      have b1 : x * m ≤ 40 * 20 := Nat.mul_le_mul hx40 (by omega)
      have b2 : y * m ≤ 399960 * 20 := Nat.mul_le_mul hy40 (by omega)
      have d1 : x * m / q ≤ x := mul_div_le hmq
      have d2 : y * m / q ≤ y := mul_div_le hmq
      have g1 : x * m / q * z1 ≤ 40 * 100 := Nat.mul_le_mul (by omega) hz1
      have g2 : y * m / q * z2 ≤ 399960 * 3 := Nat.mul_le_mul (by omega) hz2
      rw [s2, e]
      unfold iX8_dues_4 bX8_dues_113 bX8_dues_146
      rw [e31, f1, f2, e11, e12]
      dsimp only
      rw [pk_mul, pk_mul, nx_div q (by omega) hq0 (by omega) rfl, nx_div q (by omega) hq0 (by omega) rfl, pk_mul, pk_mul, nI_add, nI_add]
      exact ⟨_, by omega, rfl⟩
  obtain ⟨D, hD, e⟩ := all (nsc S) (Nat.le_refl _)
  unfold fX8_dues
  split
  · rw [ite_self]
    exact ⟨0, by omega, by decide⟩
  · exact ⟨D, by omega, e⟩
theorem wins_rel {M : Nat} {S L : St} (hR : REL M S L) (hI : Inv S) {k m f n : Nat} (hk : k < nsu S) (hw : S 34 k = 1 ∨ S 34 k = 2) (hf : f < 3) (e30 : S 30 k = nI f) (e2 : S 2 f = nI n) (hmn : m ≤ n) (hnM : n ≤ M) (hM : M ≤ 99000000) : REL M (fX8_wins S 0 k (nI m)).2 (fL_wins L k (nI m)) ∧ fL_wins L k (nI m) 8 (8 + k) = (fX8_wins S 0 k (nI m)).2 40 k := by
  have hs8 := hR.ur.1
  have hk8 : k < 8 := by omega
  have hn : n ≤ 99000000 := by omega
  obtain ⟨p, hp, eH⟩ := hund_n hR hI hk hw
  have eL : fL_hundredths L k = nI p := (hund_law hR hI hk).trans eH
  have sh1 := share_n (m := m) (p := p) (by omega) (by omega)
  have sh2 := share_l (m := m) (p := p) (by omega) (by omega)
  obtain ⟨⟨t, ht, e29⟩, -⟩ := hR.ur.2.1 k hk8
  obtain ⟨u0, u1, -⟩ := hR.u k hk8
  have ef : ix (nI f) = f := nI_clamp (by omega)
  have et : ix (nI t) = t := nI_clamp (by omega)
  obtain ⟨p1, p2, p3⟩ := parts_law hR hI hk (m := m) (by omega) hp eH (ndl S) (Nat.le_refl _)
  have p4 := claims_law hR hI (m := m) hk (ncl S) (Nat.le_refl _)
  generalize hS' : (fX8_wins S 0 k (nI m)).2 = S'
  generalize hL' : fL_wins L k (nI m) = L'
  have hs : SU [2, 4, 6, 19, 34, 39, 40, 41, 46, 47] S S' := fun r _ hn => by
    rw [← hS']
    unfold fX8_wins
    dsimp only
    repeat (first | rw [up_nm (by decide) hn] | rw [upr_nm (by decide) hn])
  have hl : LU [2, 4, 6, 8, 9, 11] L L' := fun r hn => by
    rw [← hL']
    unfold fL_wins
    repeat (first | rw [up_nm (by decide) hn] | rw [upr_nm (by decide) hn])
  have s2 : S' 2 = upd (S 2) f (S 2 f - nI m) := by
    rw [← hS']
    show upd (S 2) (ix (S 30 k)) (S 2 (ix (S 30 k)) - nI m) = _
    rw [e30, ef]
  have s4 : S' 4 = upd (S 4) f (S 4 f + nI m) := by
    rw [← hS']
    show upd (S 4) (ix (S 30 k)) (S 4 (ix (S 30 k)) + nI m) = _
    rw [e30, ef]
  have s6 : S' 6 = upd (S 6) 0 (S 6 0 + (nI m - nI (m * p / 100))) := by
    rw [← hS', ← sh2, ← eH]; rfl
  have s19 : S' 19 = paidRow S k := by
    rw [← hS', ← wins_paid (much := nI m)]; rfl
  have s34 : S' 34 = upd (S 34) k 4 := by rw [← hS']; rfl
  have s39 : S' 39 = upd (S 39) k (nI m) := by rw [← hS']; rfl
  have s40 : S' 40 = upd (S 40) k (nI (m * p / 100)) := by rw [← hS', ← sh2, ← eH]; rfl
  have s41 : S' 41 = upd (S 41) k (nI p) := by rw [← hS', ← eH]; rfl
  have s46 : S' 46 = upd (S 46) t (S 46 t + (lX8_wins_94 S k (nI m) (ndl S)).1) := by
    rw [← hS']
    show upd (S 46) (ix (S 29 k)) (S 46 (ix (S 29 k)) + _) = _
    rw [e29, et]
  have s47 : S' 47 = (lX8_wins_94 S k (nI m) (ndl S)).2 := by rw [← hS']; rfl
  have l2 : L' 2 = lL_wins_300_v4 L k (nI m) (ncl S) := by rw [← hL', ← hR.q2e]; rfl
  have l4 : L' 4 = upd ((lL_wins_114 L k (nI m) (ndl S)).2) (8 * t + 4) ((lL_wins_114 L k (nI m) (ndl S)).2 (8 * t + 4) + (lL_wins_114 L k (nI m) (ndl S)).1) := by
    rw [← hL', ← hR.q3e]
    show upd ((lL_wins_114 L k (nI m) (q3 L)).2) (8 * ix (L 6 (8 * k)) + 4) ((lL_wins_114 L k (nI m) (q3 L)).2 (8 * ix (L 6 (8 * k)) + 4) + _) = _
    rw [u0, e29, et]
  have l6 : L' 6 = upd (upd (L 6) (8 * k + 7) (nI p)) (8 * k + 3) 4 := by rw [← hL', ← eL]; rfl
  have l8 : L' 8 = upd (upd (L 8) k (nI m)) (8 + k) (nI (m * p / 100)) := by rw [← hL', ← sh1, ← eL]; rfl
  have l9 : L' 9 = upd (upd (L 9) (4 * f) (L 9 (4 * f) - nI m)) (4 * f + 2) (upd (L 9) (4 * f) (L 9 (4 * f) - nI m) (4 * f + 2) + nI m) := by
    rw [← hL']
    show upd (upd (L 9) (4 * ix (L 6 (8 * k + 1))) (L 9 (4 * ix (L 6 (8 * k + 1))) - nI m)) (4 * ix (L 6 (8 * k + 1)) + 2) (upd (L 9) (4 * ix (L 6 (8 * k + 1))) (L 9 (4 * ix (L 6 (8 * k + 1))) - nI m) (4 * ix (L 6 (8 * k + 1)) + 2) + nI m) = _
    rw [u1, e30, ef]
  have l11 : L' 11 = upd (L 11) 6 (L 11 6 + (nI m - nI (m * p / 100))) := by rw [← hL', ← sh1, ← eL]; rfl
  refine ⟨⟨?_, hR.h.cg hs hl, hR.hr.cg hs, ?_, hR.b.cg hs hl, ?_, hR.d.cg hs hl, ?_, hR.ur.cg hs, ?_, hR.r.cg hs hl, hR.e.cg hs hl⟩, ?_⟩
  · obtain ⟨x0, x1, x2, x3, x4, x5, x6⟩ := hR.q
    unfold RQ
    rw [l11, s6, hs 1 (by decide) (by decide), hs 7 (by decide) (by decide), hs 15 (by decide) (by decide), hs 23 (by decide) (by decide), hs 28 (by decide) (by decide), hs 42 (by decide) (by decide)]
    exact ⟨x0, x1, x2, x3, x4, x5, congrArg (· + (nI m - nI (m * p / 100))) x6⟩
  · obtain ⟨c1, c2⟩ := hR.c
    have t15 : S' 15 = S 15 := hs 15 (by decide) (by decide)
    have t7 : S' 7 = S 7 := hs 7 (by decide) (by decide)
    have t16 : S' 16 = S 16 := hs 16 (by decide) (by decide)
    have t17 : S' 17 = S 17 := hs 17 (by decide) (by decide)
    have t18 : S' 18 = S 18 := hs 18 (by decide) (by decide)
    have l1 : L' 1 = L 1 := hl 1 (by decide)
    unfold RC
    unfold ncl nsc at *
    rw [t15, t7, t16, t17, t18, s19, l1, l2]
    refine ⟨fun i hi => ?_, fun i hi => ?_⟩
    · obtain ⟨a, m2, d, h1, h2, h3, h4, h5, h6, h7, h8, h9⟩ := c1 i hi
      rw [p4 i]
      refine ⟨a, m2, d, h1, h2, h3, h4, h5, h6, h7, ?_, ?_⟩
      · unfold paidRow ncl
        by_cases c : i < ix (S 15 0) ∧ ¬ fX8_counts S i k = 0
        · rw [if_pos c, if_pos c]
        · rw [if_neg c, if_neg c]; exact h8
      · unfold paidRow ncl
        by_cases c : i < ix (S 15 0) ∧ ¬ fX8_counts S i k = 0
        · rw [if_pos c]; exact Or.inr ⟨k, hk8, rfl⟩
        · rw [if_neg c]; exact h9
    · obtain ⟨h1, h2⟩ := c2 i hi
      rw [p4 i, if_neg (fun q => by omega)]
      exact ⟨h1, h2⟩
  · intro t' ht'
    obtain ⟨y0, y1, y2, y3, y4, y5, y6, y7, y8, y9⟩ := hR.t t' ht'
    rw [hs 21 (by decide) (by decide), hs 22 (by decide) (by decide), hs 49 (by decide) (by decide), hs 50 (by decide) (by decide), hs 48 (by decide) (by decide), s46, s47, l4]
    refine ⟨?_, ?_, ?_, ?_, ?_, ?_, ?_, y7, y8, y9⟩
    · rw [upd_off (by omega), p3 _ (fun t2 _ => by omega)]; exact y0
    · rw [upd_off (by omega), p3 _ (fun t2 _ => by omega)]; exact y1
    · rw [upd_off (by omega), p3 _ (fun t2 _ => by omega)]; exact y2
    · rw [upd_off (by omega), p3 _ (fun t2 _ => by omega)]; exact y3
    · by_cases e : t' = t
      · subst e
        rw [upd_at, upd_at, p3 _ (fun t2 _ => by omega), y4, p1]
      · rw [upd_off (by omega), upd_off e, p3 _ (fun t2 _ => by omega)]; exact y4
    · rw [upd_off (by omega), p2 t' ht']
    · rw [upd_off (by omega), p3 _ (fun t2 _ => by omega)]; exact y6
  · intro k' hk'
    obtain ⟨w0, w1, w2, w3, w4, w5, w6, w7, w8, w9⟩ := hR.u k' hk'
    rw [hs 29 (by decide) (by decide), hs 30 (by decide) (by decide), hs 33 (by decide) (by decide), hs 35 (by decide) (by decide), hs 36 (by decide) (by decide), hs 37 (by decide) (by decide), hs 38 (by decide) (by decide), s34, s39, s40, s41, l6, l8]
    refine ⟨by rw [upd_off (by omega), upd_off (by omega)]; exact w0, by rw [upd_off (by omega), upd_off (by omega)]; exact w1, by rw [upd_off (by omega), upd_off (by omega)]; exact w2, ?_, by rw [upd_off (by omega), upd_off (by omega)]; exact w4, by rw [upd_off (by omega), upd_off (by omega)]; exact w5, by rw [upd_off (by omega), upd_off (by omega)]; exact w6, ?_, ?_, ?_⟩
    · by_cases e : k' = k
      · subst e; rw [upd_at, upd_at]
      · rw [upd_off (by omega), upd_off (by omega), upd_off e]; exact w3
    · by_cases e : k' = k
      · subst e; rw [upd_off (by omega), upd_at, upd_at]
      · rw [upd_off (by omega), upd_off (by omega), upd_off e]; exact w7
    · by_cases e : k' = k
      · subst e; rw [upd_off (by omega), upd_at, upd_at]
      · rw [upd_off (by omega), upd_off (by omega), upd_off e]; exact w8
    · by_cases e : k' = k
      · subst e; rw [upd_at, upd_at]
      · rw [upd_off (by omega), upd_off (by omega), upd_off e]; exact w9
  · obtain ⟨y1, y2, y3, y4, y5⟩ := hR.m
    have t3 : S' 3 = S 3 := hs 3 (by decide) (by decide)
    have t5 : S' 5 = S 5 := hs 5 (by decide) (by decide)
    unfold RM
    rw [s2, s4, t3, t5, l9]
    refine ⟨fun f' hf' => ?_, ?_, y3, ?_, y5⟩
    · obtain ⟨x0, x1, x2, x3, n', hn', en'⟩ := y1 f' hf'
      by_cases e : f' = f
      · subst e
        rw [upd_at, upd_at]
        refine ⟨?_, ?_, ?_, ?_, n - m, ?_, ?_⟩
        · rw [upd_off (by omega), upd_at, x0]
        · rw [upd_off (by omega), upd_off (by omega)]; exact x1
        · rw [upd_at, upd_off (by omega), x2]
        · rw [upd_off (by omega), upd_off (by omega)]; exact x3
        · have : n = n' := by
            rw [e2] at en'
            exact (nI_eq (by omega) (by omega)).mp en'
          omega
        · rw [e2, pk_sub hmn]
      · rw [upd_off e, upd_off e]
        refine ⟨?_, ?_, ?_, ?_, n', hn', en'⟩
        · rw [upd_off (by omega), upd_off (by omega)]; exact x0
        · rw [upd_off (by omega), upd_off (by omega)]; exact x1
        · rw [upd_off (by omega), upd_off (by omega)]; exact x2
        · rw [upd_off (by omega), upd_off (by omega)]; exact x3
    · rw [upd_off (by omega)]; exact y2
    · rw [upd_off (by omega)]; exact y4
  · rw [l8, s40, upd_at, upd_at]
theorem wins_65 (S : St) (k : Nat) (m : Int32) (r : Nat) (hr : 64 < r) : (fX8_wins S 0 k m).2 r = S r := by
  unfold fX8_wins
  dsimp only
  repeat (first | rw [up_ne (by omega)] | rw [upr_ne (by omega)])
/-- the firm of a suit and its money -/
theorem firm_of {M : Nat} {S L : St} (hR : REL M S L) {k : Nat} (hk : k < 8) : ∃ f n, f < 3 ∧ n ≤ M ∧ S 30 k = nI f ∧ ix (S 30 k) = f ∧ S 2 f = nI n ∧ L 9 (4 * ix (L 6 (8 * k + 1))) = nI n := by
  obtain ⟨-, f, hf, e30⟩ := hR.ur.2.1 k hk
  obtain ⟨-, u1, -⟩ := hR.u k hk
  obtain ⟨x0, -, -, -, n, hn, en⟩ := hR.m.1 f hf
  have ef : ix (nI f) = f := nI_clamp (by omega)
  exact ⟨f, n, hf, hn, e30, by rw [e30, ef], en, by rw [u1, e30, ef, x0, en]⟩
theorem st_12 (x : Int32) (h1 : ¬ x = 1) (h2 : ¬ x = 2) : ¬ (x = 1 ∨ x = 2) := fun q => q.elim h1 h2
theorem g_judge {M : Nat} {S L : St} (hR : REL M S L) (hI : Inv S) (hM : M ≤ 9000000) {k : Nat} (hk : k < nsu S) : (S 34 k = 1 ∨ S 34 k = 2 → GOOD M S (bL_suits_742 L k (jL_suits_742 L k))) ∧ (¬ (S 34 k = 1 ∨ S 34 k = 2) → GOOD M S (bL_suits_742_v2 L k (jL_suits_742 L k))) := by
  have hs8 := hR.ur.1
  obtain ⟨h0, ek⟩ := suit_ok hR hI hk
  obtain ⟨f, n, hf, hn, e30, eix, e2, e9⟩ := firm_of hR (k := k) (by omega)
  obtain ⟨D, hD, eD⟩ := dues_n hR hI k
  have ej : ∃ m, m ≤ n ∧ jL_suits_742 L k = nI m ∧ jX8_judge_86 S (nI k) = nI m := by
    unfold jL_suits_742 jX8_judge_86
    rw [ek, due_law hR hI hk, e9, eix, e2, eD]
    by_cases c : nI n ≤ nI D
    · rw [if_pos c]; exact ⟨n, Nat.le_refl _, rfl, rfl⟩
    · rw [if_neg c]
      rw [nI_leI (by omega) (by omega)] at c
      exact ⟨D, by omega, rfl, rfl⟩
  obtain ⟨m, hm, em, em8⟩ := ej
  refine ⟨fun hw => ?_, fun hw => ?_⟩
  · unfold bL_suits_742
    rw [em]
    have e8 : xq8 S 8 (nI k) 0 0 = (nI m, 0, (fX8_wins S 0 k (nI m)).2) := by
      show fX8_judge S (nI k) = _
      unfold fX8_judge bX8_judge_86
      rw [if_neg ((suit_I hI.m _).mpr h0), ek, em8]
      rcases hw with q | q
      · rw [if_pos q]; rfl
      · rw [if_neg (by rw [q]; decide), if_pos q]; rfl
    exact good_8 hI e8 (wins_65 S k (nI m)) (wins_rel hR hI hk hw hf e30 e2 hm hn (by omega)).1
  · unfold bL_suits_742_v2
    have e8 : xq8 S 8 (nI k) 0 0 = (0, 2, S) := by
      show fX8_judge S (nI k) = _
      unfold fX8_judge
      rw [if_neg ((suit_I hI.m _).mpr h0), ek, if_neg (fun q => hw (Or.inl q)), if_neg (fun q => hw (Or.inr q))]
    have hone := (xq_one hI 8 (nI k) 0 0).1
    rw [e8] at hone
    exact good_t (by decide) e8 (mp13_2 hone.symm (c7_judge S (nI k)).1) (fun r hr => k65 S 8 (by decide) (by decide) _ _ _ r hr) hR
theorem g_settle {M : Nat} {S L : St} (hR : REL M S L) (hI : Inv S) (hM : M ≤ 9000000) {k : Nat} (hk : k < nsu S) {z : Int32} (hz : ∃ x, x < 12000000 ∧ z = nI x) : GOOD M S (if (S 34 k) = 1 then (if (L 9 (4 * (ix (L 6 (8 * k + 1))))) < z then (L, (9, nI k, z, 0), (-1003)) else ((fL_wins L k z), (9, nI k, z, 0), (fL_wins L k z) 8 (8 + k))) else (if (S 34 k) = 2 then (if (L 9 (4 * (ix (L 6 (8 * k + 1))))) < z then (L, (9, nI k, z, 0), (-1003)) else (if (5 * z) < (fL_due L k) then (L, (9, nI k, z, 0), (-1003)) else ((fL_wins L k z), (9, nI k, z, 0), (fL_wins L k z) 8 (8 + k)))) else (L, (9, nI k, z, 0), (-1003)))) := by
  have hs8 := hR.ur.1
  obtain ⟨h0, ek⟩ := suit_ok hR hI hk
  obtain ⟨f, n, hf, hn, e30, eix, e2, e9⟩ := firm_of hR (k := k) (by omega)
  obtain ⟨x, hx, ez⟩ := hz
  have h1 : okR (nI x) 0 100000000 := okR_nI (lo := 0) (hi := 100000000) (by decide) (by decide) (Nat.zero_le _) (by omega) (by decide)
  rw [e9, ez, due_law hR hI hk]
  have start : ∀ A B C : Int32 × Int32 × St, (if fX8_isSuit S (nI k) = 0 then A else (if fX8_in (nI x) 0 100000000 = 0 then B else C)) = C := fun A B C => by rw [if_neg ((suit_I hI.m _).mpr h0), if_neg ((in_R _ _ _).mpr h1)]
  have win : (S 34 k = 1 ∨ S 34 k = 2) → ¬ nI n < nI x → fX8_settle S (nI k) (nI x) = ((fX8_wins S 0 k (nI x)).2 40 k, 0, (fX8_wins S 0 k (nI x)).2) → GOOD M S ((fL_wins L k (nI x)), (9, nI k, nI x, 0), (fL_wins L k (nI x)) 8 (8 + k)) := by
    intro hw hlt e8
    rw [nI_ltI (by omega) (by omega)] at hlt
    obtain ⟨r1, r2⟩ := wins_rel hR hI hk hw hf e30 e2 (show x ≤ n by omega) hn (by omega)
    rw [r2]
    exact good_8 hI (w := 9) (b := nI x) (c := 0) e8 (wins_65 S k (nI x)) r1
  have thr : fX8_settle S (nI k) (nI x) = (0, 3, S) → GOOD M S (L, (9, nI k, nI x, 0), -1003) := fun e8 => good_t3 hI hR (w := 9) (b := nI x) (c := 0) (by decide) (v := 0) (e8 := e8)
  by_cases c1 : S 34 k = 1
  · rw [if_pos c1]
    by_cases c2 : nI n < nI x
    · rw [if_pos c2]
      refine thr ?_
      unfold fX8_settle
      rw [start, ek, if_pos c1, eix, e2, if_pos c2]
    · rw [if_neg c2]
      refine win (Or.inl c1) c2 ?_
      unfold fX8_settle
      rw [start, ek, if_pos c1, eix, e2, if_neg c2, if_pos c1]
      rfl
  · rw [if_neg c1]
    by_cases c3 : S 34 k = 2
    · rw [if_pos c3]
      by_cases c2 : nI n < nI x
      · rw [if_pos c2]
        refine thr ?_
        unfold fX8_settle
        rw [start, ek, if_neg c1, if_pos c3, eix, e2, if_pos c2]
      · rw [if_neg c2]
        by_cases c4 : 5 * nI x < fX8_dues S k
        · rw [if_pos c4]
          refine thr ?_
          unfold fX8_settle
          rw [start, ek, if_neg c1, if_pos c3, eix, e2, if_neg c2, if_neg c1, if_pos c4]
        · rw [if_neg c4]
          refine win (Or.inr c3) c2 ?_
          unfold fX8_settle
          rw [start, ek, if_neg c1, if_pos c3, eix, e2, if_neg c2, if_neg c1, if_neg c4]
          rfl
    · rw [if_neg c3]
      refine thr ?_
      unfold fX8_settle
      rw [start, ek, if_neg c1, if_neg c3]
