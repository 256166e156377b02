/-! a round of the law is a round of the bench -/
theorem GOOD.up {M M' : Nat} {S : St} {x : St × (Nat × Int32 × Int32 × Int32) × Int32} (h : GOOD M S x) (hM : M ≤ M') : GOOD M' S x := ⟨h.1, h.2.up hM⟩
theorem low1_n (v : Int32) {n : Int32} {N : Nat} (hn : n = nI N) (h0 : 0 < N) (hN : N < 2 ^ 30) : ∃ k, 0 < k ∧ k ≤ N ∧ 1 + fL_low v n = nI k := by
  obtain ⟨j, hj, e⟩ := low_n v hn h0 (by omega)
  exact ⟨1 + j, by omega, by omega, by rw [e, show (1 : Int32) = nI 1 by decide, nI_add]⟩
theorem tells_ok {M : Nat} {S L : St} (hR : REL M S L) (hI : Inv S) (hM : M ≤ 9000000) (act zv : Int32) {f t b s_ : Nat} (hf : f < 3) (ht : t < 5) (hb : b < 8) (hs : ¬ L 11 1 = 0 → s_ < q1 L) : GOOD (M + 3000) S (fL_tells L act zv f t b s_) := by
  obtain ⟨x1, hx0, hx1, ex⟩ := low1_n (zv >>> ((3 : Int32) &&& 31)) (n := 255) (N := 255) (by decide) (by decide) (by decide)
  obtain ⟨y1, hy1, ey⟩ := low_n (zv >>> ((5 : Int32) &&& 31)) (n := 3) (N := 3) (by decide) (by decide) (by decide)
  have sch : GOOD (M + 3000) S (if (L 11 1) = 8 then (L, (99, 0, 0, 0), 0) else ((up (up (up (up (up L 11 1 ((L 11 1) + 1)) 0 (8 * (q1 L)) (nI f)) 0 (8 * (q1 L) + 1) (1 + (fL_low (zv >>> ((3 : Int32) &&& 31)) 255))) 0 (8 * (q1 L) + 2) (fL_low (zv >>> ((5 : Int32) &&& 31)) 3)) 0 (8 * (q1 L) + 3) 1), (13, nI f, (up (up (up (up (up L 11 1 ((L 11 1) + 1)) 0 (8 * (q1 L)) (nI f)) 0 (8 * (q1 L) + 1) (1 + (fL_low (zv >>> ((3 : Int32) &&& 31)) 255))) 0 (8 * (q1 L) + 2) (fL_low (zv >>> ((5 : Int32) &&& 31)) 3)) 0 (8 * (q1 L) + 3) 1) 0 (8 * (q1 L) + 1), (up (up (up (up (up L 11 1 ((L 11 1) + 1)) 0 (8 * (q1 L)) (nI f)) 0 (8 * (q1 L) + 1) (1 + (fL_low (zv >>> ((3 : Int32) &&& 31)) 255))) 0 (8 * (q1 L) + 2) (fL_low (zv >>> ((5 : Int32) &&& 31)) 3)) 0 (8 * (q1 L) + 3) 1) 0 (8 * (q1 L) + 2)), L 11 1)) := by
    by_cases c : L 11 1 = 8
    · rw [if_pos c]; exact (good_99 hR).up (by omega)
    · rw [if_neg c, ex, ey]
      exact (g_scheme hR hI hf hx0 (by omega) (by omega) c rfl).up (by omega)
  unfold fL_tells
  by_cases a0 : act = 0
  · rw [if_pos a0]
    obtain ⟨m, hm0, hm1, em⟩ := low1_n (zv >>> ((3 : Int32) &&& 31)) (n := 3000) (N := 3000) (by decide) (by decide) (by decide)
    rw [em]
    exact g_fund hR hI hf hm0 hm1 (by omega)
  rw [if_neg a0]
  by_cases a1 : act = 1
  · rw [if_pos a1]; exact sch
  rw [if_neg a1]
  by_cases z1 : L 11 1 = 0
  · rw [if_pos z1]; exact sch
  rw [if_neg z1]
  have hsq := hs z1
  rw [hR.q1e] at hsq
  by_cases a2 : act = 2
  · rw [if_pos a2]
    obtain ⟨m, hm0, hm1, em⟩ := low1_n (zv >>> ((5 : Int32) &&& 31)) (n := 9999) (N := 9999) (by decide) (by decide) (by decide)
    rw [em]
    obtain ⟨k1, k2⟩ := g_claim hR hI hsq hm0 hm1
    by_cases c : 40 ≤ L 11 2
    · rw [if_pos c]; exact (k1 c).up (by omega)
    · rw [if_neg c]; exact (k2 c).up (by omega)
  rw [if_neg a2]
  by_cases a3 : act = 3
  · rw [if_pos a3]
    obtain ⟨n, hn0, hn1, en⟩ := low1_n (zv >>> ((4 : Int32) &&& 31)) (n := 20) (N := 20) (by decide) (by decide) (by decide)
    obtain ⟨m, hm1, em⟩ := low_n (zv >>> ((6 : Int32) &&& 31)) (n := nI n + 1) (N := n + 1) (nI_1 n) (by omega) (by omega)
    rw [en, em, up_off (i := 8 * s_ + 4) (by omega), up_at]
    exact (g_sample hR hI hsq hn0 hn1 (by omega) rfl).up (by omega)
  rw [if_neg a3]
  by_cases a4 : act = 4
  · rw [if_pos a4]; exact (g_learn hR hI ht hb).up (by omega)
  rw [if_neg a4]
  by_cases a5 : act = 5
  · rw [if_pos a5]
    obtain ⟨k1, k2⟩ := g_publish hR hI hb
    by_cases c : L 3 b = 0
    · rw [if_pos c]; exact (k1 c).up (by omega)
    · rw [if_neg c]; exact (k2 c).up (by omega)
  rw [if_neg a5]
  by_cases a6 : act = 6
  · rw [if_pos a6]
    obtain ⟨k1, k2⟩ := g_plan hR hI ht hsq
    by_cases c : (((L 4 (8 * t + 1)) >>> ((nI s_) &&& 31)) &&& 1) = 1
    · rw [if_pos c]; exact (k1 c).up (by omega)
    · rw [if_neg c]; exact (k2 c).up (by omega)
  rw [if_neg a6]
  by_cases a7 : act = 7
  · rw [if_pos a7]
    obtain ⟨k1, k2⟩ := g_know hR hI hsq
    by_cases c : L 0 (8 * s_ + 5) ≤ 0
    · rw [if_pos c]; exact (k1 c).up (by omega)
    · rw [if_neg c]; exact (k2 c).up (by omega)
  rw [if_neg a7]
  by_cases a8 : act = 8
  · rw [if_pos a8]
    obtain ⟨k1, k2⟩ := g_admit hR hI hsq
    by_cases c : lL_tells_703 L s_ (q4 L) = 0
    · rw [if_pos c]; exact (k1 c).up (by omega)
    · rw [if_neg c]; exact (k2 c).up (by omega)
  rw [if_neg a8]
  obtain ⟨p, hp0, hp1, ep⟩ := low1_n (zv >>> ((7 : Int32) &&& 31)) (n := 40) (N := 40) (by decide) (by decide) (by decide)
  obtain ⟨j, hj, ej⟩ := low_n (zv >>> ((6 : Int32) &&& 31)) (n := 4) (N := 4) (by decide) (by decide) (by decide)
  have eo : ((((nI t) + 1) + (fL_low (zv >>> ((6 : Int32) &&& 31)) 4)) - (((nI t) + 1) + (fL_low (zv >>> ((6 : Int32) &&& 31)) 4)) / 5 * 5) = nI ((t + 1 + j) % 5) := by
    rw [ej, nI_1, nI_add, nx_rem 5 (by omega) (by decide) (by decide) (by decide)]
  rw [eo, ep]
  obtain ⟨k1, k2, k3⟩ := g_deal hR hI ht (show (t + 1 + j) % 5 < 5 by omega) (by omega) hp0 hp1 ep
  by_cases c : 100 < lL_tells_877 L zv t (q3 L)
  · rw [if_pos c]; exact (k1 c).up (by omega)
  · rw [if_neg c]
    by_cases c2 : 20 ≤ L 11 3
    · rw [if_pos c2]; exact (k2 c c2).up (by omega)
    · rw [if_neg c2]; exact (k3 c c2).up (by omega)
theorem nI_ps0 {n : Nat} (hn : n < 2 ^ 31) (h : ¬ nI n = 0) : 0 < n := by
  rcases Nat.eq_zero_or_pos n with q | q
  · subst q; exact absurd rfl h
  · exact q
theorem files_ok {M : Nat} {S L : St} (hR : REL M S L) (hI : Inv S) (zv : Int32) {f t : Nat} (hf : f < 3) (ht : t < 5) : GOOD M S (fL_files L zv f t) := by
  obtain ⟨t0, -, -, -, -, -, -, ⟨x, hx, ex⟩, -⟩ := hR.t t ht
  unfold fL_files
  by_cases c8 : L 11 4 = 8
  · rw [if_pos c8]; exact good_99 hR
  rw [if_neg c8]
  have hy : ∃ y, y < 256 ∧ jL_files_89 L zv t = nI y := by
    unfold jL_files_89
    obtain ⟨a, ha, ea⟩ := low_n (zv >>> ((4 : Int32) &&& 31)) (n := 256) (N := 256) (by decide) (by decide) (by decide)
    obtain ⟨d, hd0, hd1, ed⟩ := low1_n (zv >>> ((2 : Int32) &&& 31)) (n := 255) (N := 255) (by decide) (by decide) (by decide)
    rw [t0, ex, ea, ed, nI_and]
    split
    · exact ⟨d, by omega, rfl⟩
    · split
      · exact ⟨x, hx, rfl⟩
      · exact ⟨x &&& a, Nat.lt_of_le_of_lt Nat.and_le_left hx, rfl⟩
  obtain ⟨y, hy, ey⟩ := hy
  rw [ey]
  unfold bL_files_89
  by_cases c0 : nI y = 0
  · rw [if_pos c0]; exact good_99 hR
  rw [if_neg c0]
  obtain ⟨k1, k2⟩ := g_file hR hI hf ht (nI_ps0 (by omega) c0) hy c8
  by_cases c : (nI y &&& ((L 4 (8 * t)) ^^^ (-1))) = 0
  · rw [if_pos c]; exact k1 c
  · rw [if_neg c]; exact k2 c
theorem due_num {M : Nat} {S L : St} (hR : REL M S L) (hI : Inv S) (hM : M ≤ 9000000) {k : Nat} (hk : k < nsu S) : ∃ N, 0 < N ∧ N < 12000000 ∧ (((L 9 (4 * (ix (L 6 (8 * k + 1))))) + 2) + ((fL_due L k) / 4)) = nI N := by
  have hs8 := hR.ur.1
  obtain ⟨f, n, hf, hn, e30, eix, e2, e9⟩ := firm_of hR (k := k) (by omega)
  obtain ⟨D, hD, eD⟩ := dues_n hR hI k
  refine ⟨n + 2 + D / 4, by omega, by omega, ?_⟩
  rw [e9, due_law hR hI hk, eD, nx_div 4 (by omega) (by decide) (by decide) (by decide), show (2 : Int32) = nI 2 by decide, nI_add, nI_add]
theorem suits_ok {M : Nat} {S L : St} (hR : REL M S L) (hI : Inv S) (hM : M ≤ 9000000) (act zv : Int32) {k : Nat} (hk : k < nsu S) : GOOD M S (fL_suits L act zv k) := by
  have hs8 := hR.ur.1
  obtain ⟨u0, u1, u2, u3, -⟩ := hR.u k (by omega)
  obtain ⟨⟨t, ht, e29⟩, -⟩ := hR.ur.2.1 k (by omega)
  have et : ix (nI t) = t := nI_clamp (by omega)
  obtain ⟨t0, -, -, -, -, -, -, ⟨x, hx, ex⟩, -⟩ := hR.t t ht
  unfold fL_suits bL_suits_44
  by_cases a0 : act = 0
  · rw [if_pos a0]
    have hy : ∃ y, 0 < y ∧ y < 256 ∧ jL_suits_115 L zv k = nI y := by
      unfold jL_suits_115
      obtain ⟨d, hd0, hd1, ed⟩ := low1_n (zv >>> ((4 : Int32) &&& 31)) (n := 255) (N := 255) (by decide) (by decide) (by decide)
      rw [u0, e29, et, t0, ex, ed, nI_and]
      split
      · exact ⟨d, hd0, by omega, rfl⟩
      · split
        · exact ⟨d, hd0, by omega, rfl⟩
        · rename_i q
          have hlt : d &&& x < 256 := Nat.lt_of_le_of_lt Nat.and_le_left (by omega)
          exact ⟨d &&& x, nI_ps0 (by omega) q, hlt, rfl⟩
    obtain ⟨y, hy0, hy, ey⟩ := hy
    rw [ey]
    exact g_amend hR hI hk hy0 hy
  rw [if_neg a0]
  by_cases a1 : act = 1
  · rw [if_pos a1]
    exact g_extend hR hI hk
  rw [if_neg a1]
  by_cases a2 : act = 2
  · rw [if_pos a2]
    have hy : ∃ y, 0 < y ∧ y ≤ 3 ∧ jL_suits_448 zv = nI y := by
      unfold jL_suits_448
      obtain ⟨d, hd0, hd1, ed⟩ := low1_n (zv >>> ((4 : Int32) &&& 31)) (n := 2) (N := 2) (by decide) (by decide) (by decide)
      rw [ed]
      split
      · exact ⟨3, by decide, by decide, by decide⟩
      · exact ⟨d, hd0, by omega, rfl⟩
    obtain ⟨y, hy0, hy, ey⟩ := hy
    rw [ey]
    exact g_choose hR hI hk hy0 hy
  rw [if_neg a2]
  by_cases a3 : act = 3
  · rw [if_pos a3]
    obtain ⟨h, hh, eh⟩ := low_n (zv >>> ((4 : Int32) &&& 31)) (n := 11) (N := 11) (by decide) (by decide) (by decide)
    rw [eh]
    exact g_help hR hI hk (by omega)
  rw [if_neg a3]
  obtain ⟨N, hN0, hN, eN⟩ := due_num hR hI hM hk
  obtain ⟨z, hz, ez⟩ := low_n (zv >>> ((4 : Int32) &&& 31)) (n := (((L 9 (4 * (ix (L 6 (8 * k + 1))))) + 2) + ((fL_due L k) / 4))) eN hN0 (by omega)
  rw [ez, u3]
  obtain ⟨j1, j2⟩ := g_judge hR hI hM hk
  have gs := g_settle hR hI hM hk (z := nI z) ⟨z, by omega, rfl⟩
  by_cases c1 : S 34 k = 1
  · rw [if_pos c1] at gs ⊢
    by_cases a4 : act = 4
    · rw [if_pos a4]; exact j1 (Or.inl c1)
    · rw [if_neg a4]; exact gs
  · rw [if_neg c1] at gs ⊢
    by_cases c2 : S 34 k = 2
    · rw [if_pos c2] at gs ⊢
      by_cases a4 : act = 4
      · rw [if_pos a4]; exact j1 (Or.inr c2)
      · rw [if_neg a4]; exact gs
    · rw [if_neg c2] at gs ⊢
      by_cases a4 : act = 4
      · rw [if_pos a4]; exact j2 (fun q => q.elim c1 c2)
      · rw [if_neg a4]; exact gs
theorem wages_ok {M : Nat} {S L : St} (hR : REL M S L) (hI : Inv S) (hM : M ≤ 9000000) (act zv : Int32) {f t : Nat} (hf : f < 3) (ht : t < 5) : GOOD M S (fL_wages L act zv f t) := by
  unfold fL_wages
  by_cases a0 : act = 0
  · rw [if_pos a0]
    obtain ⟨z, hz, ez⟩ := low_n (zv >>> ((4 : Int32) &&& 31)) (n := 1000) (N := 1000) (by decide) (by decide) (by decide)
    exact g_work hR hI hf ht ⟨z, hz, ez⟩
  rw [if_neg a0]
  by_cases a1 : act = 1
  · rw [if_pos a1]; exact g_tell hR hI hf ht
  rw [if_neg a1]
  by_cases a2 : act = 2
  · rw [if_pos a2]; exact g_fire3 hR hI hf ht _
  rw [if_neg a2]
  exact g_award hR hI hM hf ht
