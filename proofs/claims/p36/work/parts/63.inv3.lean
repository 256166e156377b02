/-! a suit filed, a suit amended: the invariant is kept -/
theorem nI_prd {d : Nat} (h : 0 < d) (hd : d < 2 ^ 30) : ix (nI d - 1) = d - 1 := by
  have e := nI_m1 (n := d) hd
  have e2 : nI d - 1 = nI (d - 1) := by
    apply Int32.toInt_inj.mp
    rw [e, nI_toInt (by omega)]
    omega
  rw [e2]
  exact nI_clamp (by omega)
/-- what a paper's day does to the row of days -/
theorem note_day {X : St} {d : Nat} (hL : DL (X 63) d (X 1 0)) (hd : X 64 0 = nI d) (hb : d < 52) (ht : dayR (X 1 0)) : ∃ d', fX7_notePaperDay X 64 0 = nI d' ∧ d ≤ d' ∧ d' ≤ d + 1 ∧ DL (fX7_notePaperDay X 63) d' (X 1 0) ∧ (∀ i, i < d → fX7_notePaperDay X 63 i = X 63 i) ∧ ∃ i, i < d' ∧ fX7_notePaperDay X 63 i = X 1 0 := by
  have h52 : ¬ (52 : Int32) ≤ X 64 0 := by
    rw [hd, show (52 : Int32) = nI 52 by decide]
    exact fun q => absurd ((nI_leI (by decide) (by omega)).mp q) (by omega)
  have add : (d = 0 ∨ X 63 (d - 1) < X 1 0) → fX7_notePaperDay X = up (up X 63 (ix (X 64 0)) (X 1 0)) 64 0 ((X 64 0) + 1) → ∃ d', fX7_notePaperDay X 64 0 = nI d' ∧ d ≤ d' ∧ d' ≤ d + 1 ∧ DL (fX7_notePaperDay X 63) d' (X 1 0) ∧ (∀ i, i < d → fX7_notePaperDay X 63 i = X 63 i) ∧ ∃ i, i < d' ∧ fX7_notePaperDay X 63 i = X 1 0 := by
    intro hlast e
    have e63 : fX7_notePaperDay X 63 = upd (X 63) d (X 1 0) := by
      rw [e, up_ne (by decide), up_row, hd, show ix (nI d) = d from nI_clamp (by omega)]
    have e64 : fX7_notePaperDay X 64 0 = nI (d + 1) := by
      rw [e, up_at, hd, show (1 : Int32) = nI 1 by decide, nI_add]
    refine ⟨d + 1, e64, by omega, by omega, ?_, fun i hi => by rw [e63, upd_off (by omega)], d, by omega, by rw [e63, upd_at]⟩
    rw [e63]
    refine ⟨?_, ?_, ?_⟩
    · intro i j hij hj
      by_cases ej : j = d
      · rw [ej, upd_at, upd_off (by omega)]
        rcases hlast with h0 | h0
        · omega
        · rcases Nat.lt_or_ge i (d - 1) with q | q
          · exact Int32.lt_trans (hL.1 i (d - 1) q (by omega)) h0
          · rw [show i = d - 1 by omega]; exact h0
      · rw [upd_off ej, upd_off (by omega)]
        exact hL.1 i j hij (by omega)
    · intro i hi
      by_cases ej : i = d
      · rw [ej, upd_at]; exact ht
      · rw [upd_off ej]; exact hL.2.1 i (by omega)
    · intro i hi
      by_cases ej : i = d
      · rw [ej, upd_at]; exact Int32.le_refl _
      · rw [upd_off ej]; exact hL.2.2 i (by omega)
  by_cases h0 : d = 0
  · refine add (Or.inl h0) ?_
    unfold fX7_notePaperDay
    rw [if_pos (show X 64 0 = 0 by rw [hd, h0]; rfl), if_neg h52]
  · have hz : ¬ X 64 0 = 0 := by
      rw [hd, show (0 : Int32) = nI 0 by decide, nI_eq (by omega) (by decide)]
      exact h0
    have hp : ix (X 64 0 - 1) = d - 1 := by rw [hd]; exact nI_prd (by omega) (by omega)
    by_cases hl : X 63 (d - 1) = X 1 0
    · have e : fX7_notePaperDay X = X := by
        unfold fX7_notePaperDay
        rw [if_neg hz, hp, if_pos hl]
      rw [e]
      exact ⟨d, hd, Nat.le_refl _, by omega, hL, fun _ _ => rfl, d - 1, by omega, hl⟩
    · refine add (Or.inr ?_) ?_
      · have hle := hL.2.2 (d - 1) (by omega)
        rcases Int32.lt_or_eq_of_le hle with q | q
        · exact q
        · exact absurd q hl
      · unfold fX7_notePaperDay
        rw [if_neg hz, hp, if_neg hl, if_neg h52]
theorem sub16_refl {x : Int32} (h : set16 x) : sub16 x x := by
  obtain ⟨m, hm, e⟩ := h
  exact ⟨m, m, hm, hm, e, e, fun _ q => q⟩
theorem sub16_or {x y : Int32} (hx : set16 x) (hy : set16 y) : sub16 x (x ||| y) := by
  obtain ⟨m, hm, rfl⟩ := hx
  obtain ⟨n, hn, rfl⟩ := hy
  exact ⟨m, m ||| n, hm, Nat.or_lt_two_pow (n := 16) hm hn, rfl, nI_or m n, fun j q => by rw [Nat.testBit_or, q, Bool.true_or]⟩
theorem sub16_trans {x y z : Int32} (h1 : sub16 x y) (h2 : sub16 y z) : sub16 x z := by
  obtain ⟨a, b, ha, hb, ea, eb, hab⟩ := h1
  obtain ⟨c, d, hc, hd, ec, ed, hcd⟩ := h2
  have e : b = c := (nI_eq (by omega) (by omega)).mp (eb.symm.trans ec)
  subst e
  exact ⟨a, d, ha, hd, ea, ed, fun j q => hcd j (hab j q)⟩
theorem acnt_cg {S S' : St} {k : Nat} : ∀ m, (∀ i, i < m → S' 43 i = S 43 i) → acnt S' k m = acnt S k m := by
  intro m
  induction m with
  | zero => exact fun _ => rfl
  | succ m ih =>
    intro h
    show acnt S' k m + _ = acnt S k m + _
    rw [ih (fun i hi => h i (by omega)), h m (by omega)]
theorem acnt_zero {S : St} {k : Nat} : ∀ m, (∀ i, i < m → ¬ S 43 i = nI k) → acnt S k m = 0 := by
  intro m
  induction m with
  | zero => exact fun _ => rfl
  | succ m ih =>
    intro h
    show acnt S k m + _ = 0
    rw [ih (fun i hi => h i (by omega)), if_neg (h m (by omega))]
/-- a state after a suit was filed, by its rows -/
def FILED (S M : St) (t f set : Int32) : Prop := ∃ d', M 64 0 = nI d' ∧ npd S ≤ d' ∧ d' ≤ npd S + 1 ∧ DL (M 63) d' (S 1 0) ∧ (∀ i, i < npd S → M 63 i = S 63 i) ∧ (∃ i, i < d' ∧ M 63 i = S 1 0) ∧
  (M 28 = upd (S 28) 0 (S 28 0 + 1) ∧ M 29 = upd (S 29) (nsu S) t ∧ M 30 = upd (S 30) (nsu S) f ∧ M 31 = upd (S 31) (nsu S) set ∧ M 32 = upd (S 32) (nsu S) set ∧ M 33 = upd (S 33) (nsu S) (S 1 0) ∧ M 36 = upd (S 36) (nsu S) (S 1 0 + 60) ∧ M 65 = upd (S 65) (64 * nsu S) set ∧ M 66 = upd (S 66) (64 * nsu S) (S 1 0) ∧ M 67 = upd (S 67) (nsu S) 1) ∧
  ∀ r, ¬ (r = 28 ∨ r = 29 ∨ r = 30 ∨ r = 31 ∨ r = 32 ∨ r = 33 ∨ r = 36 ∨ r = 63 ∨ r = 64 ∨ r = 65 ∨ r = 66 ∨ r = 67) → M r = S r
theorem inv_filed {S M : St} (h : Inv S) {t f set : Int32} (hn : nsu S < 12) (ht : vp_in t 8) (hf : vp_in f 6) (hs : set16 set) (hb : npd S < 52) (hM : FILED S M t f set) : Inv M := by
  obtain ⟨d', d1, d2, d3, d4, d5, d6, ⟨e28, e29, e30, e31, e32, e33, e36, e65, e66, e67⟩, keep⟩ := hM
  obtain ⟨c1, c2⟩ := cnt_up (S := S) (S' := M) (r := 28) e28 h.m.n28 (by omega)
  have c2 : nsu M = nsu S + 1 := c2
  have e7 : M 7 = S 7 := keep 7 (by decide)
  refine ⟨?g_m, ?g_k, ?g_z, ?g_n, ?g_p, h.s.cg (keep 7 (by decide)) (keep 9 (by decide)), ?g_pd, ?g_d, h.l.cg (keep 7 (by decide)) (keep 11 (by decide)), h.pl.cg (keep 61 (by decide)) (keep 22 (by decide)), ?g_o, h.t.cg (keep 51 (by decide)), h.td.cg (keep 1 (by decide)), ?g_st, h.g.cg (keep 60 (by decide)) (keep 24 (by decide)) (keep 26 (by decide)) (keep 23 (by decide)), h.a.cg (keep 62 (by decide)) (keep 54 (by decide)) (keep 52 (by decide)), h.b.cg (keep 21 (by decide)), ?g_am⟩
  case g_m =>
    have hm := h.m
    refine ⟨?m7, ?_, ?_, cnt_m c1 (by omega) (by decide), ?_, ?_, ?_, ?_, ?_, ?_, ?_, ?_, ?_, ?_⟩
    case m7 => show M 7 0 = nI (ix (M 7 0)) ∧ ix (M 7 0) ≤ 8; rw [keep 7 (by decide)]; exact hm.1
    · show M 15 0 = nI (ix (M 15 0)) ∧ ix (M 15 0) ≤ 40
      rw [keep 15 (by decide)]; exact hm.2.1
    · show M 23 0 = nI (ix (M 23 0)) ∧ ix (M 23 0) ≤ 20
      rw [keep 23 (by decide)]; exact hm.2.2.1
    · show M 42 0 = nI (ix (M 42 0)) ∧ ix (M 42 0) ≤ 40
      rw [keep 42 (by decide)]; exact hm.2.2.2.2.1
    · rw [keep 16 (by decide)]; exact hm.2.2.2.2.2.1
    · rw [keep 24 (by decide)]; exact hm.2.2.2.2.2.2.1
    · rw [keep 25 (by decide)]; exact hm.2.2.2.2.2.2.2.1
    · rw [e29]; exact upd_all (P := fun x => vp_in x 8) hm.2.2.2.2.2.2.2.2.1 ht _
    · rw [e30]; exact upd_all (P := fun x => vp_in x 6) hm.2.2.2.2.2.2.2.2.2.1 hf _
    · show ∀ i, i < ix (M 7 0) → ¬ M 11 i = 0
      rw [keep 7 (by decide), keep 11 (by decide)]; exact hm.2.2.2.2.2.2.2.2.2.2.1
    · rw [keep 14 (by decide)]; exact hm.2.2.2.2.2.2.2.2.2.2.2.1
    · rw [keep 35 (by decide)]; exact hm.2.2.2.2.2.2.2.2.2.2.2.2.1
    · rw [keep 54 (by decide)]; exact hm.2.2.2.2.2.2.2.2.2.2.2.2.2
  case g_k =>
    refine ⟨fun q => ?_, cnt_m (r := 64) d1 (by omega) (by decide)⟩
    show M 67 q = nI (ix (M 67 q)) ∧ ix (M 67 q) ≤ 41
    rw [e67]
    by_cases e : q = nsu S
    · rw [e, upd_at]; decide
    · rw [upd_off e]; exact h.k.1 q
  case g_z =>
    refine ⟨?_, fun i hi => ?_⟩
    · show ∀ i, ix (M 7 0) ≤ i → M 12 i = 0 ∧ M 13 i = -1 ∧ M 14 i = 0 ∧ M 61 i = 0
      rw [keep 7 (by decide), keep 12 (by decide), keep 13 (by decide), keep 14 (by decide), keep 61 (by decide)]
      exact h.z.1
    · have hi2 : nsu S + 1 ≤ i := c2 ▸ hi
      rw [keep 34 (by decide), keep 35 (by decide), keep 37 (by decide), keep 38 (by decide), keep 39 (by decide), keep 40 (by decide), keep 41 (by decide)]
      exact h.z.2 i (by omega)
  case g_n =>
    intro q
    show ix (M 67 q) ≤ 1 + ix (M 42 0)
    rw [e67, keep 42 (by decide)]
    by_cases e : q = nsu S
    · rw [e, upd_at]; exact Nat.le_add_right 1 _
    · rw [upd_off e]; exact h.n q
  case g_p =>
    intro q hq
    have hq2 : q < nsu S + 1 := c2 ▸ hq
    have ha : ∀ m, acnt M q m = acnt S q m := acnt_congr (keep 43 (by decide)) q
    unfold PK npp nam
    simp only [ha]
    rw [e67, keep 42 (by decide), e65, e66, e31, e33, keep 43 (by decide), keep 44 (by decide), keep 45 (by decide), e32]
    by_cases e : q = nsu S
    · subst e
      have z : ∀ i, i < nam S → ¬ S 43 i = nI (nsu S) := fun i hi q2 => by
        obtain ⟨m, hm, em⟩ := h.am i hi
        rw [em, nI_eq (by omega) (by omega)] at q2
        omega
      rw [acnt_zero _ z]
      refine ⟨by rw [upd_at]; rfl, by rw [upd_at, upd_at], by rw [upd_at, upd_at], fun i hi q2 => absurd q2 (z i hi), fun j hj => ?_, ?_⟩
      · rw [upd_at] at hj
        have hj0 : j = 0 := by
          have : j < 1 := hj
          omega
        rw [hj0, Nat.add_zero, upd_at, upd_at]
        exact sub16_refl hs
      · rw [upd_at (S 67)]
        show upd (S 65) (64 * nsu S) set (64 * nsu S + 0) = _
        rw [Nat.add_zero, upd_at, upd_at]
    · have hP := h.p q (by omega)
      have hb := h.k.b67 q
      have hn0 : 0 < npp S q := by rw [hP.1]; omega
      rw [upd_off (f := S 67) e, upd_off (f := S 31) e, upd_off (f := S 32) e, upd_off (f := S 33) e]
      have off65 : ∀ j, j < npp S q → upd (S 65) (64 * nsu S) set (64 * q + j) = S 65 (64 * q + j) := fun j hj => upd_off (by omega)
      have off66 : ∀ j, j < npp S q → upd (S 66) (64 * nsu S) (S 1 0) (64 * q + j) = S 66 (64 * q + j) := fun j hj => upd_off (by omega)
      refine ⟨hP.1, ?_, ?_, fun i hi q2 => ?_, fun j hj => ?_, ?_⟩
      · exact (off65 0 hn0).trans hP.2.1
      · exact (off66 0 hn0).trans hP.2.2.1
      · have hj : 1 + acnt S q i < npp S q := by
          have hm := acnt_mono S q (i + 1) (nam S - (i + 1))
          rw [show i + 1 + (nam S - (i + 1)) = nam S by have : i < nam S := hi; omega] at hm
          have hs2 : acnt S q (i + 1) = acnt S q i + (if S 43 i = nI q then 1 else 0) := rfl
          rw [if_pos q2] at hs2
          rw [hP.1]
          omega
        rw [off65 _ hj, off66 _ hj]
        exact hP.2.2.2.1 i hi q2
      · rw [off65 j hj]
        exact hP.2.2.2.2.1 j hj
      · exact (off65 (npp S q - 1) (by omega)).trans hP.2.2.2.2.2
  case g_pd =>
    have hpd : npd M = d' := by show ix (M 64 0) = d'; rw [d1]; exact nI_clamp (by omega)
    refine ⟨?_, ?_, fun q hq j hj => ?_⟩
    · rw [hpd, keep 1 (by decide)]; exact d4
    · rw [hpd, c2]
      show d' ≤ nsu S + 1 + ix (M 42 0)
      rw [keep 42 (by decide)]
      have h2 : npd S ≤ nsu S + ix (S 42 0) := h.pd.2.1
      omega
    · have hq2 : q < nsu S + 1 := c2 ▸ hq
      rw [hpd, e66]
      have hj2 : j < ix (M 67 q) := hj
      rw [e67] at hj2
      by_cases e : q = nsu S
      · subst e
        rw [upd_at] at hj2
        have hj0 : j = 0 := by
          have : j < 1 := hj2
          omega
        rw [hj0, Nat.add_zero, upd_at]
        exact d6
      · rw [upd_off e] at hj2
        have hb := h.k.b67 q
        have hj3 : j < npp S q := hj2
        rw [upd_off (by omega)]
        obtain ⟨i, hi, ei⟩ := h.pd.2.2 q (by omega) j hj2
        exact ⟨i, by omega, (d5 i hi).trans ei⟩
  case g_d =>
    refine ⟨fun q hq j hj => ?_, ?_, ?_⟩
    · have hq2 : q < nsu S + 1 := c2 ▸ hq
      have hj2 : j < ix (M 67 q) := hj
      rw [e67] at hj2
      rw [e66]
      by_cases e : q = nsu S
      · subst e
        rw [upd_at] at hj2
        have hj0 : j = 0 := by
          have : j < 1 := hj2
          omega
        rw [hj0, Nat.add_zero, upd_at]
        exact h.td
      · rw [upd_off e] at hj2
        have hb := h.k.b67 q
        have hj3 : j < npp S q := hj2
        rw [upd_off (by omega)]
        exact h.d.1 q (by omega) j hj2
    · show ∀ c, c < ix (M 15 0) → dayR (M 18 c)
      rw [keep 15 (by decide), keep 18 (by decide)]; exact h.d.2.1
    · show ∀ c, c < ix (M 15 0) → ix (M 16 c) < ix (M 7 0)
      rw [keep 15 (by decide), keep 16 (by decide), keep 7 (by decide)]; exact h.d.2.2
  case g_o =>
    intro q hq
    have hq2 : q < nsu S + 1 := c2 ▸ hq
    rw [e36, keep 37 (by decide)]
    by_cases e : q = nsu S
    · rw [e, upd_at]
      obtain ⟨n, hn, en⟩ := h.td
      exact ⟨n + 60, 0, by omega, by omega, by rw [en, show (60 : Int32) = nI 60 by decide, nI_add], (h.z.2 (nsu S) (Nat.le_refl _)).2.2.1⟩
    · rw [upd_off e]; exact h.o q (by omega)
  case g_st =>
    intro q hq
    have hq2 : q < nsu S + 1 := c2 ▸ hq
    rw [keep 34 (by decide)]
    by_cases e : q = nsu S
    · rw [e]; exact ⟨0, by omega, (h.z.2 (nsu S) (Nat.le_refl _)).1⟩
    · exact h.st q (by omega)
  case g_am =>
    show ∀ i, i < ix (M 42 0) → ∃ n, n < nsu M ∧ M 43 i = nI n
    rw [keep 42 (by decide), keep 43 (by decide), c2]
    intro i hi
    obtain ⟨n, hn, e⟩ := h.am i hi
    exact ⟨n, by omega, e⟩
/-- a state after a suit was amended, by its rows -/
def AMENDED (S M : St) (k : Nat) (v : Int32) : Prop := ∃ d', M 64 0 = nI d' ∧ npd S ≤ d' ∧ d' ≤ npd S + 1 ∧ DL (M 63) d' (S 1 0) ∧ (∀ i, i < npd S → M 63 i = S 63 i) ∧ (∃ i, i < d' ∧ M 63 i = S 1 0) ∧
  (M 42 = upd (S 42) 0 (S 42 0 + 1) ∧ M 32 = upd (S 32) k v ∧ M 43 = upd (S 43) (nam S) (nI k) ∧ M 44 = upd (S 44) (nam S) v ∧ M 45 = upd (S 45) (nam S) (S 1 0) ∧ M 65 = upd (S 65) (64 * k + npp S k) v ∧ M 66 = upd (S 66) (64 * k + npp S k) (S 1 0) ∧ M 67 = upd (S 67) k (S 67 k + 1)) ∧
  ∀ r, ¬ (r = 32 ∨ r = 42 ∨ r = 43 ∨ r = 44 ∨ r = 45 ∨ r = 63 ∨ r = 64 ∨ r = 65 ∨ r = 66 ∨ r = 67) → M r = S r
theorem inv_amended {S M : St} (h : Inv S) {k : Nat} {v : Int32} (hk : k < nsu S) (hn : nam S < 40) (hv : sub16 (S 32 k) v) (hv16 : set16 v) (hb52 : npd S < 52) (hM : AMENDED S M k v) : Inv M := by
  obtain ⟨d', d1, d2, d3, d4, d5, d6, ⟨e42, e32, e43, e44, e45, e65, e66, e67⟩, keep⟩ := hM
  obtain ⟨c1, c2⟩ := cnt_up (S := S) (S' := M) (r := 42) e42 h.m.n42 (by omega)
  have c2 : nam M = nam S + 1 := c2
  have hsu := h.m.b28
  have hpp := h.n k
  have p1 : S 67 k + 1 = nI (npp S k + 1) := by
    have e := h.k.n67 k
    rw [show S 67 k + 1 = nI (npp S k) + nI 1 from congrArg (· + (1 : Int32)) e, nI_add]
  refine ⟨?g_m, ?g_k, h.z.cg (keep 7 (by decide)) (keep 28 (by decide)) (keep 12 (by decide)) (keep 13 (by decide)) (keep 14 (by decide)) (keep 61 (by decide)) (keep 34 (by decide)) (keep 35 (by decide)) (keep 37 (by decide)) (keep 38 (by decide)) (keep 39 (by decide)) (keep 40 (by decide)) (keep 41 (by decide)), ?g_n, ?g_p, h.s.cg (keep 7 (by decide)) (keep 9 (by decide)), ?g_pd, ?g_d, h.l.cg (keep 7 (by decide)) (keep 11 (by decide)), h.pl.cg (keep 61 (by decide)) (keep 22 (by decide)), h.o.cg (keep 28 (by decide)) (keep 36 (by decide)) (keep 37 (by decide)), h.t.cg (keep 51 (by decide)), h.td.cg (keep 1 (by decide)), h.st.cg (keep 28 (by decide)) (keep 34 (by decide)), h.g.cg (keep 60 (by decide)) (keep 24 (by decide)) (keep 26 (by decide)) (keep 23 (by decide)), h.a.cg (keep 62 (by decide)) (keep 54 (by decide)) (keep 52 (by decide)), h.b.cg (keep 21 (by decide)), ?g_am⟩
  case g_m =>
    have hm := h.m
    refine ⟨?m7, ?_, ?_, ?_, cnt_m c1 (by omega) (by decide), ?_, ?_, ?_, ?_, ?_, ?_, ?_, ?_, ?_⟩
    case m7 => show M 7 0 = nI (ix (M 7 0)) ∧ ix (M 7 0) ≤ 8; rw [keep 7 (by decide)]; exact hm.1
    · show M 15 0 = nI (ix (M 15 0)) ∧ ix (M 15 0) ≤ 40
      rw [keep 15 (by decide)]; exact hm.2.1
    · show M 23 0 = nI (ix (M 23 0)) ∧ ix (M 23 0) ≤ 20
      rw [keep 23 (by decide)]; exact hm.2.2.1
    · show M 28 0 = nI (ix (M 28 0)) ∧ ix (M 28 0) ≤ 12
      rw [keep 28 (by decide)]; exact hm.2.2.2.1
    · rw [keep 16 (by decide)]; exact hm.2.2.2.2.2.1
    · rw [keep 24 (by decide)]; exact hm.2.2.2.2.2.2.1
    · rw [keep 25 (by decide)]; exact hm.2.2.2.2.2.2.2.1
    · rw [keep 29 (by decide)]; exact hm.2.2.2.2.2.2.2.2.1
    · rw [keep 30 (by decide)]; exact hm.2.2.2.2.2.2.2.2.2.1
    · show ∀ i, i < ix (M 7 0) → ¬ M 11 i = 0
      rw [keep 7 (by decide), keep 11 (by decide)]; exact hm.2.2.2.2.2.2.2.2.2.2.1
    · rw [keep 14 (by decide)]; exact hm.2.2.2.2.2.2.2.2.2.2.2.1
    · rw [keep 35 (by decide)]; exact hm.2.2.2.2.2.2.2.2.2.2.2.2.1
    · rw [keep 54 (by decide)]; exact hm.2.2.2.2.2.2.2.2.2.2.2.2.2
  case g_k =>
    refine ⟨fun q => ?_, cnt_m (r := 64) d1 (by omega) (by decide)⟩
    show M 67 q = nI (ix (M 67 q)) ∧ ix (M 67 q) ≤ 41
    rw [e67]
    by_cases e : q = k
    · rw [e, upd_at, p1, show ix (nI (npp S k + 1)) = npp S k + 1 from nI_clamp (by omega)]; exact ⟨rfl, by omega⟩
    · rw [upd_off e]; exact h.k.1 q
  case g_n =>
    intro q
    show ix (M 67 q) ≤ 1 + nam M
    rw [e67, c2]
    by_cases e : q = k
    · rw [e, upd_at, p1, show ix (nI (npp S k + 1)) = npp S k + 1 from nI_clamp (by omega)]; have := h.n k; omega
    · rw [upd_off e]; have : ix (S 67 q) ≤ 1 + nam S := h.n q; omega
  case g_p =>
    intro q hq
    have hq2 : q < nsu S := by have : q < ix (M 28 0) := hq; rwa [keep 28 (by decide)] at this
    have hP := h.p q hq2
    have hb := h.k.b67 q
    have hn0 : 0 < npp S q := by rw [hP.1]; omega
    have ha : ∀ m, m ≤ nam S → acnt M q m = acnt S q m := fun m hm => acnt_cg m (fun i hi => by rw [e43, upd_off (by omega)])
    have hlt : ∀ i, i < nam S → S 43 i = nI q → 1 + acnt S q i < npp S q := fun i hi q2 => by
      have hm := acnt_mono S q (i + 1) (nam S - (i + 1))
      rw [show i + 1 + (nam S - (i + 1)) = nam S by omega] at hm
      have hs2 : acnt S q (i + 1) = acnt S q i + (if S 43 i = nI q then 1 else 0) := rfl
      rw [if_pos q2] at hs2
      rw [hP.1]
      omega
    have hN : acnt M q (nam M) = acnt S q (nam S) + (if nI k = nI q then 1 else 0) := by
      rw [c2]
      show acnt M q (nam S) + (if M 43 (nam S) = nI q then 1 else 0) = _
      rw [ha _ (Nat.le_refl _), e43, upd_at]
    unfold PK npp
    rw [hN, e67, e65, e66, keep 31 (by decide), keep 33 (by decide), e44, e45, e32, c2]
    by_cases e : q = k
    · subst e
      rw [if_pos rfl, upd_at, upd_at, p1, show ix (nI (npp S q + 1)) = npp S q + 1 from nI_clamp (by omega)]
      have off65 : ∀ j, j < npp S q → upd (S 65) (64 * q + npp S q) v (64 * q + j) = S 65 (64 * q + j) := fun j hj => upd_off (by omega)
      have off66 : ∀ j, j < npp S q → upd (S 66) (64 * q + npp S q) (S 1 0) (64 * q + j) = S 66 (64 * q + j) := fun j hj => upd_off (by omega)
      refine ⟨by rw [hP.1]; omega, (off65 0 hn0).trans hP.2.1, (off66 0 hn0).trans hP.2.2.1, fun i hi q2 => ?_, fun j hj => ?_, ?_⟩
      · rcases Nat.lt_or_ge i (nam S) with hi2 | hi2
        · have q3 : S 43 i = nI q := by rw [e43, upd_off (by omega)] at q2; exact q2
          rw [ha i (by omega), off65 _ (hlt i hi2 q3), off66 _ (hlt i hi2 q3), upd_off (by omega), upd_off (by omega)]
          exact hP.2.2.2.1 i hi2 q3
        · have hi3 : i = nam S := by omega
          rw [hi3, ha _ (Nat.le_refl _), ← hP.1, upd_at, upd_at, upd_at, upd_at]
          exact ⟨rfl, rfl⟩
      · rcases Nat.lt_or_ge j (npp S q) with hj2 | hj2
        · rw [off65 j hj2]
          exact sub16_trans (hP.2.2.2.2.1 j hj2) hv
        · rw [show j = npp S q by omega, upd_at]
          exact sub16_refl hv16
      · rw [show npp S q + 1 - 1 = npp S q by omega, upd_at]
    · rw [if_neg (fun x => e ((nI_eq (by omega) (by omega)).mp x).symm), Nat.add_zero, upd_off (f := S 67) e, upd_off (f := S 32) e]
      have off65 : ∀ j, j < npp S q → upd (S 65) (64 * k + npp S k) v (64 * q + j) = S 65 (64 * q + j) := fun j hj => upd_off (by omega)
      have off66 : ∀ j, j < npp S q → upd (S 66) (64 * k + npp S k) (S 1 0) (64 * q + j) = S 66 (64 * q + j) := fun j hj => upd_off (by omega)
      refine ⟨hP.1, (off65 0 hn0).trans hP.2.1, (off66 0 hn0).trans hP.2.2.1, fun i hi q2 => ?_, fun j hj => ?_, (off65 (npp S q - 1) (by omega)).trans hP.2.2.2.2.2⟩
      · rcases Nat.lt_or_ge i (nam S) with hi2 | hi2
        · have q3 : S 43 i = nI q := by rw [e43, upd_off (by omega)] at q2; exact q2
          rw [ha i (by omega), off65 _ (hlt i hi2 q3), off66 _ (hlt i hi2 q3), upd_off (by omega), upd_off (by omega)]
          exact hP.2.2.2.1 i hi2 q3
        · have hi3 : i = nam S := by omega
          rw [e43, hi3, upd_at] at q2
          exact absurd ((nI_eq (by omega) (by omega)).mp q2).symm e
      · rw [off65 j hj]
        exact hP.2.2.2.2.1 j hj
  case g_pd =>
    have hpd : npd M = d' := by show ix (M 64 0) = d'; rw [d1]; exact nI_clamp (by omega)
    refine ⟨?_, ?_, fun q hq j hj => ?_⟩
    · rw [hpd, keep 1 (by decide)]; exact d4
    · rw [hpd, c2]
      show d' ≤ ix (M 28 0) + (nam S + 1)
      rw [keep 28 (by decide)]
      have := h.pd.2.1
      show d' ≤ nsu S + (nam S + 1)
      omega
    · have hq2 : q < nsu S := by have : q < ix (M 28 0) := hq; rwa [keep 28 (by decide)] at this
      rw [hpd, e66]
      have hb := h.k.b67 q
      have hj2 : j < ix (M 67 q) := hj
      rw [e67] at hj2
      have old : j < npp S q → ∃ i, i < d' ∧ M 63 i = S 66 (64 * q + j) := fun hj3 => by
        obtain ⟨i, hi, ei⟩ := h.pd.2.2 q hq2 j hj3
        exact ⟨i, by omega, (d5 i hi).trans ei⟩
      by_cases e : q = k
      · subst e
        rw [upd_at, p1, show ix (nI (npp S q + 1)) = npp S q + 1 from nI_clamp (by omega)] at hj2
        rcases Nat.lt_or_ge j (npp S q) with hj3 | hj3
        · rw [upd_off (by omega)]; exact old hj3
        · rw [show j = npp S q by omega, upd_at]; exact d6
      · rw [upd_off e] at hj2
        have hj3 : j < npp S q := hj2
        rw [upd_off (by omega)]; exact old hj3
  case g_d =>
    refine ⟨fun q hq j hj => ?_, ?_, ?_⟩
    · have hq2 : q < nsu S := by have : q < ix (M 28 0) := hq; rwa [keep 28 (by decide)] at this
      have hb := h.k.b67 q
      have hj2 : j < ix (M 67 q) := hj
      rw [e67] at hj2
      rw [e66]
      by_cases e : q = k
      · subst e
        rw [upd_at, p1, show ix (nI (npp S q + 1)) = npp S q + 1 from nI_clamp (by omega)] at hj2
        rcases Nat.lt_or_ge j (npp S q) with hj3 | hj3
        · rw [upd_off (by omega)]; exact h.d.1 q hq2 j hj3
        · rw [show j = npp S q by omega, upd_at]; exact h.td
      · rw [upd_off e] at hj2
        have hj3 : j < npp S q := hj2
        rw [upd_off (by omega)]; exact h.d.1 q hq2 j hj3
    · show ∀ c, c < ix (M 15 0) → dayR (M 18 c)
      rw [keep 15 (by decide), keep 18 (by decide)]; exact h.d.2.1
    · show ∀ c, c < ix (M 15 0) → ix (M 16 c) < ix (M 7 0)
      rw [keep 15 (by decide), keep 16 (by decide), keep 7 (by decide)]; exact h.d.2.2
  case g_am =>
    intro i hi
    rw [c2] at hi
    rw [e43]
    show ∃ n, n < ix (M 28 0) ∧ _
    rw [keep 28 (by decide)]
    by_cases e : i = nam S
    · rw [e, upd_at]; exact ⟨k, hk, rfl⟩
    · rw [upd_off e]; exact h.am i (by omega)
theorem kv_file {S : St} (h : Inv S) {t f set : Int32} (hn : nsu S < 12) (ht : vp_in t 8) (hf : vp_in f 6) (hs : set16 set) : Inv (mrg (up (up (up (up (up (up (up S 29 (nsu S) t) 30 (nsu S) f) 31 (nsu S) set) 32 (nsu S) set) 33 (nsu S) (S 1 0)) 36 (nsu S) ((S 1 0) + 60)) 28 0 ((S 28 0) + 1)) (fX7_notePaperDay (up (up (up (up (up (up (up (up (up (up S 29 (nsu S) t) 30 (nsu S) f) 31 (nsu S) set) 32 (nsu S) set) 33 (nsu S) (S 1 0)) 36 (nsu S) ((S 1 0) + 60)) 65 (64 * (nsu S)) set) 66 (64 * (nsu S)) (S 1 0)) 67 (nsu S) 1) 28 0 ((S 28 0) + 1)))) := by
  have hb : npd S < 52 := by have := h.pd.2.1; have := h.m.b42; omega
  obtain ⟨d', d1, d2, d3, d4, d5, d6⟩ := note_day (X := up (up (up (up (up (up (up (up (up (up S 29 (nsu S) t) 30 (nsu S) f) 31 (nsu S) set) 32 (nsu S) set) 33 (nsu S) (S 1 0)) 36 (nsu S) ((S 1 0) + 60)) 65 (64 * (nsu S)) set) 66 (64 * (nsu S)) (S 1 0)) 67 (nsu S) 1) 28 0 ((S 28 0) + 1)) (d := npd S) h.pd.1 h.k.n64 hb h.td
  refine inv_filed h hn ht hf hs hb ⟨d', d1, d2, d3, d4, d5, d6, ⟨rfl, rfl, rfl, rfl, rfl, rfl, rfl, note_ne (by decide) (by decide), note_ne (by decide) (by decide), note_ne (by decide) (by decide)⟩, fun r hr => ?_⟩
  simp only [not_or] at hr
  obtain ⟨h28, h29, h30, h31, h32, h33, h36, h63, h64, h65, h66, h67⟩ := hr
  unfold mrg
  split
  · rw [up_ne h28, up_ne h36, up_ne h33, up_ne h32, up_ne h31, up_ne h30, up_ne h29]
  · rw [note_ne h63 h64, up_ne h28, up_ne h67, up_ne h66, up_ne h65, up_ne h36, up_ne h33, up_ne h32, up_ne h31, up_ne h30, up_ne h29]
theorem kv_amend {S : St} (h : Inv S) {k : Nat} {v x : Int32} (hk : k < nsu S) (hn : nam S < 40) (hx : x = nI k) (hv : sub16 (S 32 k) v) (hv16 : set16 v) : Inv (mrg (up (up (up (up (up S 32 k v) 43 (nam S) x) 44 (nam S) v) 45 (nam S) (S 1 0)) 42 0 ((S 42 0) + 1)) (fX7_notePaperDay (up (up (up (up (up S 32 k v) 65 (64 * k + npp S k) v) 66 (64 * k + npp S k) (S 1 0)) 67 k ((S 67 k) + 1)) 42 0 ((S 42 0) + 1)))) := by
  have hb : npd S < 52 := by have := h.pd.2.1; have := h.m.b28; omega
  subst hx
  obtain ⟨d', d1, d2, d3, d4, d5, d6⟩ := note_day (X := up (up (up (up (up S 32 k v) 65 (64 * k + npp S k) v) 66 (64 * k + npp S k) (S 1 0)) 67 k ((S 67 k) + 1)) 42 0 ((S 42 0) + 1)) (d := npd S) h.pd.1 h.k.n64 hb h.td
  refine inv_amended h hk hn hv hv16 hb ⟨d', d1, d2, d3, d4, d5, d6, ⟨rfl, rfl, rfl, rfl, rfl, note_ne (by decide) (by decide), note_ne (by decide) (by decide), note_ne (by decide) (by decide)⟩, fun r hr => ?_⟩
  simp only [not_or] at hr
  obtain ⟨h32, h42, h43, h44, h45, h63, h64, h65, h66, h67⟩ := hr
  unfold mrg
  split
  · rw [up_ne h42, up_ne h45, up_ne h44, up_ne h43, up_ne h32]
  · rw [note_ne h63 h64, up_ne h42, up_ne h67, up_ne h66, up_ne h65, up_ne h32]
