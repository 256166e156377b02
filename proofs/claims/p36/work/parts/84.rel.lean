/-! the law's rows L against the bench's state S -/
def RQ (S L : St) : Prop := L 11 0 = S 1 0 ∧ L 11 1 = S 7 0 ∧ L 11 2 = S 15 0 ∧ L 11 3 = S 23 0 ∧ L 11 4 = S 28 0 ∧ L 11 5 = S 42 0 ∧ L 11 6 = S 6 0
def RH (S L : St) : Prop := ∀ a, a < 8 → L 0 (8 * a) = S 8 a ∧ L 0 (8 * a + 1) = S 9 a ∧ L 0 (8 * a + 2) = S 10 a ∧ L 0 (8 * a + 3) = S 11 a ∧ L 0 (8 * a + 4) = S 12 a ∧ L 0 (8 * a + 5) = S 13 a + 1 ∧ L 0 (8 * a + 6) = S 14 a
def HR (S : St) : Prop := ∀ a, a < nsc S → (∃ f, f < 3 ∧ S 8 a = nI f) ∧ (∃ x, 0 < x ∧ x < 256 ∧ S 9 a = nI x) ∧ (∃ y, y ≤ 2 ∧ S 10 a = nI y) ∧ (∃ n m, 0 < n ∧ n ≤ 20 ∧ m ≤ n ∧ S 11 a = nI n ∧ S 12 a = nI m) ∧ (S 13 a = -1 ∨ dayR (S 13 a))
def RC (S L : St) : Prop := (∀ i, i < ncl S → ∃ a m d, a < nsc S ∧ m ≤ 9999 ∧ d ≤ 3000 ∧ S 16 i = nI a ∧ S 17 i = nI m ∧ S 18 i = nI d ∧ L 1 i = nI (a + 8 * m + 131072 * d) ∧ L 2 i = S 19 i + 1 ∧ (S 19 i = -1 ∨ ∃ k, k < 8 ∧ S 19 i = nI k)) ∧ ∀ i, ncl S ≤ i → L 1 i = 0 ∧ L 2 i = 0
def RPB (S L : St) : Prop := (∀ b, b < 8 → L 3 b = S 20 b + 1 ∧ (S 20 b = -1 ∨ dayR (S 20 b))) ∧ (∀ b, 8 ≤ b → b < 16 → S 20 b = -1) ∧ ∀ b, b < 8 → S 20 b = -1 ∨ ¬ S 1 0 < S 20 b
def RT (S L : St) : Prop := ∀ t, t < 5 → L 4 (8 * t) = S 21 t ∧ L 4 (8 * t + 1) = S 22 t ∧ L 4 (8 * t + 2) = S 49 t + 1 ∧ L 4 (8 * t + 3) = S 50 t ∧ L 4 (8 * t + 4) = S 46 t ∧ L 4 (8 * t + 5) = S 47 t ∧ L 4 (8 * t + 6) = S 48 t ∧ (∃ x, x < 256 ∧ S 21 t = nI x) ∧ (S 49 t = -1 ∨ ∃ f, f < 3 ∧ S 49 t = nI f) ∧ ∃ w, w < 1000 ∧ S 50 t = nI w
def RD (S L : St) : Prop := (∀ i, i < ndl S → ∃ a b p d, a < 5 ∧ b < 5 ∧ p ≤ 40 ∧ d ≤ 3000 ∧ S 24 i = nI a ∧ S 25 i = nI b ∧ S 26 i = nI p ∧ S 27 i = nI d ∧ L 5 i = nI (a + 8 * b + 64 * p + 8192 * d)) ∧ ∀ i, ndl S ≤ i → L 5 i = 0
def RU (S L : St) : Prop := ∀ k, k < 8 → L 6 (8 * k) = S 29 k ∧ L 6 (8 * k + 1) = S 30 k ∧ L 6 (8 * k + 2) = S 33 k ∧ L 6 (8 * k + 3) = S 34 k ∧ L 6 (8 * k + 4) = S 36 k ∧ L 6 (8 * k + 5) = 8 * S 37 k + S 35 k ∧ L 6 (8 * k + 6) = S 38 k ∧ L 6 (8 * k + 7) = S 41 k ∧ L 8 k = S 39 k ∧ L 8 (8 + k) = S 40 k
def UR (S : St) : Prop := nsu S ≤ 8 ∧ (∀ k, k < 8 → (∃ t, t < 5 ∧ S 29 k = nI t) ∧ ∃ f, f < 3 ∧ S 30 k = nI f) ∧ ∀ k, k < nsu S → dayR (S 33 k) ∧ ∃ h, h ≤ 10 ∧ S 38 k = nI h
def RM (M : Nat) (S L : St) : Prop := (∀ f, f < 3 → L 9 (4 * f) = S 2 f ∧ L 9 (4 * f + 1) = S 3 f ∧ L 9 (4 * f + 2) = S 4 f ∧ L 9 (4 * f + 3) = S 5 f ∧ ∃ n, n ≤ M ∧ S 2 f = nI n) ∧ S 2 3 = 0 ∧ S 3 3 = 0 ∧ S 4 3 = 0 ∧ S 5 3 = 0
def RR (S L : St) : Prop := ∀ f, f < 3 → ∀ t, t < 5 → L 10 (4 * (5 * f + t)) = S 51 (8 * f + t) + 1 ∧ L 10 (4 * (5 * f + t) + 3) = S 54 (8 * f + t) ∧ (¬ S 54 (8 * f + t) = 0 → L 10 (4 * (5 * f + t) + 1) = S 52 (8 * f + t) ∧ L 10 (4 * (5 * f + t) + 2) = S 53 (8 * f + t) ∧ (∃ w, w < 1000 ∧ S 53 (8 * f + t) = nI w) ∧ ¬ S 1 0 < S 52 (8 * f + t))
/-- a suit's papers: the facts and the day of each -/
def PPs (S : St) (k : Nat) (pf pd : Nat → Nat) : Prop := 0 < npp S k ∧ (∀ j, j < npp S k → S 65 (64 * k + j) = nI (pf j) ∧ pf j < 256 ∧ S 66 (64 * k + j) = nI (pd j) ∧ pd j ≤ 3000) ∧ (∀ i j, i ≤ j → j < npp S k → pd i ≤ pd j ∧ ∀ b, (pf i).testBit b = true → (pf j).testBit b = true) ∧ S 31 k = nI (pf 0) ∧ S 33 k = nI (pd 0) ∧ S 32 k = nI (pf (npp S k - 1)) ∧ ∃ T, S 1 0 = nI T ∧ T ≤ 3000 ∧ pd (npp S k - 1) ≤ T
/-- the day since which a suit has a fact -/
def PEb (n : Nat) (pf pd : Nat → Nat) (b : Nat) (x : Int32) : Prop := ((∀ j, j < n → (pf j).testBit b = false) ∧ x = 0) ∨ ∃ j, j < n ∧ (pf j).testBit b = true ∧ (∀ i, i < j → (pf i).testBit b = false) ∧ x = nI (pd j + 1 + (if j = 0 then 4096 else 0))
def RE (S L : St) : Prop := ∀ k, k < nsu S → ∃ pf pd, PPs S k pf pd ∧ ∀ b, b < 8 → PEb (npp S k) pf pd b (L 7 (8 * k + b))
def REL (M : Nat) (S L : St) : Prop := RQ S L ∧ RH S L ∧ HR S ∧ RC S L ∧ RPB S L ∧ RT S L ∧ RD S L ∧ RU S L ∧ UR S ∧ RM M S L ∧ RR S L ∧ RE S L
theorem REL.q {M : Nat} {S L : St} (h : REL M S L) : RQ S L := h.1
theorem REL.h {M : Nat} {S L : St} (h : REL M S L) : RH S L := h.2.1
theorem REL.hr {M : Nat} {S L : St} (h : REL M S L) : HR S := h.2.2.1
theorem REL.c {M : Nat} {S L : St} (h : REL M S L) : RC S L := h.2.2.2.1
theorem REL.b {M : Nat} {S L : St} (h : REL M S L) : RPB S L := h.2.2.2.2.1
theorem REL.t {M : Nat} {S L : St} (h : REL M S L) : RT S L := h.2.2.2.2.2.1
theorem REL.d {M : Nat} {S L : St} (h : REL M S L) : RD S L := h.2.2.2.2.2.2.1
theorem REL.u {M : Nat} {S L : St} (h : REL M S L) : RU S L := h.2.2.2.2.2.2.2.1
theorem REL.ur {M : Nat} {S L : St} (h : REL M S L) : UR S := h.2.2.2.2.2.2.2.2.1
theorem REL.m {M : Nat} {S L : St} (h : REL M S L) : RM M S L := h.2.2.2.2.2.2.2.2.2.1
theorem REL.r {M : Nat} {S L : St} (h : REL M S L) : RR S L := h.2.2.2.2.2.2.2.2.2.2.1
theorem REL.e {M : Nat} {S L : St} (h : REL M S L) : RE S L := h.2.2.2.2.2.2.2.2.2.2.2
/-- a number of the law's rows, taken apart -/
theorem nx_rem {n : Nat} (d : Nat) (hn : n < 2 ^ 31) (h0 : 0 < d) (hd : d < 2 ^ 31) {c : Int32} (hc : c = nI d) : nI n - nI n / c * c = nI (n % d) := by
  subst hc
  exact pk_rem hn h0 hd
theorem nx_div {n : Nat} (d : Nat) (hn : n < 2 ^ 31) (h0 : 0 < d) (hd : d < 2 ^ 31) {c : Int32} (hc : c = nI d) : nI n / c = nI (n / d) := by
  subst hc
  exact pk_div hn h0 hd
theorem REL.v {M : Nat} {S L : St} (h : REL M S L) (hN : MInv S) : LV L := by
  obtain ⟨-, e1, e2, e3, e4, -, -⟩ := h.q
  have hs8 := h.ur.1
  refine ⟨?_, ?_, ?_, ?_, ?_, ?_, ?_, ?_⟩
  · unfold q1; rw [e1]; exact ⟨hN.n7, hN.b7⟩
  · unfold q2; rw [e2]; exact ⟨hN.n15, hN.b15⟩
  · unfold q3; rw [e3]; exact ⟨hN.n23, hN.b23⟩
  · unfold q4; rw [e4]; exact ⟨hN.n28, hs8⟩
  · intro k hk
    obtain ⟨u0, u1, -⟩ := h.u k hk
    obtain ⟨⟨t, ht, et⟩, ⟨f, hf, ef⟩⟩ := h.ur.2.1 k hk
    rw [u0, u1, et, ef]
    exact ⟨vp_in_nI ht (by decide), vp_in_nI hf (by decide)⟩
  · intro i
    rcases Nat.lt_or_ge i (ncl S) with hi | hi
    · obtain ⟨a, m, d, ha, hm, hd, -, -, -, e, -⟩ := h.c.1 i hi
      have hb7 := hN.b7
      rw [e, nx_rem 8 (by omega) (by decide) (by decide) (by decide)]
      exact vp_in_nI (by omega) (by decide)
    · rw [(h.c.2 i hi).1]
      exact vp_in_nI (n := 0) (by decide) (by decide)
  · intro i
    rcases Nat.lt_or_ge i (ndl S) with hi | hi
    · obtain ⟨a, b, p, d, ha, hb, hp, hd, -, -, -, -, e⟩ := h.d.1 i hi
      rw [e, nx_div 8 (by omega) (by decide) (by decide) (by decide), nx_rem 8 (by omega) (by decide) (by decide) (by decide)]
      exact vp_in_nI (by omega) (by decide)
    · rw [h.d.2 i hi]
      exact vp_in_nI (n := 0) (by decide) (by decide)
  · intro a ha
    have ha2 : a < nsc S := by unfold q1 at ha; rw [e1] at ha; exact ha
    have hb7 := hN.b7
    obtain ⟨-, -, -, e, -⟩ := h.h a (by omega)
    obtain ⟨-, -, -, ⟨n, m, h0, hn, -, en, -⟩, -⟩ := h.hr a ha2
    rw [e, en]
    exact nI_ne0 h0 (by omega)
theorem REL.q1e {M : Nat} {S L : St} (h : REL M S L) : q1 L = nsc S := congrArg ix h.q.2.1
theorem REL.q2e {M : Nat} {S L : St} (h : REL M S L) : q2 L = ncl S := congrArg ix h.q.2.2.1
theorem REL.q3e {M : Nat} {S L : St} (h : REL M S L) : q3 L = ndl S := congrArg ix h.q.2.2.2.1
theorem REL.q4e {M : Nat} {S L : St} (h : REL M S L) : q4 L = nsu S := congrArg ix h.q.2.2.2.2.1
