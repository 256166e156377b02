/-! the checks of the reference and of the class -/
theorem in_R (v a b : Int32) : ¬ fX8_in v a b = 0 ↔ okR v a b := by
  unfold fX8_in okR
  by_cases h1 : v < a
  · simp [h1]
  · by_cases h2 : b < v
    · simp [h1, h2]
    · simp [h1, h2]
theorem in_I {v b n : Int32} (h : b.toInt = n.toInt - 1) : ¬ fX8_in v 0 b = 0 ↔ okI v n := by
  rw [in_R]
  unfold okR okI
  constructor
  · rintro ⟨h1, h2⟩
    refine ⟨h1, ?_⟩
    rw [Int32.lt_iff_toInt_lt] at h2 ⊢
    omega
  · rintro ⟨h1, h2⟩
    refine ⟨h1, ?_⟩
    rw [Int32.lt_iff_toInt_lt] at h2 ⊢
    omega
theorem firm_I (f : Int32) : ¬ fX8_isFirm f = 0 ↔ okI f 6 := in_I (by decide)
theorem teller_I (f : Int32) : ¬ fX8_isTeller f = 0 ↔ okI f 8 := in_I (by decide)
theorem suit_I {S : St} (hN : MInv S) (k : Int32) : ¬ fX8_isSuit S k = 0 ↔ okI k (S 28 0) := by
  refine in_I ?_
  have hb := hN.b28
  rw [hN.n28, nI_m1 (by omega), nI_toInt (by omega)]
theorem scheme_I {S : St} (hN : MInv S) (k : Int32) : ¬ fX8_isScheme S k = 0 ↔ okI k (S 7 0) := by
  refine in_I ?_
  have hb := hN.b7
  rw [hN.n7, nI_m1 (by omega), nI_toInt (by omega)]
theorem claim_I {S : St} (hN : MInv S) (k : Int32) : ¬ fX8_in k 0 ((S 15 0) - 1) = 0 ↔ okI k (S 15 0) := by
  refine in_I ?_
  have hb := hN.b15
  rw [hN.n15, nI_m1 (by omega), nI_toInt (by omega)]
/-- what the law's wrapper makes of a thrown exception: the place of its catch -/
def mp3 (c : Int32) : Int32 := c
def mp13 (c : Int32) : Int32 := if c = 3 then 2 else c
def mp23 (c : Int32) : Int32 := if c = 2 then 1 else if c = 3 then 2 else c
/-- rows of the reference that the class does not hold -/
def rOwn (r : Nat) : Prop := r = 22 ∨ r = 43 ∨ r = 44 ∨ r = 45 ∨ r = 52 ∨ r = 54
/-- one answer: thrown alike, the value, the rows -/
def ONE (mp : Int32 → Int32) (x8 x7 : Int32 × Int32 × St) : Prop := x8.2.1 = mp x7.2.1 ∧ (x7.2.1 = 0 → x8.1 = x7.1) ∧ ∀ r j, r < 55 → ¬ rOwn r → x7.2.2 r j = x8.2.2 r j
theorem one_same {mp : Int32 → Int32} {v : Int32} {S : St} (h : mp 0 = 0) : ONE mp (v, 0, S) (v, 0, S) := ⟨h.symm, fun _ => rfl, fun _ _ _ _ => rfl⟩
theorem one_thr {mp : Int32 → Int32} {c d : Int32} {S : St} (h : mp d = c) (hd : ¬ d = 0) : ONE mp (0, c, S) (0, d, S) := ⟨h.symm, fun q => absurd q hd, fun _ _ _ _ => rfl⟩
theorem one_fund (S : St) (f more : Int32) : ONE mp3 (fX8_fund S f more) (fX7_fund S f more) := by
  unfold fX8_fund fX7_fund
  by_cases hf : okI f 6
  · rw [if_pos hf, if_neg ((firm_I f).mpr hf)]
    by_cases hm : okR more 1 1000000
    · rw [if_pos hm, if_neg ((in_R _ _ _).mpr hm)]
      by_cases hs : (100000000 : Int32) < S 2 (ix f) + more
      · rw [if_pos hs, if_neg (Int32.not_le.mpr hs)]
        exact one_thr rfl (by decide)
      · rw [if_neg hs, if_pos (Int32.not_lt.mp hs)]
        exact one_same rfl
    · rw [if_neg hm, if_pos (Decidable.byContradiction fun q => hm ((in_R _ _ _).mp q))]
      exact one_thr rfl (by decide)
  · rw [if_neg hf, if_pos (Decidable.byContradiction fun q => hf ((firm_I f).mp q))]
    exact one_thr rfl (by decide)
