/-! from when a firm knows: one for the class and the reference, but that none is -1 here and 9999 there -/
def TR (x8 x7 : Int32) : Prop := (x7 = -1 ∧ x8 = 9999) ∨ (x7 = x8 ∧ ∃ n, n < 9999 ∧ x7 = nI n)
theorem place_ix {f t : Nat} (hf : f < 6) (ht : t < 8) : ix (fX8_place (nI f) (nI t)) = 8 * f + t := by
  rw [place_nI]
  exact nI_clamp (by omega)
theorem place_ix2 {f t : Int32} (hf : okI f 6) (ht : okI t 8) : ix (fX8_place f t) = 8 * ix f + ix t := by
  have e1 := okI_e hf
  have e2 := okI_e ht
  have l1 := okI_l (N := 6) hf (by decide) (by decide)
  have l2 := okI_l (N := 8) ht (by decide) (by decide)
  have := place_ix l1 l2
  rwa [← e1, ← e2] at this
/-- the days that tellings look at -/
def OPN (S : St) : Prop := ∀ k, k < nsu S → ∃ n, n < 9999 ∧ S 36 k = nI n
def TLD (S : St) : Prop := ∀ q, q < 48 → S 51 q = -1 ∨ dayR (S 51 q)
theorem tells_rel {S : St} {f t : Int32} (hf : okI f 6) (ht : okI t 8) (hO : OPN S) (hT : TLD S) : TR (fX8_tellsFrom S (ix f) (ix t)) (fX7_dayOfKnowing S f t) := by
  have e1 := okI_e hf
  have e2 := okI_e ht
  have l1 := okI_l (N := 6) hf (by decide) (by decide)
  have l2 := okI_l (N := 8) ht (by decide) (by decide)
  have h0 : TR (jX8_tellsFrom_30 S (ix f) (ix t)) (lX7_dayOfKnowing_14 S f t 0) := by
    show TR (jX8_tellsFrom_30 S (ix f) (ix t)) (S 51 (8 * (ix f) + (ix t)))
    unfold jX8_tellsFrom_30
    rw [place_ix l1 l2]
    rcases hT (8 * ix f + ix t) (by omega) with h | ⟨n, hn, h⟩
    · rw [if_pos h]
      exact Or.inl ⟨h, rfl⟩
    · rw [if_neg (by rw [h]; exact nI_ne1 (by omega))]
      exact Or.inr ⟨rfl, n, by omega, h⟩
  have key : ∀ n, n ≤ nsu S → TR (lX8_tellsFrom_34 S (ix f) (ix t) (jX8_tellsFrom_30 S (ix f) (ix t)) n) (lX7_dayOfKnowing_14 S f t n) := by
    intro n
    induction n with
    | zero => exact fun _ => h0
    | succ n ih =>
      intro hn
      have hx := ih (by omega)
      show TR (iX8_tellsFrom_34 S (ix f) (ix t) n (lX8_tellsFrom_34 S (ix f) (ix t) (jX8_tellsFrom_30 S (ix f) (ix t)) n)) (iX7_dayOfKnowing_14 S f t n (lX7_dayOfKnowing_14 S f t n))
      generalize lX8_tellsFrom_34 S (ix f) (ix t) (jX8_tellsFrom_30 S (ix f) (ix t)) n = x8 at hx ⊢
      generalize lX7_dayOfKnowing_14 S f t n = x7 at hx ⊢
      unfold iX8_tellsFrom_34 iX7_dayOfKnowing_14
      rw [← e1, ← e2]
      obtain ⟨o, ho, eo⟩ := hO n (by omega)
      by_cases h29 : S 29 n = t
      · rw [if_pos h29, if_pos h29]
        by_cases h30 : S 30 n = f
        · rw [if_pos h30, if_pos h30]
          rcases hx with ⟨a7, a8⟩ | ⟨a7, m, hm, em⟩
          · rw [if_pos a7, a8, eo, if_neg (show ¬ (9999 : Int32) ≤ nI o from fun q => absurd (Int32.le_iff_toInt_le.mp q) (by rw [nI_toInt (by omega), show (9999 : Int32).toInt = 9999 by decide]; omega))]
            exact Or.inr ⟨rfl, o, ho, rfl⟩
          · subst a7
            rw [if_neg (show ¬ x7 = -1 by rw [em]; exact nI_ne1 (by omega))]
            by_cases hle : x7 ≤ S 36 n
            · rw [if_pos hle]
              exact Or.inr ⟨rfl, m, hm, em⟩
            · rw [if_neg hle]
              exact Or.inr ⟨rfl, o, ho, eo⟩
        · rw [if_neg h30, if_neg h30]
          exact hx
      · rw [if_neg h29, if_neg h29]
        exact hx
  exact key (nsu S) (Nat.le_refl _)
theorem would_eq {S : St} {f t : Int32} (hf : okI f 6) (ht : okI t 8) (hO : OPN S) (hT : TLD S) (hd : dayR (S 1 0)) : fX7_wouldFireForTelling S f t = (if (S 1 0) < (fX8_tellsFrom S (ix f) (ix t)) then 0 else (if 90 < ((S 1 0) - (fX8_tellsFrom S (ix f) (ix t))) then 0 else 1)) := by
  obtain ⟨n, hn, e⟩ := hd
  unfold fX7_wouldFireForTelling
  rcases tells_rel hf ht hO hT with ⟨a7, a8⟩ | ⟨a7, m, hm, em⟩
  · rw [if_pos a7, a8, if_pos]
    rw [e, show (9999 : Int32) = nI 9999 by decide]
    exact nI_lt (by omega) (by decide)
  · rw [if_neg (by rw [em]; exact nI_ne1 (by omega)), ← a7]
/-- a telling that has a day: one -/
theorem tell_eq {S : St} {f t : Int32} (hf : okI f 6) (ht : okI t 8) (hO : OPN S) (hT : TLD S) (h51 : ¬ S 51 (8 * ix f + ix t) = -1) : fX7_dayOfKnowing S f t = fX8_tellsFrom S (ix f) (ix t) := by
  rcases tells_rel hf ht hO hT with ⟨a7, a8⟩ | ⟨a7, _⟩
  · exfalso
    have key : ∀ n, n ≤ nsu S → ¬ lX7_dayOfKnowing_14 S f t n = -1 := by
      intro n
      induction n with
      | zero => exact fun _ => h51
      | succ n ih =>
        intro hn
        have hx := ih (by omega)
        obtain ⟨o, ho, eo⟩ := hO n (by omega)
        have hne : ¬ S 36 n = -1 := by rw [eo]; exact nI_ne1 (by omega)
        show ¬ iX7_dayOfKnowing_14 S f t n (lX7_dayOfKnowing_14 S f t n) = -1
        unfold iX7_dayOfKnowing_14
        repeat' split
        all_goals first | exact hx | exact hne
    exact key (nsu S) (Nat.le_refl _) a7
  · exact a7
