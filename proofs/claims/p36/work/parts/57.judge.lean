/-! judge -/
theorem wins_39 (S : St) (th : Int32) (k : Nat) (p : Int32) : (fX8_wins S th k p).2 39 k = p := by
  unfold fX8_wins
  simp [up_app, upr_app]
theorem wins_40 (S : St) (th : Int32) (k : Nat) (p : Int32) : (fX8_wins S th k p).1 = th := rfl
def WH (S : St) : Prop := MInv S ∧ PKs S ∧ SKs S ∧ DR S ∧ LK S ∧ PLN S ∧ STT S
theorem WH.win {S : St} (h : WH S) {k : Nat} (hk : k < nsu S) (p th : Int32) : ∀ r j, r < 55 → fX7_win S k p r j = (fX8_wins S th k p).2 r j :=
  win_eq h.2.1 hk h.2.2.1 h.2.2.2.1 h.1.b28 h.1.b7 (fun c _ => h.1.v16 c) h.2.2.2.2.2.1 (h.1.v29 k)
theorem WH.due {S : St} (h : WH S) {k : Nat} (hk : k < nsu S) : fX7_dueBy S k = fX8_dues S k :=
  dues_eq h.2.1 hk h.2.2.1 h.2.2.2.1 h.2.2.2.2.1 h.1.b28 h.1.b7 (h.2.2.2.2.2.2 k hk)
theorem min_two (a b : Int32) : (if a < b then a else b) = (if a ≤ b then a else b) := by
  by_cases h : a < b
  · rw [if_pos h, if_pos (Int32.le_of_lt h)]
  · rw [if_neg h]
    by_cases h2 : a ≤ b
    · rw [if_pos h2]
      exact (Int32.le_antisymm h2 (Int32.not_lt.mp h)).symm
    · rw [if_neg h2]
theorem one_judge (S : St) (h : WH S) (k : Int32) : ONE mp13 (fX8_judge S k) (fX7_judge S k) := by
  unfold fX8_judge fX7_judge bX8_judge_86 jX8_judge_86 fX5_isReady
  by_cases h0 : okI k (S 28 0)
  · rw [if_pos h0, if_neg ((suit_I h.1 k).mpr h0)]
    have hk := okI_l h0 h.1.n28 (by have := h.1.b28; omega)
    rw [h.due hk, min_two]
    by_cases h1 : S 34 (ix k) = 1
    · rw [if_pos h1, if_pos h1, if_pos (show ¬ (1 : Int32) = 0 by decide)]
      exact ⟨rfl, fun _ => ((h.win hk _ 0 39 (ix k) (by decide)).trans (wins_39 _ _ _ _)).symm, fun r j hr _ => h.win hk _ 0 r j hr⟩
    · rw [if_neg h1, if_neg h1]
      by_cases h2 : S 34 (ix k) = 2
      · rw [if_pos h2, if_pos h2, if_pos (show ¬ (1 : Int32) = 0 by decide)]
        exact ⟨rfl, fun _ => ((h.win hk _ 0 39 (ix k) (by decide)).trans (wins_39 _ _ _ _)).symm, fun r j hr _ => h.win hk _ 0 r j hr⟩
      · rw [if_neg h2, if_neg h2, if_neg (show ¬ ¬ (0 : Int32) = 0 by decide)]
        exact one_thr rfl (by decide)
  · rw [if_neg h0, if_pos (Decidable.byContradiction fun q => h0 ((suit_I h.1 k).mp q))]
    exact one_thr rfl (by decide)
