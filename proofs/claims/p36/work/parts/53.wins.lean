/-! a win: one for the class and the reference -/
theorem upr_app (S : St) (k : Nat) (r : Nat → Int32) (k' j : Nat) : upr S k r k' j = if k' = k then r j else S k' j := by
  by_cases h : k' = k
  · subst h; rw [upr_at, if_pos rfl]
  · rw [upr_ne h, if_neg h]
theorem wins_row {S : St} {k : Nat} {much : Int32} : ∀ m, m ≤ ncl S → ∀ c, lX8_wins_207_v2 S k much m c = if c < m ∧ ¬ fX8_counts S c k = 0 then nI k else S 19 c := by
  intro m
  induction m with
  | zero =>
    intro _ c
    rw [if_neg (fun h => absurd h.1 (Nat.not_lt_zero _))]
    rfl
  | succ m ih =>
    intro hm c
    have ihm := ih (by omega)
    have hrow : lX8_wins_207_v2 S k much m m = S 19 m := by rw [ihm m, if_neg (fun h => absurd h.1 (Nat.lt_irrefl _))]
    show iX8_wins_207_v2 S k much m (lX8_wins_207_v2 S k much m) c = _
    unfold iX8_wins_207_v2
    rw [show fX8_counts (upr (up (upr (up (up (up (up (up (up S 41 k (fX8_hundredthsOf S k)) 39 k much) 40 k ((((much.toInt64) * ((fX8_hundredthsOf S k).toInt64)) / (100 : Int64)).toInt32)) 2 (ix (S 30 k)) ((S 2 (ix (S 30 k))) - much)) 4 (ix (S 30 k)) ((S 4 (ix (S 30 k))) + much)) 6 0 ((S 6 0) + (much - ((((much.toInt64) * ((fX8_hundredthsOf S k).toInt64)) / (100 : Int64)).toInt32)))) 47 ((lX8_wins_94 S k much (ndl S)).2)) 46 (ix (S 29 k)) ((S 46 (ix (S 29 k))) + ((lX8_wins_94 S k much (ndl S)).1))) 19 (lX8_wins_207_v2 S k much m)) m k = fX8_counts S m k from counts_19 (S := S) (S' := (upr (up (upr (up (up (up (up (up (up S 41 k (fX8_hundredthsOf S k)) 39 k much) 40 k ((((much.toInt64) * ((fX8_hundredthsOf S k).toInt64)) / (100 : Int64)).toInt32)) 2 (ix (S 30 k)) ((S 2 (ix (S 30 k))) - much)) 4 (ix (S 30 k)) ((S 4 (ix (S 30 k))) + much)) 6 0 ((S 6 0) + (much - ((((much.toInt64) * ((fX8_hundredthsOf S k).toInt64)) / (100 : Int64)).toInt32)))) 47 ((lX8_wins_94 S k much (ndl S)).2)) 46 (ix (S 29 k)) ((S 46 (ix (S 29 k))) + ((lX8_wins_94 S k much (ndl S)).1))) 19 (lX8_wins_207_v2 S k much m))) ⟨⟨rfl, rfl, rfl, rfl, rfl, rfl, rfl, rfl, rfl, rfl⟩, rfl, rfl, rfl, rfl⟩ rfl rfl rfl hrow]
    by_cases hc : fX8_counts S m k = 0
    · rw [if_pos hc]
      by_cases hcm : c = m
      · subst hcm
        rw [if_neg (fun h => h.2 hc)]
        exact (if_pos rfl).trans hrow
      · rw [show upd (lX8_wins_207_v2 S k much m) m (lX8_wins_207_v2 S k much m m) c = lX8_wins_207_v2 S k much m c from if_neg hcm, ihm c]
        by_cases hq : c < m ∧ ¬ fX8_counts S c k = 0
        · rw [if_pos hq, if_pos ⟨by omega, hq.2⟩]
        · rw [if_neg hq, if_neg (fun h => hq ⟨by omega, h.2⟩)]
    · rw [if_neg hc]
      by_cases hcm : c = m
      · subst hcm
        rw [if_pos ⟨Nat.lt_succ_self _, hc⟩]
        exact if_pos rfl
      · rw [show upd (lX8_wins_207_v2 S k much m) m (nI k) c = lX8_wins_207_v2 S k much m c from if_neg hcm, ihm c]
        by_cases hq : c < m ∧ ¬ fX8_counts S c k = 0
        · rw [if_pos hq, if_pos ⟨by omega, hq.2⟩]
        · rw [if_neg hq, if_neg (fun h => hq ⟨by omega, h.2⟩)]
theorem wins_paid {S : St} {k : Nat} {much : Int32} : lX8_wins_207_v2 S k much (ncl S) = paidRow S k := by
  funext c
  rw [wins_row (ncl S) (Nat.le_refl _) c]
  rfl
theorem parts_eq {S Z : St} {k : Nat} {much : Int32} (h24 : Z 24 = S 24) (h25 : Z 25 = S 25) (h26 : Z 26 = S 26) (h27 : Z 27 = S 27) (h29 : Z 29 = S 29) (h33 : Z 33 = S 33) (h40 : Z 40 k = fX7_hundredthsFrom much (fX8_hundredthsOf S k)) (h47 : Z 47 = S 47) : ∀ n, lX7_partShare_7 Z k n = lX8_wins_94 S k much n := by
  intro n
  induction n with
  | zero =>
    show (Z 40 k, Z 47) = _
    rw [h40, h47]
    rfl
  | succ n ih =>
    show iX7_partShare_7 Z k n (lX7_partShare_7 Z k n).1 (lX7_partShare_7 Z k n).2 = iX8_wins_94 S k much n (lX8_wins_94 S k much n).1 (lX8_wins_94 S k much n).2
    rw [ih]
    unfold iX7_partShare_7 iX8_wins_94
    rw [h24, h25, h26, h27, h29, h33, h40]
    rfl
