/-! a win, all rows -/
theorem win_eq {S : St} {k : Nat} {paid th : Int32} (hP : PKs S) (hk : k < nsu S) (h9 : SKs S) (hR : DR S) (hb : nsu S ≤ 12) (hb8 : nsc S ≤ 8) (h16 : ∀ c, c < ncl S → vp_in (S 16 c) 8) (hpl : PLN S) (ht : vp_in (S 29 k) 8) : ∀ r j, r < 55 → fX7_win S k paid r j = (fX8_wins S th k paid).2 r j := by
  have hh := hund_eq hP hk h9 hb hb8 hpl ht
  have hpay : fX7_payClaims (up S 41 k (fX8_hundredthsOf S k)) k = paidRow S k := by
    rw [pays_all (X := up S 41 k (fX8_hundredthsOf S k)) (PKs_congr (S := S) (S' := up S 41 k (fX8_hundredthsOf S k)) ⟨⟨rfl, rfl, rfl, rfl, rfl, rfl, rfl, rfl, rfl, rfl⟩, rfl, rfl, rfl, rfl⟩ rfl rfl rfl hP) hk h9 hR hb hb8 h16]
    funext c
    unfold paidRow
    rw [counts_19 (S := S) (S' := up S 41 k (fX8_hundredthsOf S k)) ⟨⟨rfl, rfl, rfl, rfl, rfl, rfl, rfl, rfl, rfl, rfl⟩, rfl, rfl, rfl, rfl⟩ rfl rfl rfl rfl]
    rfl
  intro r j hr
  unfold fX7_win fX8_wins fX7_partShare
  rw [hh, hpay, wins_paid]
  generalize hZ : up (up (up (up (up (up (upr (up S 41 k (fX8_hundredthsOf S k)) 19 (paidRow S k)) 34 k 4) 39 k paid) 40 k (fX7_hundredthsFrom paid (fX8_hundredthsOf S k))) 2 (ix (S 30 k)) ((S 2 (ix (S 30 k))) - paid)) 4 (ix (S 30 k)) ((S 4 (ix (S 30 k))) + paid)) 6 0 ((S 6 0) + (paid - (fX7_hundredthsFrom paid (fX8_hundredthsOf S k)))) = Z
  have hpt : ∀ n, lX7_partShare_7 Z k n = lX8_wins_94 S k paid n := by
    subst hZ
    exact parts_eq rfl rfl rfl rfl rfl rfl (by simp [up_app, upr_app]) rfl
  rw [hpt]
  have e23 : ndl Z = ndl S := by subst hZ; rfl
  have e29 : Z 29 = S 29 := by subst hZ; rfl
  have e46 : Z 46 = S 46 := by subst hZ; rfl
  rw [e23, e29, e46, ← hZ]
  simp only [up_app, upr_app]
  unfold fX7_hundredthsFrom
  by_cases c2 : r = 2
  · subst c2; simp
  · by_cases c4 : r = 4
    · subst c4; simp
    · by_cases c6 : r = 6
      · subst c6; simp
      · by_cases c19 : r = 19
        · subst c19; simp
        · by_cases c34 : r = 34
          · subst c34; simp
          · by_cases c39 : r = 39
            · subst c39; simp
            · by_cases c40 : r = 40
              · subst c40; simp
              · by_cases c41 : r = 41
                · subst c41; simp
                · by_cases c46 : r = 46
                  · subst c46; simp
                  · by_cases c47 : r = 47
                    · subst c47; simp
                    · simp [c2, c4, c6, c19, c34, c39, c40, c41, c46, c47]
