/-! answers of the class and of the reference, call by call (2) -/
def L16 (S : St) : Prop := ∀ t, t < 8 → set16 (S 21 t)
theorem set16_or {x y : Int32} (hx : set16 x) (hy : set16 y) : set16 (x ||| y) := by
  obtain ⟨m, hm, rfl⟩ := hx
  obtain ⟨n, hn, rfl⟩ := hy
  exact ⟨m ||| n, Nat.or_lt_two_pow (n := 16) hm hn, nI_or m n⟩
theorem set16_shl {f : Int32} (h : okI f 16) : set16 (1 <<< (f &&& 31)) := by
  have l := okI_l (N := 16) h (by decide) (by decide)
  rw [okI_e h, shl1 _ l]
  exact ⟨2 ^ ix f, Nat.pow_lt_pow_right (by decide) l, rfl⟩
theorem set16_R {x : Int32} (h : okR x 1 65535) : set16 x := by
  obtain ⟨j, hj, rfl⟩ := nI_of (x := x) (fun q => h.1 (Int32.lt_trans q (by decide)))
  refine ⟨j, ?_, rfl⟩
  have h2 : ¬ nI 65535 < nI j := h.2
  rw [Int32.lt_iff_toInt_lt, nI_toInt (by decide), nI_toInt hj] at h2
  omega
theorem fbc_set {x : Int32} (h : set16 x) : fbc x = fX8_bits x := by
  obtain ⟨n, hn, rfl⟩ := h
  exact fbc_bits hn
theorem rows_ne {S : St} {k1 k2 : Nat} {i1 i2 : Nat} {v1 v2 : Int32} (h1 : 55 ≤ k1) (h2 : rOwn k2) : ∀ r j, r < 55 → ¬ rOwn r → up S k1 i1 v1 r j = up S k2 i2 v2 r j := by
  intro r j hr hn
  rw [up_ne (show r ≠ k1 by omega), up_ne (show r ≠ k2 from fun q => hn (by rw [q]; exact h2))]
theorem in_nR {v a b : Int32} (h : ¬ okR v a b) : fX8_in v a b = 0 := Decidable.byContradiction fun q => h ((in_R _ _ _).mp q)
theorem okR_n {v b : Int32} {N : Nat} (h : okR v 0 b) (hb : b = nI N) (hN : N < 2 ^ 31) : ∃ n, n ≤ N ∧ v = nI n := by
  obtain ⟨j, hj, rfl⟩ := nI_of (x := v) h.1
  refine ⟨j, ?_, rfl⟩
  have h2 := h.2
  rw [hb, Int32.lt_iff_toInt_lt, nI_toInt hN, nI_toInt hj] at h2
  omega
theorem one_eq {x8 x7 : Int32 × Int32 × St} (h : x8 = x7) : ONE mp3 x8 x7 := by
  subst h
  exact ⟨rfl, fun _ => rfl, fun _ _ _ _ => rfl⟩
theorem one_learn (S : St) (hN : MInv S) (h16 : L16 S) (t fact : Int32) : ONE mp3 (fX8_learn S t fact) (fX7_learn S t fact) := by
  unfold fX8_learn fX7_learn
  by_cases h0 : okI t 8
  · rw [if_pos h0, if_neg ((teller_I t).mpr h0)]
    by_cases h1 : okI fact 16
    · rw [if_pos h1, if_neg ((in_I (n := 16) (by decide)).mpr h1)]
      rw [fbc_set (set16_or (h16 _ (okI_l (N := 8) h0 (by decide) (by decide))) (set16_shl h1))]
      exact one_same rfl
    · rw [if_neg h1, if_pos (Decidable.byContradiction fun q => h1 ((in_I (n := 16) (by decide)).mp q))]
      exact one_thr rfl (by decide)
  · rw [if_neg h0, if_pos (Decidable.byContradiction fun q => h0 ((teller_I t).mp q))]
    exact one_thr rfl (by decide)
theorem one_publish (S : St) (hN : MInv S) (fact : Int32) : ONE mp3 (fX8_publish S fact) (fX7_publish S fact) := by
  unfold fX8_publish fX7_publish
  by_cases h0 : okI fact 16
  · rw [if_pos h0, if_neg ((in_I (n := 16) (by decide)).mpr h0)]
    by_cases h20 : S 20 (ix fact) = -1
    · rw [if_pos h20, if_pos h20, public_bits]
      exact one_same rfl
    · rw [if_neg h20, if_neg h20, up_same rfl, public_bits]
      exact one_same rfl
  · rw [if_neg h0, if_pos (Decidable.byContradiction fun q => h0 ((in_I (n := 16) (by decide)).mp q))]
    exact one_thr rfl (by decide)
theorem one_plan (S : St) (hN : MInv S) (hpl : PLN S) (t s_ : Int32) : ONE mp3 (fX8_plan S t s_) (fX7_plan S t s_) := by
  unfold fX8_plan fX7_plan
  by_cases h0 : okI t 8
  · rw [if_pos h0, if_neg ((teller_I t).mpr h0)]
    by_cases h1 : okI s_ (S 7 0)
    · rw [if_pos h1, if_neg ((scheme_I hN s_).mpr h1)]
      have e := hpl _ (Nat.lt_of_lt_of_le (okI_l h1 hN.n7 (by have := hN.b7; omega)) hN.b7) _ (okI_l (N := 8) h0 (by decide) (by decide))
      rw [← okI_e h0, ← okI_e h1] at e
      by_cases hp : fX4_isPlannedBy S (ix s_) t = 0
      · rw [if_neg (e.mp hp), hp]
        exact ⟨rfl, fun _ => rfl, fun r j hr hn => (rows_ne (by decide) (Or.inl rfl) r j hr hn)⟩
      · rw [if_pos (Decidable.byContradiction fun q => hp (e.mpr q)), show fX4_isPlannedBy S (ix s_) t = 1 by unfold fX4_isPlannedBy at hp ⊢; split at hp; exact absurd rfl hp; rename_i hq; exact if_neg hq]
        exact ⟨rfl, fun _ => rfl, fun r j hr hn => (rows_ne (by decide) (Or.inl rfl) r j hr hn)⟩
    · rw [if_neg h1, if_pos (Decidable.byContradiction fun q => h1 ((scheme_I hN s_).mp q))]
      exact one_thr rfl (by decide)
  · rw [if_neg h0, if_pos (Decidable.byContradiction fun q => h0 ((teller_I t).mp q))]
    exact one_thr rfl (by decide)
theorem one_sees (S : St) (hN : MInv S) (t k : Int32) : ONE mp3 (fX8_sees S t k) (fX7_sees S t k) := by
  unfold fX8_sees fX7_sees
  by_cases h0 : okI t 8
  · rw [if_pos h0, if_neg ((teller_I t).mpr h0)]
    by_cases h1 : okI k (S 28 0)
    · rw [if_pos h1, if_neg ((suit_I hN k).mpr h1)]
      rw [show fX5_isSealedOn S (ix k) (S 1 0) = fX8_isSealed S (ix k) from rfl]
      exact one_eq rfl
    · rw [if_neg h1, if_pos (Decidable.byContradiction fun q => h1 ((suit_I hN k).mp q))]
      exact one_thr rfl (by decide)
  · rw [if_neg h0, if_pos (Decidable.byContradiction fun q => h0 ((teller_I t).mp q))]
    exact one_thr rfl (by decide)
theorem one_ofSuit (S : St) (h : WH S) (hN : MInv S) (k what : Int32) : ONE mp3 (fX8_ofSuit S k what) (fX7_ofSuit S k what) := by
  unfold fX8_ofSuit fX7_ofSuit
  by_cases h0 : okI k (S 28 0)
  · rw [if_pos h0, if_neg ((suit_I hN k).mpr h0)]
    by_cases hw : okR what 0 9
    · rw [if_neg ((in_R _ _ _).mpr hw)]
      by_cases w0 : what = 0
      · rw [if_pos w0, if_pos w0]
        exact one_same rfl
      · rw [if_neg w0, if_neg w0]
        by_cases w1 : what = 1
        · rw [if_pos w1, if_pos w1]
          exact one_same rfl
        · rw [if_neg w1, if_neg w1]
          by_cases w2 : what = 2
          · rw [if_pos w2, if_pos w2]
            exact one_same rfl
          · rw [if_neg w2, if_neg w2]
            by_cases w3 : what = 3
            · rw [if_pos w3, if_pos w3]
              exact one_same rfl
            · rw [if_neg w3, if_neg w3]
              by_cases w4 : what = 4
              · rw [if_pos w4, if_pos w4]
                exact one_same rfl
              · rw [if_neg w4, if_neg w4]
                by_cases w5 : what = 5
                · rw [if_pos w5, if_pos w5]
                  exact one_same rfl
                · rw [if_neg w5, if_neg w5]
                  by_cases w6 : what = 6
                  · rw [if_pos w6, if_pos w6]
                    exact one_same rfl
                  · rw [if_neg w6, if_neg w6]
                    by_cases w7 : what = 7
                    · rw [if_pos w7, if_pos w7]
                      exact one_same rfl
                    · rw [if_neg w7, if_neg w7]
                      by_cases w8 : what = 8
                      · rw [if_pos w8, if_pos w8]
                        exact one_same rfl
                      · rw [if_neg w8, if_neg w8]
                        have wl : what = 9 := by
                          obtain ⟨m, hm, rfl⟩ := okR_n hw (show (9 : Int32) = nI 9 by decide) (by decide)
                          have hm2 : m < 10 := by omega
                          match m, hm2 with
                          | 0, _ => exact absurd rfl w0
                          | 1, _ => exact absurd rfl w1
                          | 2, _ => exact absurd rfl w2
                          | 3, _ => exact absurd rfl w3
                          | 4, _ => exact absurd rfl w4
                          | 5, _ => exact absurd rfl w5
                          | 6, _ => exact absurd rfl w6
                          | 7, _ => exact absurd rfl w7
                          | 8, _ => exact absurd rfl w8
                          | 9, _ => rfl
                          | q + 10, h => omega
                        rw [if_pos wl]
                        rw [hund_eq h.2.1 (okI_l h0 hN.n28 (by have := hN.b28; omega)) h.2.2.1 hN.b28 hN.b7 h.2.2.2.2.2.1 (hN.v29 _)]
                        exact one_same rfl
    · rw [if_pos (in_nR hw), if_neg (fun q : what = 0 => hw (by rw [q]; decide)), if_neg (fun q : what = 1 => hw (by rw [q]; decide)), if_neg (fun q : what = 2 => hw (by rw [q]; decide)), if_neg (fun q : what = 3 => hw (by rw [q]; decide)), if_neg (fun q : what = 4 => hw (by rw [q]; decide)), if_neg (fun q : what = 5 => hw (by rw [q]; decide)), if_neg (fun q : what = 6 => hw (by rw [q]; decide)), if_neg (fun q : what = 7 => hw (by rw [q]; decide)), if_neg (fun q : what = 8 => hw (by rw [q]; decide)), if_neg (fun q : what = 9 => hw (by rw [q]; decide))]
      exact one_thr rfl (by decide)
  · rw [if_neg h0, if_pos (Decidable.byContradiction fun q => h0 ((suit_I hN k).mp q))]
    exact one_thr rfl (by decide)
theorem one_ofClaim (S : St) (hN : MInv S) (c_ what : Int32) : ONE mp3 (fX8_ofClaim S c_ what) (fX7_ofClaim S c_ what) := by
  unfold fX8_ofClaim fX7_ofClaim
  by_cases h0 : okI c_ (S 15 0)
  · rw [if_pos h0, if_neg ((claim_I hN c_).mpr h0)]
    by_cases hw : okR what 0 3
    · rw [if_neg ((in_R _ _ _).mpr hw)]
      by_cases w0 : what = 0
      · rw [if_pos w0, if_pos w0]
        exact one_same rfl
      · rw [if_neg w0, if_neg w0]
        by_cases w1 : what = 1
        · rw [if_pos w1, if_pos w1]
          exact one_same rfl
        · rw [if_neg w1, if_neg w1]
          by_cases w2 : what = 2
          · rw [if_pos w2, if_pos w2]
            exact one_same rfl
          · rw [if_neg w2, if_neg w2]
            have wl : what = 3 := by
              obtain ⟨m, hm, rfl⟩ := okR_n hw (show (3 : Int32) = nI 3 by decide) (by decide)
              have hm2 : m < 4 := by omega
              match m, hm2 with
              | 0, _ => exact absurd rfl w0
              | 1, _ => exact absurd rfl w1
              | 2, _ => exact absurd rfl w2
              | 3, _ => rfl
              | q + 4, h => omega
            rw [if_pos wl]
            exact one_same rfl
    · rw [if_pos (in_nR hw), if_neg (fun q : what = 0 => hw (by rw [q]; decide)), if_neg (fun q : what = 1 => hw (by rw [q]; decide)), if_neg (fun q : what = 2 => hw (by rw [q]; decide)), if_neg (fun q : what = 3 => hw (by rw [q]; decide))]
      exact one_thr rfl (by decide)
  · rw [if_neg h0, if_pos (Decidable.byContradiction fun q => h0 ((claim_I hN c_).mp q))]
    exact one_thr rfl (by decide)
theorem one_got (S : St) (hN : MInv S) (t what : Int32) : ONE mp3 (fX8_got S t what) (fX7_got S t what) := by
  unfold fX8_got fX7_got
  by_cases h0 : okI t 8
  · rw [if_pos h0, if_neg ((teller_I t).mpr h0)]
    by_cases hw : okR what 0 2
    · rw [if_neg ((in_R _ _ _).mpr hw)]
      by_cases w0 : what = 0
      · rw [if_pos w0, if_pos w0]
        exact one_same rfl
      · rw [if_neg w0, if_neg w0]
        by_cases w1 : what = 1
        · rw [if_pos w1, if_pos w1]
          exact one_same rfl
        · rw [if_neg w1, if_neg w1]
          have wl : what = 2 := by
            obtain ⟨m, hm, rfl⟩ := okR_n hw (show (2 : Int32) = nI 2 by decide) (by decide)
            have hm2 : m < 3 := by omega
            match m, hm2 with
            | 0, _ => exact absurd rfl w0
            | 1, _ => exact absurd rfl w1
            | 2, _ => rfl
            | q + 3, h => omega
          rw [if_pos wl]
          exact one_same rfl
    · rw [if_pos (in_nR hw), if_neg (fun q : what = 0 => hw (by rw [q]; decide)), if_neg (fun q : what = 1 => hw (by rw [q]; decide)), if_neg (fun q : what = 2 => hw (by rw [q]; decide))]
      exact one_thr rfl (by decide)
  · rw [if_neg h0, if_pos (Decidable.byContradiction fun q => h0 ((teller_I t).mp q))]
    exact one_thr rfl (by decide)
theorem one_ofFirm (S : St) (hN : MInv S) (f what : Int32) : ONE mp3 (fX8_ofFirm S f what) (fX7_ofFirm S f what) := by
  unfold fX8_ofFirm fX7_ofFirm
  by_cases h0 : okI f 6
  · rw [if_pos h0, if_neg ((firm_I f).mpr h0)]
    by_cases hw : okR what 0 3
    · rw [if_neg ((in_R _ _ _).mpr hw)]
      by_cases w0 : what = 0
      · rw [if_pos w0, if_pos w0]
        exact one_same rfl
      · rw [if_neg w0, if_neg w0]
        by_cases w1 : what = 1
        · rw [if_pos w1, if_pos w1]
          exact one_same rfl
        · rw [if_neg w1, if_neg w1]
          by_cases w2 : what = 2
          · rw [if_pos w2, if_pos w2]
            exact one_same rfl
          · rw [if_neg w2, if_neg w2]
            have wl : what = 3 := by
              obtain ⟨m, hm, rfl⟩ := okR_n hw (show (3 : Int32) = nI 3 by decide) (by decide)
              have hm2 : m < 4 := by omega
              match m, hm2 with
              | 0, _ => exact absurd rfl w0
              | 1, _ => exact absurd rfl w1
              | 2, _ => exact absurd rfl w2
              | 3, _ => rfl
              | q + 4, h => omega
            rw [if_pos wl]
            exact one_same rfl
    · rw [if_pos (in_nR hw), if_neg (fun q : what = 0 => hw (by rw [q]; decide)), if_neg (fun q : what = 1 => hw (by rw [q]; decide)), if_neg (fun q : what = 2 => hw (by rw [q]; decide)), if_neg (fun q : what = 3 => hw (by rw [q]; decide))]
      exact one_thr rfl (by decide)
  · rw [if_neg h0, if_pos (Decidable.byContradiction fun q => h0 ((firm_I f).mp q))]
    exact one_thr rfl (by decide)
theorem sealed_eq (S : St) : fX7_sealedSuits S = lX8_all_31 S (nsu S) := by
  have key : ∀ n, lX7_sealedSuits_4 S n = lX8_all_31 S n := by
    intro n
    induction n with
    | zero => rfl
    | succ n ih =>
      show iX7_sealedSuits_4 S n (lX7_sealedSuits_4 S n) = iX8_all_31 S n (lX8_all_31 S n)
      rw [ih]
      unfold iX7_sealedSuits_4 iX8_all_31
      rw [show fX5_isSealedOn S n (S 1 0) = fX8_isSealed S n from rfl, Int32.add_zero]
  exact key _
theorem one_all (S : St) (hN : MInv S) (what : Int32) : ONE mp3 (fX8_all S what) (fX7_all S what) := by
  unfold fX8_all fX7_all
  by_cases hw : okR what 0 3
  · rw [if_neg ((in_R _ _ _).mpr hw)]
    by_cases w0 : what = 0
    · rw [if_pos w0, if_pos w0]
      exact one_same rfl
    · rw [if_neg w0, if_neg w0]
      by_cases w1 : what = 1
      · rw [if_pos w1, if_pos w1]
        exact one_same rfl
      · rw [if_neg w1, if_neg w1]
        by_cases w2 : what = 2
        · rw [if_pos w2, if_pos w2]
          rw [public_bits]
          exact one_same rfl
        · rw [if_neg w2, if_neg w2]
          have wl : what = 3 := by
            obtain ⟨m, hm, rfl⟩ := okR_n hw (show (3 : Int32) = nI 3 by decide) (by decide)
            have hm2 : m < 4 := by omega
            match m, hm2 with
            | 0, _ => exact absurd rfl w0
            | 1, _ => exact absurd rfl w1
            | 2, _ => exact absurd rfl w2
            | 3, _ => rfl
            | q + 4, h => omega
          rw [if_pos wl]
          rw [sealed_eq]
          exact one_same rfl
  · rw [if_pos (in_nR hw), if_neg (fun q : what = 0 => hw (by rw [q]; decide)), if_neg (fun q : what = 1 => hw (by rw [q]; decide)), if_neg (fun q : what = 2 => hw (by rw [q]; decide)), if_neg (fun q : what = 3 => hw (by rw [q]; decide))]
    exact one_thr rfl (by decide)
