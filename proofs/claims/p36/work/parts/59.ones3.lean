/-! answers of the class and of the reference, call by call (3) -/
theorem admit2 (S : St) (s_ : Int32) (r i : Nat) : rX8_admit_19 S s_ r i 2 = (0, 2, S) := by
  cases r with
  | zero => rw [rX8_admit_19_0, if_neg (by decide)]
  | succ r => rw [rX8_admit_19_s, if_neg (by decide), if_neg (by decide)]
theorem admit_eq {S : St} {s_ : Int32} (hP : PKs S) (h9 : SK S (ix s_)) : ∀ r i, i + r = nsu S → rX8_admit_19 S s_ r i 0 = if rX7_isCoveredInTheOpen_2 S (ix s_) r i = 0 then (S 14 (ix s_), 0, up S 14 (ix s_) 1) else (0, 2, S) := by
  intro r
  induction r with
  | zero =>
    intro i hi
    rw [rX8_admit_19_0, rX7_isCoveredInTheOpen_2_0, if_pos (by decide), if_pos rfl]
  | succ r ih =>
    intro i hi
    rw [rX8_admit_19_s, rX7_isCoveredInTheOpen_2_s, if_pos rfl, cover_eq (hP i (by omega)) h9, show fX5_isSealedOn S i (S 1 0) = fX8_isSealed S i from rfl, admit2, ih (i + 1) (by omega)]
    by_cases h3 : S 34 i = 3
    · rw [if_pos h3, if_pos h3]
      simp only [ite_self]
    · rw [if_neg h3, if_neg h3]
      by_cases hs : fX8_isSealed S i = 0
      · rw [if_pos hs, if_pos hs]
        by_cases hd : fX8_dayOf S i (ix s_) = -1
        · rw [if_pos hd, if_pos hd]
        · rw [if_neg hd, if_neg hd, if_neg (show ¬ (1 : Int32) = 0 by decide)]
      · rw [if_neg hs, if_neg hs, ite_self]
theorem note_ne {S : St} {r : Nat} (h1 : r ≠ 63) (h2 : r ≠ 64) : fX7_notePaperDay S r = S r := by
  unfold fX7_notePaperDay
  repeat' split
  all_goals first | rfl | rw [up_ne h2, up_ne h1]
def gsum (S : St) (t : Int32) : Nat → Int32
  | 0 => 0
  | n + 1 => gsum S t n + (if S 24 n = t then S 26 n else 0)
def GA (S : St) : Prop := ∀ t, t < 8 → S 60 t = gsum S (nI t) (ndl S)
theorem deal_sum (S : St) (t much : Int32) : ∀ n, lX8_deal_57 S t much n = gsum S t n + much := by
  intro n
  induction n with
  | zero => exact (Int32.zero_add much).symm
  | succ n ih =>
    show iX8_deal_57 S t n (lX8_deal_57 S t much n) = (gsum S t n + (if S 24 n = t then S 26 n else 0)) + much
    rw [ih]
    unfold iX8_deal_57
    by_cases h : S 24 n = t
    · rw [if_pos h, if_pos h, Int32.add_assoc, Int32.add_comm much, Int32.add_assoc]
    · rw [if_neg h, if_neg h, Int32.add_zero, Int32.add_zero]
theorem knows_i {S : St} {t : Nat} {x : Int32} : ¬ fX6_knowsAll S t x = 0 ↔ (x &&& ((S 21 t) ^^^ (-1))) = 0 := by
  unfold fX6_knowsAll
  by_cases h : (x &&& ((S 21 t) ^^^ (-1))) = 0
  · simp [h]
  · simp [h]
theorem PK.s32 {S : St} {k : Nat} (h : PK S k) : set16 (S 32 k) := by
  have q := h.2.2.2.2.1 (npp S k - 1) (by rw [h.1]; omega)
  rw [h.2.2.2.2.2] at q
  exact q.l
/-- an award that is open: told alike -/
def AW (S : St) : Prop := ∀ q, q < 48 → S 62 q = (if S 54 q = 0 then -1 else S 52 q) ∧ (¬ S 54 q = 0 → dayR (S 52 q))
theorem AW.i {S : St} (h : AW S) {q : Nat} (hq : q < 48) : S 62 q = -1 ↔ S 54 q = 0 := by
  obtain ⟨e, hd⟩ := h q hq
  by_cases h0 : S 54 q = 0
  · rw [if_pos h0] at e
    exact ⟨fun _ => h0, fun _ => e⟩
  · rw [if_neg h0] at e
    obtain ⟨n, hn, e2⟩ := hd h0
    refine ⟨fun q2 => ?_, fun q2 => absurd q2 h0⟩
    rw [e, e2] at q2
    exact absurd q2 (nI_ne1 (by omega))
theorem OPN_congr {S S' : St} (h28 : S' 28 = S 28) (h36 : S' 36 = S 36) (h : OPN S) : OPN S' := by
  unfold OPN nsu at h ⊢
  rw [h28, h36]
  exact h
theorem one_admit (S : St) (hN : MInv S) (hP : PKs S) (h9 : SKs S) (s_ : Int32) : ONE mp13 (fX8_admit S s_) (fX7_admit S s_) := by
  unfold fX8_admit fX7_admit
  by_cases h0 : okI s_ (S 7 0)
  · rw [if_pos h0, if_neg ((scheme_I hN s_).mpr h0)]
    have hs := h9 _ (okI_l h0 hN.n7 (by have := hN.b7; omega))
    rw [admit_eq hP hs (nsu S) 0 (by omega)]
    unfold fX7_isCoveredInTheOpen
    by_cases ho : rX7_isCoveredInTheOpen_2 S (ix s_) (nsu S) 0 = 0
    · rw [if_pos ho, if_pos ho]
      first | exact one_same rfl | exact one_thr rfl (by decide)
    · rw [if_neg ho, if_neg ho]
      exact one_thr rfl (by decide)
  · rw [if_neg h0, if_pos (Decidable.byContradiction fun q => h0 ((scheme_I hN s_).mp q)), ite_self]
    exact one_thr rfl (by decide)
theorem one_choose (S : St) (hN : MInv S) (hst : STT S) (k what : Int32) : ONE mp3 (fX8_choose S k what) (fX7_choose S k what) := by
  unfold fX8_choose fX7_choose
  by_cases h0 : okI k (S 28 0)
  · rw [if_pos h0, if_neg ((suit_I hN k).mpr h0)]
    by_cases h1 : okR what 1 3
    · rw [if_pos h1, if_neg ((in_R _ _ _).mpr h1)]
      have hk := okI_l h0 hN.n28 (by have := hN.b28; omega)
      rw [over_eq (hst _ hk)]
      have e36 : ∀ a b c d, fX8_isSealed (up (up S 34 a b) 35 c d) (ix k) = fX8_isSealed S (ix k) := fun _ _ _ _ => rfl
      simp only [e36]
      by_cases hs : S 1 0 < S 36 (ix k)
      · have e : ¬ fX8_isSealed S (ix k) = 0 := by unfold fX8_isSealed; rw [if_neg (Int32.not_le.mpr hs)]; decide
        simp only [if_neg e, if_pos hs]
        by_cases ho : fX8_isOver S (ix k) = 0
        · exact one_eq rfl
        · exact one_eq rfl
      · have e : fX8_isSealed S (ix k) = 0 := by unfold fX8_isSealed; rw [if_pos (Int32.not_lt.mp hs)]
        simp only [if_pos e, if_neg hs]
        exact one_eq rfl
    · rw [if_neg h1, if_pos (Decidable.byContradiction fun q => h1 ((in_R _ _ _).mp q))]
      exact one_thr rfl (by decide)
  · rw [if_neg h0, if_pos (Decidable.byContradiction fun q => h0 ((suit_I hN k).mp q))]
    exact one_thr rfl (by decide)
theorem one_deal (S : St) (hN : MInv S) (hG : GA S) (t o_ much : Int32) : ONE mp3 (fX8_deal S t o_ much) (fX7_deal S t o_ much) := by
  unfold fX8_deal fX7_deal
  by_cases h0 : okI t 8
  · rw [if_pos h0, if_neg ((teller_I t).mpr h0)]
    by_cases h1 : okI o_ 8
    · rw [if_pos h1, if_neg ((teller_I o_).mpr h1)]
      by_cases hto : t = o_
      · rw [if_pos hto, if_pos hto]
        first | exact one_same rfl | exact one_thr rfl (by decide)
      · rw [if_neg hto, if_neg hto]
        by_cases h2 : okR much 1 100
        · rw [if_pos h2, if_neg ((in_R _ _ _).mpr h2)]
          by_cases hc : S 23 0 = 20
          · rw [if_pos hc, if_pos ((full_I hN.n23 hN.b23 (by decide) (by decide)).mpr hc)]
            first | exact one_same rfl | exact one_thr rfl (by decide)
          · rw [if_neg hc, if_neg (fun q => hc ((full_I hN.n23 hN.b23 (by decide) (by decide)).mp q)), deal_sum, hG _ (okI_l (N := 8) h0 (by decide) (by decide)), ← okI_e h0]
            by_cases hs : (100 : Int32) < gsum S t (ndl S) + much
            · rw [if_pos hs, if_neg (Int32.not_le.mpr hs)]
              first | exact one_same rfl | exact one_thr rfl (by decide)
            · rw [if_neg hs, if_pos (Int32.not_lt.mp hs)]
              refine ⟨rfl, fun _ => rfl, fun r j hr _ => ?_⟩
              exact congrFun (up_ne (show r ≠ 60 by omega)) j
        · rw [if_neg h2, if_pos (in_nR h2)]
          first | exact one_same rfl | exact one_thr rfl (by decide)
    · rw [if_neg h1, if_pos (Decidable.byContradiction fun q => h1 ((teller_I o_).mp q))]
      exact one_thr rfl (by decide)
  · rw [if_neg h0, if_pos (Decidable.byContradiction fun q => h0 ((teller_I t).mp q))]
    exact one_thr rfl (by decide)
theorem one_file (S : St) (hN : MInv S) (t f set : Int32) : ONE mp3 (fX8_file S t f set) (fX7_file S t f set) := by
  unfold fX8_file fX7_file
  by_cases h0 : okI t 8
  · rw [if_pos h0, if_neg ((teller_I t).mpr h0)]
    by_cases h1 : okI f 6
    · rw [if_pos h1, if_neg ((firm_I f).mpr h1)]
      by_cases h2 : okR set 1 65535
      · rw [if_pos h2, if_neg ((in_R _ _ _).mpr h2)]
        by_cases hs : (set &&& ((S 21 (ix t)) ^^^ (-1))) = 0
        · rw [if_pos hs, if_pos (knows_i.mpr hs)]
          by_cases hc : S 28 0 = 12
          · rw [if_pos hc, if_pos ((full_I hN.n28 hN.b28 (by decide) (by decide)).mpr hc)]
            first | exact one_same rfl | exact one_thr rfl (by decide)
          · rw [if_neg hc, if_neg (fun q => hc ((full_I hN.n28 hN.b28 (by decide) (by decide)).mp q))]
            refine ⟨rfl, fun _ => ?_, fun r j hr hn => ?_⟩
            · rw [note_ne (by decide) (by decide), up_at]
            · dsimp only
              rw [note_ne (by omega) (by omega)]
              have e5 : r ≠ 65 := by omega
              have e6 : r ≠ 66 := by omega
              have e7 : r ≠ 67 := by omega
              simp only [up_app, e5, e6, e7, false_and, if_false]
        · rw [if_neg hs, if_neg (fun q => hs (knows_i.mp q))]
          first | exact one_same rfl | exact one_thr rfl (by decide)
      · rw [if_neg h2, if_pos (Decidable.byContradiction fun q => h2 ((in_R _ _ _).mp q))]
        exact one_thr rfl (by decide)
    · rw [if_neg h1, if_pos (Decidable.byContradiction fun q => h1 ((firm_I f).mp q))]
      exact one_thr rfl (by decide)
  · rw [if_neg h0, if_pos (Decidable.byContradiction fun q => h0 ((teller_I t).mp q))]
    exact one_thr rfl (by decide)
theorem one_amend (S : St) (hN : MInv S) (hst : STT S) (hP : PKs S) (k set : Int32) : ONE mp3 (fX8_amend S k set) (fX7_amend S k set) := by
  unfold fX8_amend fX7_amend
  by_cases h0 : okI k (S 28 0)
  · rw [if_pos h0, if_neg ((suit_I hN k).mpr h0)]
    by_cases h1 : okR set 1 65535
    · rw [if_pos h1, if_neg ((in_R _ _ _).mpr h1)]
      have hk := okI_l h0 hN.n28 (by have := hN.b28; omega)
      rw [over_eq (hst _ hk)]
      by_cases ho : fX8_isOver S (ix k) = 0
      · rw [if_pos ho, if_pos ho]
        by_cases hs : (set &&& ((S 21 (ix (S 29 (ix k)))) ^^^ (-1))) = 0
        · rw [if_pos hs, if_pos (knows_i.mpr hs)]
          by_cases hc : S 42 0 = 40
          · rw [if_pos hc, if_pos ((full_I hN.n42 hN.b42 (by decide) (by decide)).mpr hc)]
            first | exact one_same rfl | exact one_thr rfl (by decide)
          · rw [if_neg hc, if_neg (fun q => hc ((full_I hN.n42 hN.b42 (by decide) (by decide)).mp q))]
            refine ⟨rfl, fun _ => ?_, fun r j hr hn => ?_⟩
            · dsimp only
              rw [note_ne (by decide) (by decide), up_ne (by decide), up_ne (by decide), up_ne (by decide), up_ne (by decide), up_at, fbc_set (set16_or (hP _ hk).s32 (set16_R h1))]
            · dsimp only
              rw [note_ne (by omega) (by omega)]
              have e5 : r ≠ 65 := by omega
              have e6 : r ≠ 66 := by omega
              have e7 : r ≠ 67 := by omega
              have e43 : r ≠ 43 := fun q => hn (Or.inr (Or.inl q))
              have e44 : r ≠ 44 := fun q => hn (Or.inr (Or.inr (Or.inl q)))
              have e45 : r ≠ 45 := fun q => hn (Or.inr (Or.inr (Or.inr (Or.inl q))))
              simp only [up_app, e5, e6, e7, e43, e44, e45, false_and, if_false]
        · rw [if_neg hs, if_neg (fun q => hs (knows_i.mp q))]
          first | exact one_same rfl | exact one_thr rfl (by decide)
      · rw [if_neg ho, if_neg ho]
        first | exact one_same rfl | exact one_thr rfl (by decide)
    · rw [if_neg h1, if_pos (Decidable.byContradiction fun q => h1 ((in_R _ _ _).mp q))]
      exact one_thr rfl (by decide)
  · rw [if_neg h0, if_pos (Decidable.byContradiction fun q => h0 ((suit_I hN k).mp q))]
    exact one_thr rfl (by decide)
theorem one_settle (S : St) (h : WH S) (hN : MInv S) (k sum : Int32) : ONE mp3 (fX8_settle S k sum) (fX7_settle S k sum) := by
  unfold fX8_settle fX7_settle
  by_cases h0 : okI k (S 28 0)
  · rw [if_pos h0, if_neg ((suit_I hN k).mpr h0)]
    by_cases h1 : okR sum 0 100000000
    · rw [if_pos h1, if_neg ((in_R _ _ _).mpr h1)]
      have hk := okI_l h0 hN.n28 (by have := hN.b28; omega)
      unfold fX5_isReady
      rw [h.due hk]
      by_cases g1 : S 34 (ix k) = 1
      · simp only [if_pos g1]
        rw [if_pos (show ¬ (1 : Int32) = 0 by decide), if_neg (show ¬ S 34 (ix k) = 2 by rw [g1]; decide)]
        by_cases hm : S 2 (ix (S 30 (ix k))) < sum
        · rw [if_pos hm, if_pos hm]
          first | exact one_same rfl | exact one_thr rfl (by decide)
        · rw [if_neg hm, if_neg hm]
          exact ⟨rfl, fun _ => (h.win hk _ 0 40 (ix k) (by decide)).symm, fun r j hr _ => h.win hk _ 0 r j hr⟩
      · simp only [if_neg g1]
        by_cases g2 : S 34 (ix k) = 2
        · simp only [if_pos g2]
          rw [if_pos (show ¬ (1 : Int32) = 0 by decide)]
          by_cases hm : S 2 (ix (S 30 (ix k))) < sum
          · rw [if_pos hm, if_pos hm]
            first | exact one_same rfl | exact one_thr rfl (by decide)
          · rw [if_neg hm, if_neg hm]
            by_cases hd : 5 * sum < fX8_dues S (ix k)
            · rw [if_pos hd, if_pos hd]
              first | exact one_same rfl | exact one_thr rfl (by decide)
            · rw [if_neg hd, if_neg hd]
              exact ⟨rfl, fun _ => (h.win hk _ 0 40 (ix k) (by decide)).symm, fun r j hr _ => h.win hk _ 0 r j hr⟩
        · simp only [if_neg g2]
          rw [if_neg (fun q => q trivial)]
          first | exact one_same rfl | exact one_thr rfl (by decide)
    · rw [if_neg h1, if_pos (Decidable.byContradiction fun q => h1 ((in_R _ _ _).mp q))]
      exact one_thr rfl (by decide)
  · rw [if_neg h0, if_pos (Decidable.byContradiction fun q => h0 ((suit_I hN k).mp q))]
    exact one_thr rfl (by decide)
theorem one_tell (S : St) (hN : MInv S) (hO : OPN S) (hT : TLD S) (hd : dayR (S 1 0)) (f t : Int32) : ONE mp3 (fX8_tell S f t) (fX7_tell S f t) := by
  unfold fX8_tell fX7_tell
  by_cases h0 : okI f 6
  · rw [if_pos h0, if_neg ((firm_I f).mpr h0)]
    by_cases h1 : okI t 8
    · rw [if_pos h1, if_neg ((teller_I t).mpr h1)]
      rw [place_ix2 h0 h1]
      have lf := okI_l (N := 6) h0 (by decide) (by decide)
      have lt := okI_l (N := 8) h1 (by decide) (by decide)
      by_cases h51 : S 51 (8 * ix f + ix t) = -1
      · rw [if_pos h51, if_pos h51]
        obtain ⟨n, hn, en⟩ := hd
        have hT2 : TLD (up S 51 (8 * ix f + ix t) (S 1 0)) := by
          intro q hq
          rw [up_app]
          by_cases e : 51 = 51 ∧ q = 8 * ix f + ix t
          · rw [if_pos e]
            exact Or.inr ⟨n, hn, en⟩
          · rw [if_neg e]
            exact hT q hq
        rw [tell_eq (S := up S 51 (8 * ix f + ix t) (S 1 0)) h0 h1 (OPN_congr rfl rfl hO) hT2 (by rw [up_at, en]; exact nI_ne1 (by omega))]
        first | exact one_same rfl | exact one_thr rfl (by decide)
      · rw [if_neg h51, if_neg h51, up_same rfl, tell_eq h0 h1 hO hT h51]
        first | exact one_same rfl | exact one_thr rfl (by decide)
    · rw [if_neg h1, if_pos (Decidable.byContradiction fun q => h1 ((teller_I t).mp q))]
      exact one_thr rfl (by decide)
  · rw [if_neg h0, if_pos (Decidable.byContradiction fun q => h0 ((firm_I f).mp q))]
    exact one_thr rfl (by decide)
theorem one_fire (S : St) (hN : MInv S) (hO : OPN S) (hT : TLD S) (hd : dayR (S 1 0)) (f t : Int32) : ONE mp13 (fX8_fire S f t) (fX7_fire S f t) := by
  unfold fX8_fire fX7_fire
  by_cases h0 : okI f 6
  · rw [if_pos h0, if_neg ((firm_I f).mpr h0)]
    by_cases h1 : okI t 8
    · rw [if_pos h1, if_neg ((teller_I t).mpr h1)]
      rw [place_ix2 h0 h1, would_eq h0 h1 hO hT hd]
      by_cases hw : S 49 (ix t) = f
      · rw [if_pos hw, if_pos hw]
        have rows : ∀ a b c d : Int32, ∀ r j, r < 55 → ¬ rOwn r → (up (up (up S 62 (8 * ix f + ix t) a) 53 (8 * ix f + ix t) (S 50 (ix t))) 49 (ix t) (-1)) r j = (up (up (up (up S 49 (ix t) (-1)) 52 (8 * ix f + ix t) b) 53 (8 * ix f + ix t) (S 50 (ix t))) 54 (8 * ix f + ix t) c) r j := by
          intro a b c d r j hr hn
          have e2 : r ≠ 62 := by omega
          have e52 : r ≠ 52 := fun q => hn (Or.inr (Or.inr (Or.inr (Or.inr (Or.inl q)))))
          have e54 : r ≠ 54 := fun q => hn (Or.inr (Or.inr (Or.inr (Or.inr (Or.inr q)))))
          simp only [up_app, e2, e52, e54, false_and, if_false]
          by_cases q1 : r = 49 ∧ j = ix t
          · rw [if_pos q1, if_neg (fun q => absurd (q1.1.symm.trans q.1) (by decide)), if_pos q1]
          · rw [if_neg q1, if_neg q1]
        by_cases c1 : S 1 0 < fX8_tellsFrom S (ix f) (ix t)
        · rw [if_pos c1, if_pos c1, if_pos rfl]
          exact ⟨rfl, fun _ => rfl, rows _ _ _ 0⟩
        · rw [if_neg c1, if_neg c1]
          by_cases c2 : 90 < S 1 0 - fX8_tellsFrom S (ix f) (ix t)
          · rw [if_pos c2, if_pos c2, if_pos rfl]
            exact ⟨rfl, fun _ => rfl, rows _ _ _ 0⟩
          · rw [if_neg c2, if_neg c2, if_neg (by decide)]
            exact ⟨rfl, fun _ => rfl, rows _ _ _ 0⟩
      · rw [if_neg hw, if_neg hw]
        exact one_thr rfl (by decide)
    · rw [if_neg h1, if_pos (Decidable.byContradiction fun q => h1 ((teller_I t).mp q))]
      exact one_thr rfl (by decide)
  · rw [if_neg h0, if_pos (Decidable.byContradiction fun q => h0 ((firm_I f).mp q))]
    exact one_thr rfl (by decide)
theorem award_rows (S : St) (q f t : Nat) (m : Int32) : ∀ r j, r < 55 → ¬ rOwn r → (up (up (up (up S 62 q (-1)) 2 f (S 2 f - m)) 5 f (S 5 f + m)) 48 t (S 48 t + m)) r j = (up (up (up (up S 54 q 0) 2 f (S 2 f - m)) 5 f (S 5 f + m)) 48 t (S 48 t + m)) r j := by
  intro r j hr hn
  have e2 : r ≠ 62 := by omega
  have e54 : r ≠ 54 := fun q => hn (Or.inr (Or.inr (Or.inr (Or.inr (Or.inr q)))))
  simp only [up_app, e2, e54, false_and, if_false]
theorem two_mul_c (d w : Int32) : 2 * d * w = 2 * w * d := by
  rw [Int32.mul_assoc, Int32.mul_comm d w, ← Int32.mul_assoc]
theorem one_award (S : St) (hN : MInv S) (hA : AW S) (f t : Int32) : ONE mp13 (fX8_award S f t) (fX7_award S f t) := by
  unfold fX8_award fX7_award
  by_cases h0 : okI f 6
  · rw [if_pos h0, if_neg ((firm_I f).mpr h0)]
    by_cases h1 : okI t 8
    · rw [if_pos h1, if_neg ((teller_I t).mpr h1)]
      have lf := okI_l (N := 6) h0 (by decide) (by decide)
      have lt := okI_l (N := 8) h1 (by decide) (by decide)
      have hq : 8 * ix f + ix t < 48 := by omega
      unfold bX8_award_131 jX8_award_131 jX8_award_131_v2
      rw [place_ix2 h0 h1]
      by_cases h54 : S 54 (8 * ix f + ix t) = 0
      · rw [if_pos h54, if_pos ((hA.i hq).mpr h54)]
        exact one_thr rfl (by decide)
      · rw [if_neg h54, if_neg (fun q => h54 ((hA.i hq).mp q))]
        have e62 : S 62 (8 * ix f + ix t) = S 52 (8 * ix f + ix t) := by rw [(hA _ hq).1, if_neg h54]
        rw [e62]
        by_cases hd : S 1 0 - S 52 (8 * ix f + ix t) ≤ 400
        · rw [if_pos hd, if_neg (Int32.not_lt.mpr hd), two_mul_c, min_two]
          exact ⟨rfl, fun _ => rfl, award_rows _ _ _ _ _⟩
        · rw [if_neg hd, if_pos (Int32.not_le.mp hd), two_mul_c, min_two]
          exact ⟨rfl, fun _ => rfl, award_rows _ _ _ _ _⟩
    · rw [if_neg h1, if_pos (Decidable.byContradiction fun q => h1 ((teller_I t).mp q))]
      exact one_thr rfl (by decide)
  · rw [if_neg h0, if_pos (Decidable.byContradiction fun q => h0 ((firm_I f).mp q))]
    exact one_thr rfl (by decide)
