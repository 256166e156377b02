/-! alike, out of the answer of the bench's plain form -/
theorem REL.cg0 {M : Nat} {S S' L : St} (h : REL M S L) (hs : SU [] S S') : REL M S' L := ⟨h.q.cg hs (LU.rf L), h.h.cg hs (LU.rf L), h.hr.cg hs, h.c.cg hs (LU.rf L), h.b.cg hs (LU.rf L), h.t.cg hs (LU.rf L), h.d.cg hs (LU.rf L), h.u.cg hs (LU.rf L), h.ur.cg hs, h.m.cg (Nat.le_refl _) hs (LU.rf L), h.r.cg hs (LU.rf L), h.e.cg hs (LU.rf L)⟩
theorem mp_0 (w : Nat) (c : Int32) (h : mp_w w c = 0) : c = 0 := by
  unfold mp_w at h
  split at h
  all_goals first | exact h | (unfold mp13 at h; split at h; exact absurd h (by decide); exact h) | (unfold mp23 at h; split at h; exact absurd h (by decide); split at h; exact absurd h (by decide); exact h)
theorem k65_claim (S : St) (a b : Int32) (r : Nat) (hr : 64 < r) : (fX7_claim S a b).2.2 r = S r := by
  unfold fX7_claim
  repeat' split
  all_goals first | rfl | (dsimp only; repeat (first | rw [up_ne (by omega)] | rw [upr_ne (by omega)]))
theorem k65_admit (S : St) (a : Int32) (r : Nat) (hr : 64 < r) : (fX7_admit S a).2.2 r = S r := by
  unfold fX7_admit
  repeat' split
  all_goals first | rfl | (dsimp only; repeat (first | rw [up_ne (by omega)] | rw [upr_ne (by omega)]))
theorem k65_deal (S : St) (a b c : Int32) (r : Nat) (hr : 64 < r) : (fX7_deal S a b c).2.2 r = S r := by
  unfold fX7_deal
  repeat' split
  all_goals first | rfl | (dsimp only; repeat (first | rw [up_ne (by omega)] | rw [upr_ne (by omega)]))
theorem k65_extend (S : St) (a : Int32) (r : Nat) (hr : 64 < r) : (fX7_extend S a).2.2 r = S r := by
  unfold fX7_extend
  repeat' split
  all_goals first | rfl | (dsimp only; repeat (first | rw [up_ne (by omega)] | rw [upr_ne (by omega)]))
theorem k65_choose (S : St) (a b : Int32) (r : Nat) (hr : 64 < r) : (fX7_choose S a b).2.2 r = S r := by
  unfold fX7_choose
  repeat' split
  all_goals first | rfl | (dsimp only; repeat (first | rw [up_ne (by omega)] | rw [upr_ne (by omega)]))
theorem k65_help (S : St) (a b : Int32) (r : Nat) (hr : 64 < r) : (fX7_help S a b).2.2 r = S r := by
  unfold fX7_help
  repeat' split
  all_goals first | rfl | (dsimp only; repeat (first | rw [up_ne (by omega)] | rw [upr_ne (by omega)]))
theorem k65_judge (S : St) (a : Int32) (r : Nat) (hr : 64 < r) : (fX7_judge S a).2.2 r = S r := by
  unfold fX7_judge fX7_win fX7_partShare
  repeat' split
  all_goals first | rfl | (dsimp only; repeat (first | rw [up_ne (by omega)] | rw [upr_ne (by omega)]))
theorem k65_settle (S : St) (a b : Int32) (r : Nat) (hr : 64 < r) : (fX7_settle S a b).2.2 r = S r := by
  unfold fX7_settle fX7_win fX7_partShare
  repeat' split
  all_goals first | rfl | (dsimp only; repeat (first | rw [up_ne (by omega)] | rw [upr_ne (by omega)]))
theorem k65_fire (S : St) (a b : Int32) (r : Nat) (hr : 64 < r) : (fX7_fire S a b).2.2 r = S r := by
  unfold fX7_fire
  repeat' split
  all_goals first | rfl | (dsimp only; repeat (first | rw [up_ne (by omega)] | rw [upr_ne (by omega)]))
theorem k65_award (S : St) (a b : Int32) (r : Nat) (hr : 64 < r) : (fX7_award S a b).2.2 r = S r := by
  unfold fX7_award
  repeat' split
  all_goals first | rfl | (dsimp only; repeat (first | rw [up_ne (by omega)] | rw [upr_ne (by omega)]))
theorem k65_fund (S : St) (a b : Int32) (r : Nat) (hr : 64 < r) : (fX7_fund S a b).2.2 r = S r := by
  unfold fX7_fund
  repeat' split
  all_goals first | rfl | (dsimp only; repeat (first | rw [up_ne (by omega)] | rw [upr_ne (by omega)]))
theorem k65_scheme (S : St) (a b c : Int32) (r : Nat) (hr : 64 < r) : (fX7_scheme S a b c).2.2 r = S r := by
  unfold fX7_scheme
  repeat' split
  all_goals first | rfl | (dsimp only; repeat (first | rw [up_ne (by omega)] | rw [upr_ne (by omega)]))
theorem k65_sample (S : St) (a b c : Int32) (r : Nat) (hr : 64 < r) : (fX7_sample S a b c).2.2 r = S r := by
  unfold fX7_sample
  repeat' split
  all_goals first | rfl | (dsimp only; repeat (first | rw [up_ne (by omega)] | rw [upr_ne (by omega)]))
theorem k65_learn (S : St) (a b : Int32) (r : Nat) (hr : 64 < r) : (fX7_learn S a b).2.2 r = S r := by
  unfold fX7_learn
  repeat' split
  all_goals first | rfl | (dsimp only; repeat (first | rw [up_ne (by omega)] | rw [upr_ne (by omega)]))
theorem k65_publish (S : St) (a : Int32) (r : Nat) (hr : 64 < r) : (fX7_publish S a).2.2 r = S r := by
  unfold fX7_publish
  repeat' split
  all_goals first | rfl | (dsimp only; repeat (first | rw [up_ne (by omega)] | rw [upr_ne (by omega)]))
theorem k65_plan (S : St) (a b : Int32) (r : Nat) (hr : 64 < r) : (fX7_plan S a b).2.2 r = S r := by
  unfold fX7_plan
  repeat' split
  all_goals first | rfl | (dsimp only; repeat (first | rw [up_ne (by omega)] | rw [upr_ne (by omega)]))
theorem k65_know (S : St) (a : Int32) (r : Nat) (hr : 64 < r) : (fX7_know S a).2.2 r = S r := by
  unfold fX7_know
  repeat' split
  all_goals first | rfl | (dsimp only; repeat (first | rw [up_ne (by omega)] | rw [upr_ne (by omega)]))
theorem k65_work (S : St) (a b c : Int32) (r : Nat) (hr : 64 < r) : (fX7_work S a b c).2.2 r = S r := by
  unfold fX7_work
  repeat' split
  all_goals first | rfl | (dsimp only; repeat (first | rw [up_ne (by omega)] | rw [upr_ne (by omega)]))
theorem k65_tell (S : St) (a b : Int32) (r : Nat) (hr : 64 < r) : (fX7_tell S a b).2.2 r = S r := by
  unfold fX7_tell
  repeat' split
  all_goals first | rfl | (dsimp only; repeat (first | rw [up_ne (by omega)] | rw [upr_ne (by omega)]))
theorem k65_pass (S : St) (a : Int32) (r : Nat) (hr : 64 < r) : (fX7_pass S a).2.2 r = S r := by
  unfold fX7_pass
  repeat' split
  all_goals first | rfl | (dsimp only; repeat (first | rw [up_ne (by omega)] | rw [upr_ne (by omega)]))
theorem k65 (S : St) (w : Nat) (hw : ¬ w = 3) (hw4 : ¬ w = 4) (a b c : Int32) (r : Nat) (hr : 64 < r) : (xq7 S w a b c).2.2 r = S r := by
  match w, hw, hw4 with
  | 0, _, _ => exact k65_claim S a b r hr
  | 1, _, _ => exact k65_admit S a r hr
  | 2, _, _ => exact k65_deal S a b c r hr
  | 3, hw, hw4 => exact absurd rfl hw
  | 4, hw, hw4 => exact absurd rfl hw4
  | 5, _, _ => exact k65_extend S a r hr
  | 6, _, _ => exact k65_choose S a b r hr
  | 7, _, _ => exact k65_help S a b r hr
  | 8, _, _ => exact k65_judge S a r hr
  | 9, _, _ => exact k65_settle S a b r hr
  | 10, _, _ => exact k65_fire S a b r hr
  | 11, _, _ => exact k65_award S a b r hr
  | 12, _, _ => exact k65_fund S a b r hr
  | 13, _, _ => exact k65_scheme S a b c r hr
  | 14, _, _ => exact k65_sample S a b c r hr
  | 15, _, _ => exact k65_learn S a b r hr
  | 16, _, _ => exact k65_publish S a r hr
  | 17, _, _ => exact k65_plan S a b r hr
  | 18, _, _ => exact k65_know S a r hr
  | 19, _, _ => exact k65_work S a b c r hr
  | 20, _, _ => exact k65_tell S a b r hr
  | 21, _, _ => exact k65_pass S a r hr
  | n + 22, _, _ => rfl
theorem good_8 {M : Nat} {S A L' : St} {w : Nat} {a b c v : Int32} (hI : Inv S) (e8 : xq8 S w a b c = (v, 0, A)) (hA : ∀ r, 64 < r → A r = S r) (hR : REL M A L') (hw : ¬ w = 3 := by decide) (hw4 : ¬ w = 4 := by decide) : GOOD M S (L', (w, a, b, c), v) := by
  have h1 := xq_one hI w a b c
  have hc : (xq7 S w a b c).2.1 = 0 := mp_0 w _ (by rw [← h1.1, e8])
  have hv : (xq7 S w a b c).1 = v := by rw [← h1.2.1 hc, e8]
  refine ⟨?_, ?_⟩
  · unfold XOK
    simp only []
    by_cases q : w < 12
    · rw [if_pos q, if_pos hc]
      exact ⟨Or.inl hc, hv⟩
    · rw [if_neg q]
      exact ⟨hc, hv⟩
  · show REL M (mrg (xq8 S w a b c).2.2 (xq7 S w a b c).2.2) L'
    rw [e8]
    refine hR.cg0 (fun r hr _ => ?_)
    rcases Nat.lt_or_ge r 55 with q | q
    · exact mrg_lt q
    · rw [mrg_ge (by omega), k65 S w hw hw4 a b c r (by omega)]
      exact (hA r (by omega)).symm
theorem good_t {M : Nat} {S L' : St} {w : Nat} {a b c v t : Int32} (hw : w < 12) (e8 : xq8 S w a b c = (v, t, S)) (h3 : (xq7 S w a b c).2.1 = 3) (h7 : ∀ r, 64 < r → (xq7 S w a b c).2.2 r = S r) (hR : REL M S L') : GOOD M S (L', (w, a, b, c), -1003) := by
  refine ⟨?_, ?_⟩
  · unfold XOK
    simp only []
    rw [if_pos hw]
    exact ⟨Or.inr h3, by rw [if_neg (by rw [h3]; decide)]⟩
  · show REL M (mrg (xq8 S w a b c).2.2 (xq7 S w a b c).2.2) L'
    rw [e8]
    refine hR.cg0 (fun r hr _ => ?_)
    rcases Nat.lt_or_ge r 55 with q | q
    · exact mrg_lt q
    · rw [mrg_ge (by omega), h7 r (by omega)]
theorem mp3_3 {c : Int32} (h : mp3 c = 3) : c = 3 := h
theorem mp13_2 {c : Int32} (h : mp13 c = 2) (h2 : c = 0 ∨ c = 1 ∨ c = 3) : c = 3 := by
  rcases h2 with q | q | q
  · subst q; exact absurd h (by decide)
  · subst q; exact absurd h (by decide)
  · exact q
