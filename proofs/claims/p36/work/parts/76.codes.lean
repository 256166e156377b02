/-! what a call of the class throws, and that it then changes nothing -/
theorem an7 (S : St) (a : Int32) : ∀ r i, (rX7_firstAnew_8 S a r i).2.1 = 0 ∧ (rX7_firstAnew_8 S a r i).2.2 = S := by
  intro r
  induction r with
  | zero => exact fun i => ⟨rfl, rfl⟩
  | succ r ih =>
    intro i
    rw [rX7_firstAnew_8_s]
    split
    · exact ih (i + 1)
    · exact ⟨rfl, rfl⟩
theorem c7_fund (S : St) (p0 p1 : Int32) : ((fX7_fund S p0 p1).2.1 = 0 ∨ (fX7_fund S p0 p1).2.1 = 1 ∨ (fX7_fund S p0 p1).2.1 = 2 ∨ (fX7_fund S p0 p1).2.1 = 3) ∧ (¬ (fX7_fund S p0 p1).2.1 = 0 → (fX7_fund S p0 p1).2.2 = S) := by
  unfold fX7_fund
  repeat' split
  all_goals first | exact ⟨Or.inl rfl, fun h => absurd rfl h⟩ | exact ⟨Or.inr (Or.inl rfl), fun h => rfl⟩ | exact ⟨Or.inr (Or.inr (Or.inl rfl)), fun h => rfl⟩ | exact ⟨Or.inr (Or.inr (Or.inr (rfl))), fun h => rfl⟩
theorem k7_fund (S : St) (p0 p1 : Int32) : CTk S (fX7_fund S p0 p1).2.2 := by
  unfold fX7_fund
  repeat' split
  all_goals exact ⟨rfl, rfl, rfl, rfl, rfl⟩
theorem c7_scheme (S : St) (p0 p1 p2 : Int32) : ((fX7_scheme S p0 p1 p2).2.1 = 0 ∨ (fX7_scheme S p0 p1 p2).2.1 = 1 ∨ (fX7_scheme S p0 p1 p2).2.1 = 2 ∨ (fX7_scheme S p0 p1 p2).2.1 = 3) ∧ (¬ (fX7_scheme S p0 p1 p2).2.1 = 0 → (fX7_scheme S p0 p1 p2).2.2 = S) := by
  unfold fX7_scheme
  repeat' split
  all_goals first | exact ⟨Or.inl rfl, fun h => absurd rfl h⟩ | exact ⟨Or.inr (Or.inl rfl), fun h => rfl⟩ | exact ⟨Or.inr (Or.inr (Or.inl rfl)), fun h => rfl⟩ | exact ⟨Or.inr (Or.inr (Or.inr (rfl))), fun h => rfl⟩
theorem c7_claim (S : St) (p0 p1 : Int32) : ((fX7_claim S p0 p1).2.1 = 0 ∨ (fX7_claim S p0 p1).2.1 = 1 ∨ (fX7_claim S p0 p1).2.1 = 2 ∨ (fX7_claim S p0 p1).2.1 = 3) ∧ (¬ (fX7_claim S p0 p1).2.1 = 0 → (fX7_claim S p0 p1).2.2 = S) := by
  unfold fX7_claim
  repeat' split
  all_goals first | exact ⟨Or.inl rfl, fun h => absurd rfl h⟩ | exact ⟨Or.inr (Or.inl rfl), fun h => rfl⟩ | exact ⟨Or.inr (Or.inr (Or.inl rfl)), fun h => rfl⟩ | exact ⟨Or.inr (Or.inr (Or.inr (rfl))), fun h => rfl⟩
theorem c7_sample (S : St) (p0 p1 p2 : Int32) : ((fX7_sample S p0 p1 p2).2.1 = 0 ∨ (fX7_sample S p0 p1 p2).2.1 = 1 ∨ (fX7_sample S p0 p1 p2).2.1 = 2) ∧ (¬ (fX7_sample S p0 p1 p2).2.1 = 0 → (fX7_sample S p0 p1 p2).2.2 = S) := by
  unfold fX7_sample
  repeat' split
  all_goals first | exact ⟨Or.inl rfl, fun h => absurd rfl h⟩ | exact ⟨Or.inr (Or.inl rfl), fun h => rfl⟩ | exact ⟨Or.inr (Or.inr (rfl)), fun h => rfl⟩
theorem k7_sample (S : St) (p0 p1 p2 : Int32) : CTk S (fX7_sample S p0 p1 p2).2.2 := by
  unfold fX7_sample
  repeat' split
  all_goals exact ⟨rfl, rfl, rfl, rfl, rfl⟩
theorem c7_learn (S : St) (p0 p1 : Int32) : ((fX7_learn S p0 p1).2.1 = 0 ∨ (fX7_learn S p0 p1).2.1 = 1) ∧ (¬ (fX7_learn S p0 p1).2.1 = 0 → (fX7_learn S p0 p1).2.2 = S) := by
  unfold fX7_learn
  repeat' split
  all_goals first | exact ⟨Or.inl rfl, fun h => absurd rfl h⟩ | exact ⟨Or.inr (rfl), fun h => rfl⟩
theorem k7_learn (S : St) (p0 p1 : Int32) : CTk S (fX7_learn S p0 p1).2.2 := by
  unfold fX7_learn
  repeat' split
  all_goals exact ⟨rfl, rfl, rfl, rfl, rfl⟩
theorem c7_publish (S : St) (p0 : Int32) : ((fX7_publish S p0).2.1 = 0 ∨ (fX7_publish S p0).2.1 = 1) ∧ (¬ (fX7_publish S p0).2.1 = 0 → (fX7_publish S p0).2.2 = S) := by
  unfold fX7_publish
  repeat' split
  all_goals first | exact ⟨Or.inl rfl, fun h => absurd rfl h⟩ | exact ⟨Or.inr (rfl), fun h => rfl⟩
theorem k7_publish (S : St) (p0 : Int32) : CTk S (fX7_publish S p0).2.2 := by
  unfold fX7_publish
  repeat' split
  all_goals exact ⟨rfl, rfl, rfl, rfl, rfl⟩
theorem c7_plan (S : St) (p0 p1 : Int32) : ((fX7_plan S p0 p1).2.1 = 0 ∨ (fX7_plan S p0 p1).2.1 = 1) ∧ (¬ (fX7_plan S p0 p1).2.1 = 0 → (fX7_plan S p0 p1).2.2 = S) := by
  unfold fX7_plan
  repeat' split
  all_goals first | exact ⟨Or.inl rfl, fun h => absurd rfl h⟩ | exact ⟨Or.inr (rfl), fun h => rfl⟩
theorem k7_plan (S : St) (p0 p1 : Int32) : CTk S (fX7_plan S p0 p1).2.2 := by
  unfold fX7_plan
  repeat' split
  all_goals exact ⟨rfl, rfl, rfl, rfl, rfl⟩
theorem c7_know (S : St) (p0 : Int32) : ((fX7_know S p0).2.1 = 0 ∨ (fX7_know S p0).2.1 = 1) ∧ (¬ (fX7_know S p0).2.1 = 0 → (fX7_know S p0).2.2 = S) := by
  unfold fX7_know
  repeat' split
  all_goals first | exact ⟨Or.inl rfl, fun h => absurd rfl h⟩ | exact ⟨Or.inr (rfl), fun h => rfl⟩
theorem k7_know (S : St) (p0 : Int32) : CTk S (fX7_know S p0).2.2 := by
  unfold fX7_know
  repeat' split
  all_goals exact ⟨rfl, rfl, rfl, rfl, rfl⟩
theorem c7_admit (S : St) (p0 : Int32) : ((fX7_admit S p0).2.1 = 0 ∨ (fX7_admit S p0).2.1 = 1 ∨ (fX7_admit S p0).2.1 = 3) ∧ (¬ (fX7_admit S p0).2.1 = 0 → (fX7_admit S p0).2.2 = S) := by
  unfold fX7_admit
  repeat' split
  all_goals first | exact ⟨Or.inl rfl, fun h => absurd rfl h⟩ | exact ⟨Or.inr (Or.inl rfl), fun h => rfl⟩ | exact ⟨Or.inr (Or.inr (rfl)), fun h => rfl⟩
theorem k7_admit (S : St) (p0 : Int32) : CTk S (fX7_admit S p0).2.2 := by
  unfold fX7_admit
  repeat' split
  all_goals exact ⟨rfl, rfl, rfl, rfl, rfl⟩
theorem c7_deal (S : St) (p0 p1 p2 : Int32) : ((fX7_deal S p0 p1 p2).2.1 = 0 ∨ (fX7_deal S p0 p1 p2).2.1 = 1 ∨ (fX7_deal S p0 p1 p2).2.1 = 2 ∨ (fX7_deal S p0 p1 p2).2.1 = 3) ∧ (¬ (fX7_deal S p0 p1 p2).2.1 = 0 → (fX7_deal S p0 p1 p2).2.2 = S) := by
  unfold fX7_deal
  repeat' split
  all_goals first | exact ⟨Or.inl rfl, fun h => absurd rfl h⟩ | exact ⟨Or.inr (Or.inl rfl), fun h => rfl⟩ | exact ⟨Or.inr (Or.inr (Or.inl rfl)), fun h => rfl⟩ | exact ⟨Or.inr (Or.inr (Or.inr (rfl))), fun h => rfl⟩
theorem c7_file (S : St) (p0 p1 p2 : Int32) : ((fX7_file S p0 p1 p2).2.1 = 0 ∨ (fX7_file S p0 p1 p2).2.1 = 1 ∨ (fX7_file S p0 p1 p2).2.1 = 2 ∨ (fX7_file S p0 p1 p2).2.1 = 3) ∧ (¬ (fX7_file S p0 p1 p2).2.1 = 0 → (fX7_file S p0 p1 p2).2.2 = S) := by
  unfold fX7_file
  repeat' split
  all_goals first | exact ⟨Or.inl rfl, fun h => absurd rfl h⟩ | exact ⟨Or.inr (Or.inl rfl), fun h => rfl⟩ | exact ⟨Or.inr (Or.inr (Or.inl rfl)), fun h => rfl⟩ | exact ⟨Or.inr (Or.inr (Or.inr (rfl))), fun h => rfl⟩
theorem c7_amend (S : St) (p0 p1 : Int32) : ((fX7_amend S p0 p1).2.1 = 0 ∨ (fX7_amend S p0 p1).2.1 = 1 ∨ (fX7_amend S p0 p1).2.1 = 2 ∨ (fX7_amend S p0 p1).2.1 = 3) ∧ (¬ (fX7_amend S p0 p1).2.1 = 0 → (fX7_amend S p0 p1).2.2 = S) := by
  unfold fX7_amend
  repeat' split
  all_goals first | exact ⟨Or.inl rfl, fun h => absurd rfl h⟩ | exact ⟨Or.inr (Or.inl rfl), fun h => rfl⟩ | exact ⟨Or.inr (Or.inr (Or.inl rfl)), fun h => rfl⟩ | exact ⟨Or.inr (Or.inr (Or.inr (rfl))), fun h => rfl⟩
theorem c7_extend (S : St) (p0 : Int32) : ((fX7_extend S p0).2.1 = 0 ∨ (fX7_extend S p0).2.1 = 1 ∨ (fX7_extend S p0).2.1 = 3) ∧ (¬ (fX7_extend S p0).2.1 = 0 → (fX7_extend S p0).2.2 = S) := by
  unfold fX7_extend
  repeat' split
  all_goals first | exact ⟨Or.inl rfl, fun h => absurd rfl h⟩ | exact ⟨Or.inr (Or.inl rfl), fun h => rfl⟩ | exact ⟨Or.inr (Or.inr (rfl)), fun h => rfl⟩
theorem k7_extend (S : St) (p0 : Int32) : CTk S (fX7_extend S p0).2.2 := by
  unfold fX7_extend
  repeat' split
  all_goals exact ⟨rfl, rfl, rfl, rfl, rfl⟩
theorem c7_choose (S : St) (p0 p1 : Int32) : ((fX7_choose S p0 p1).2.1 = 0 ∨ (fX7_choose S p0 p1).2.1 = 1 ∨ (fX7_choose S p0 p1).2.1 = 2 ∨ (fX7_choose S p0 p1).2.1 = 3) ∧ (¬ (fX7_choose S p0 p1).2.1 = 0 → (fX7_choose S p0 p1).2.2 = S) := by
  unfold fX7_choose
  repeat' split
  all_goals first | exact ⟨Or.inl rfl, fun h => absurd rfl h⟩ | exact ⟨Or.inr (Or.inl rfl), fun h => rfl⟩ | exact ⟨Or.inr (Or.inr (Or.inl rfl)), fun h => rfl⟩ | exact ⟨Or.inr (Or.inr (Or.inr (rfl))), fun h => rfl⟩
theorem k7_choose (S : St) (p0 p1 : Int32) : CTk S (fX7_choose S p0 p1).2.2 := by
  unfold fX7_choose
  repeat' split
  all_goals exact ⟨rfl, rfl, rfl, rfl, rfl⟩
theorem c7_help (S : St) (p0 p1 : Int32) : ((fX7_help S p0 p1).2.1 = 0 ∨ (fX7_help S p0 p1).2.1 = 1 ∨ (fX7_help S p0 p1).2.1 = 2 ∨ (fX7_help S p0 p1).2.1 = 3) ∧ (¬ (fX7_help S p0 p1).2.1 = 0 → (fX7_help S p0 p1).2.2 = S) := by
  unfold fX7_help
  repeat' split
  all_goals first | exact ⟨Or.inl rfl, fun h => absurd rfl h⟩ | exact ⟨Or.inr (Or.inl rfl), fun h => rfl⟩ | exact ⟨Or.inr (Or.inr (Or.inl rfl)), fun h => rfl⟩ | exact ⟨Or.inr (Or.inr (Or.inr (rfl))), fun h => rfl⟩
theorem k7_help (S : St) (p0 p1 : Int32) : CTk S (fX7_help S p0 p1).2.2 := by
  unfold fX7_help
  repeat' split
  all_goals exact ⟨rfl, rfl, rfl, rfl, rfl⟩
theorem c7_judge (S : St) (p0 : Int32) : ((fX7_judge S p0).2.1 = 0 ∨ (fX7_judge S p0).2.1 = 1 ∨ (fX7_judge S p0).2.1 = 3) ∧ (¬ (fX7_judge S p0).2.1 = 0 → (fX7_judge S p0).2.2 = S) := by
  unfold fX7_judge
  repeat' split
  all_goals first | exact ⟨Or.inl rfl, fun h => absurd rfl h⟩ | exact ⟨Or.inr (Or.inl rfl), fun h => rfl⟩ | exact ⟨Or.inr (Or.inr (rfl)), fun h => rfl⟩
theorem k7_judge (S : St) (p0 : Int32) : CTk S (fX7_judge S p0).2.2 := by
  unfold fX7_judge
  repeat' split
  all_goals exact ⟨rfl, rfl, rfl, rfl, rfl⟩
theorem c7_settle (S : St) (p0 p1 : Int32) : ((fX7_settle S p0 p1).2.1 = 0 ∨ (fX7_settle S p0 p1).2.1 = 1 ∨ (fX7_settle S p0 p1).2.1 = 2 ∨ (fX7_settle S p0 p1).2.1 = 3) ∧ (¬ (fX7_settle S p0 p1).2.1 = 0 → (fX7_settle S p0 p1).2.2 = S) := by
  unfold fX7_settle
  repeat' split
  all_goals first | exact ⟨Or.inl rfl, fun h => absurd rfl h⟩ | exact ⟨Or.inr (Or.inl rfl), fun h => rfl⟩ | exact ⟨Or.inr (Or.inr (Or.inl rfl)), fun h => rfl⟩ | exact ⟨Or.inr (Or.inr (Or.inr (rfl))), fun h => rfl⟩
theorem k7_settle (S : St) (p0 p1 : Int32) : CTk S (fX7_settle S p0 p1).2.2 := by
  unfold fX7_settle
  repeat' split
  all_goals exact ⟨rfl, rfl, rfl, rfl, rfl⟩
theorem c7_work (S : St) (p0 p1 p2 : Int32) : ((fX7_work S p0 p1 p2).2.1 = 0 ∨ (fX7_work S p0 p1 p2).2.1 = 1 ∨ (fX7_work S p0 p1 p2).2.1 = 2) ∧ (¬ (fX7_work S p0 p1 p2).2.1 = 0 → (fX7_work S p0 p1 p2).2.2 = S) := by
  unfold fX7_work
  repeat' split
  all_goals first | exact ⟨Or.inl rfl, fun h => absurd rfl h⟩ | exact ⟨Or.inr (Or.inl rfl), fun h => rfl⟩ | exact ⟨Or.inr (Or.inr (rfl)), fun h => rfl⟩
theorem k7_work (S : St) (p0 p1 p2 : Int32) : CTk S (fX7_work S p0 p1 p2).2.2 := by
  unfold fX7_work
  repeat' split
  all_goals exact ⟨rfl, rfl, rfl, rfl, rfl⟩
theorem c7_tell (S : St) (p0 p1 : Int32) : ((fX7_tell S p0 p1).2.1 = 0 ∨ (fX7_tell S p0 p1).2.1 = 1) ∧ (¬ (fX7_tell S p0 p1).2.1 = 0 → (fX7_tell S p0 p1).2.2 = S) := by
  unfold fX7_tell
  repeat' split
  all_goals first | exact ⟨Or.inl rfl, fun h => absurd rfl h⟩ | exact ⟨Or.inr (rfl), fun h => rfl⟩
theorem k7_tell (S : St) (p0 p1 : Int32) : CTk S (fX7_tell S p0 p1).2.2 := by
  unfold fX7_tell
  repeat' split
  all_goals exact ⟨rfl, rfl, rfl, rfl, rfl⟩
theorem c7_fire (S : St) (p0 p1 : Int32) : ((fX7_fire S p0 p1).2.1 = 0 ∨ (fX7_fire S p0 p1).2.1 = 1 ∨ (fX7_fire S p0 p1).2.1 = 3) ∧ (¬ (fX7_fire S p0 p1).2.1 = 0 → (fX7_fire S p0 p1).2.2 = S) := by
  unfold fX7_fire
  repeat' split
  all_goals first | exact ⟨Or.inl rfl, fun h => absurd rfl h⟩ | exact ⟨Or.inr (Or.inl rfl), fun h => rfl⟩ | exact ⟨Or.inr (Or.inr (rfl)), fun h => rfl⟩
theorem k7_fire (S : St) (p0 p1 : Int32) : CTk S (fX7_fire S p0 p1).2.2 := by
  unfold fX7_fire
  repeat' split
  all_goals exact ⟨rfl, rfl, rfl, rfl, rfl⟩
theorem c7_award (S : St) (p0 p1 : Int32) : ((fX7_award S p0 p1).2.1 = 0 ∨ (fX7_award S p0 p1).2.1 = 1 ∨ (fX7_award S p0 p1).2.1 = 3) ∧ (¬ (fX7_award S p0 p1).2.1 = 0 → (fX7_award S p0 p1).2.2 = S) := by
  unfold fX7_award
  repeat' split
  all_goals first | exact ⟨Or.inl rfl, fun h => absurd rfl h⟩ | exact ⟨Or.inr (Or.inl rfl), fun h => rfl⟩ | exact ⟨Or.inr (Or.inr (rfl)), fun h => rfl⟩
theorem k7_award (S : St) (p0 p1 : Int32) : CTk S (fX7_award S p0 p1).2.2 := by
  unfold fX7_award
  repeat' split
  all_goals exact ⟨rfl, rfl, rfl, rfl, rfl⟩
theorem c7_pass (S : St) (p0 : Int32) : ((fX7_pass S p0).2.1 = 0 ∨ (fX7_pass S p0).2.1 = 2 ∨ (fX7_pass S p0).2.1 = 3) ∧ (¬ (fX7_pass S p0).2.1 = 0 → (fX7_pass S p0).2.2 = S) := by
  unfold fX7_pass
  repeat' split
  all_goals first | exact ⟨Or.inl rfl, fun h => absurd rfl h⟩ | exact ⟨Or.inr (Or.inl rfl), fun h => rfl⟩ | exact ⟨Or.inr (Or.inr (rfl)), fun h => rfl⟩
theorem k7_pass (S : St) (p0 : Int32) : CTk S (fX7_pass S p0).2.2 := by
  unfold fX7_pass
  repeat' split
  all_goals exact ⟨rfl, rfl, rfl, rfl, rfl⟩
theorem c7_covers (S : St) (p0 p1 : Int32) : ((fX7_covers S p0 p1).2.1 = 0 ∨ (fX7_covers S p0 p1).2.1 = 1) ∧ (¬ (fX7_covers S p0 p1).2.1 = 0 → (fX7_covers S p0 p1).2.2 = S) := by
  unfold fX7_covers
  repeat' split
  all_goals first | exact ⟨Or.inl rfl, fun h => absurd rfl h⟩ | exact ⟨Or.inr (rfl), fun h => rfl⟩
theorem k7_covers (S : St) (p0 p1 : Int32) : CTk S (fX7_covers S p0 p1).2.2 := by
  unfold fX7_covers
  repeat' split
  all_goals exact ⟨rfl, rfl, rfl, rfl, rfl⟩
theorem c7_bars (S : St) (p0 p1 : Int32) : ((fX7_bars S p0 p1).2.1 = 0 ∨ (fX7_bars S p0 p1).2.1 = 1) ∧ (¬ (fX7_bars S p0 p1).2.1 = 0 → (fX7_bars S p0 p1).2.2 = S) := by
  unfold fX7_bars
  repeat' split
  all_goals first | exact ⟨Or.inl rfl, fun h => absurd rfl h⟩ | exact ⟨Or.inr (rfl), fun h => rfl⟩
theorem k7_bars (S : St) (p0 p1 : Int32) : CTk S (fX7_bars S p0 p1).2.2 := by
  unfold fX7_bars
  repeat' split
  all_goals exact ⟨rfl, rfl, rfl, rfl, rfl⟩
theorem c7_first (S : St) (p0 : Int32) : ((fX7_first S p0).2.1 = 0 ∨ (fX7_first S p0).2.1 = 1) ∧ (¬ (fX7_first S p0).2.1 = 0 → (fX7_first S p0).2.2 = S) := by
  unfold fX7_first
  repeat' split
  all_goals first | exact ⟨Or.inl rfl, fun h => absurd rfl h⟩ | exact ⟨Or.inr (rfl), fun h => rfl⟩
theorem k7_first (S : St) (p0 : Int32) : CTk S (fX7_first S p0).2.2 := by
  unfold fX7_first
  repeat' split
  all_goals exact ⟨rfl, rfl, rfl, rfl, rfl⟩
theorem c7_firstAnew (S : St) (p0 : Int32) : ((fX7_firstAnew S p0).2.1 = 0 ∨ (fX7_firstAnew S p0).2.1 = 1) ∧ (¬ (fX7_firstAnew S p0).2.1 = 0 → (fX7_firstAnew S p0).2.2 = S) := by
  unfold fX7_firstAnew
  split
  · exact ⟨Or.inl (an7 S p0 _ _).1, fun h => absurd (an7 S p0 _ _).1 h⟩
  · exact ⟨Or.inr rfl, fun _ => rfl⟩
theorem k7_firstAnew (S : St) (p0 : Int32) : CTk S (fX7_firstAnew S p0).2.2 := by
  unfold fX7_firstAnew
  split
  · rw [(an7 S p0 _ _).2]; exact CTk.rf S
  · exact CTk.rf S
theorem c7_due (S : St) (p0 : Int32) : ((fX7_due S p0).2.1 = 0 ∨ (fX7_due S p0).2.1 = 1) ∧ (¬ (fX7_due S p0).2.1 = 0 → (fX7_due S p0).2.2 = S) := by
  unfold fX7_due
  repeat' split
  all_goals first | exact ⟨Or.inl rfl, fun h => absurd rfl h⟩ | exact ⟨Or.inr (rfl), fun h => rfl⟩
theorem k7_due (S : St) (p0 : Int32) : CTk S (fX7_due S p0).2.2 := by
  unfold fX7_due
  repeat' split
  all_goals exact ⟨rfl, rfl, rfl, rfl, rfl⟩
theorem c7_sees (S : St) (p0 p1 : Int32) : ((fX7_sees S p0 p1).2.1 = 0 ∨ (fX7_sees S p0 p1).2.1 = 1) ∧ (¬ (fX7_sees S p0 p1).2.1 = 0 → (fX7_sees S p0 p1).2.2 = S) := by
  unfold fX7_sees
  repeat' split
  all_goals first | exact ⟨Or.inl rfl, fun h => absurd rfl h⟩ | exact ⟨Or.inr (rfl), fun h => rfl⟩
theorem k7_sees (S : St) (p0 p1 : Int32) : CTk S (fX7_sees S p0 p1).2.2 := by
  unfold fX7_sees
  repeat' split
  all_goals exact ⟨rfl, rfl, rfl, rfl, rfl⟩
theorem c7_ofSuit (S : St) (p0 p1 : Int32) : ((fX7_ofSuit S p0 p1).2.1 = 0 ∨ (fX7_ofSuit S p0 p1).2.1 = 1) ∧ (¬ (fX7_ofSuit S p0 p1).2.1 = 0 → (fX7_ofSuit S p0 p1).2.2 = S) := by
  unfold fX7_ofSuit
  repeat' split
  all_goals first | exact ⟨Or.inl rfl, fun h => absurd rfl h⟩ | exact ⟨Or.inr (rfl), fun h => rfl⟩
theorem k7_ofSuit (S : St) (p0 p1 : Int32) : CTk S (fX7_ofSuit S p0 p1).2.2 := by
  unfold fX7_ofSuit
  repeat' split
  all_goals exact ⟨rfl, rfl, rfl, rfl, rfl⟩
theorem c7_ofClaim (S : St) (p0 p1 : Int32) : ((fX7_ofClaim S p0 p1).2.1 = 0 ∨ (fX7_ofClaim S p0 p1).2.1 = 1) ∧ (¬ (fX7_ofClaim S p0 p1).2.1 = 0 → (fX7_ofClaim S p0 p1).2.2 = S) := by
  unfold fX7_ofClaim
  repeat' split
  all_goals first | exact ⟨Or.inl rfl, fun h => absurd rfl h⟩ | exact ⟨Or.inr (rfl), fun h => rfl⟩
theorem k7_ofClaim (S : St) (p0 p1 : Int32) : CTk S (fX7_ofClaim S p0 p1).2.2 := by
  unfold fX7_ofClaim
  repeat' split
  all_goals exact ⟨rfl, rfl, rfl, rfl, rfl⟩
theorem c7_got (S : St) (p0 p1 : Int32) : ((fX7_got S p0 p1).2.1 = 0 ∨ (fX7_got S p0 p1).2.1 = 1) ∧ (¬ (fX7_got S p0 p1).2.1 = 0 → (fX7_got S p0 p1).2.2 = S) := by
  unfold fX7_got
  repeat' split
  all_goals first | exact ⟨Or.inl rfl, fun h => absurd rfl h⟩ | exact ⟨Or.inr (rfl), fun h => rfl⟩
theorem k7_got (S : St) (p0 p1 : Int32) : CTk S (fX7_got S p0 p1).2.2 := by
  unfold fX7_got
  repeat' split
  all_goals exact ⟨rfl, rfl, rfl, rfl, rfl⟩
theorem c7_ofFirm (S : St) (p0 p1 : Int32) : ((fX7_ofFirm S p0 p1).2.1 = 0 ∨ (fX7_ofFirm S p0 p1).2.1 = 1) ∧ (¬ (fX7_ofFirm S p0 p1).2.1 = 0 → (fX7_ofFirm S p0 p1).2.2 = S) := by
  unfold fX7_ofFirm
  repeat' split
  all_goals first | exact ⟨Or.inl rfl, fun h => absurd rfl h⟩ | exact ⟨Or.inr (rfl), fun h => rfl⟩
theorem k7_ofFirm (S : St) (p0 p1 : Int32) : CTk S (fX7_ofFirm S p0 p1).2.2 := by
  unfold fX7_ofFirm
  repeat' split
  all_goals exact ⟨rfl, rfl, rfl, rfl, rfl⟩
theorem c7_all (S : St) (p0 : Int32) : ((fX7_all S p0).2.1 = 0 ∨ (fX7_all S p0).2.1 = 1) ∧ (¬ (fX7_all S p0).2.1 = 0 → (fX7_all S p0).2.2 = S) := by
  unfold fX7_all
  repeat' split
  all_goals first | exact ⟨Or.inl rfl, fun h => absurd rfl h⟩ | exact ⟨Or.inr (rfl), fun h => rfl⟩
theorem k7_all (S : St) (p0 : Int32) : CTk S (fX7_all S p0).2.2 := by
  unfold fX7_all
  repeat' split
  all_goals exact ⟨rfl, rfl, rfl, rfl, rfl⟩
