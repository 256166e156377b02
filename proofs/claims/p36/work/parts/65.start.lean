/-! the invariant at the start, and the class's cells at the merged state -/
theorem inv_S0 : Inv S0 := by
  have c0 : ∀ r, ix (S0 r 0) = if r = 13 ∨ r = 20 ∨ r = 49 ∨ r = 51 ∨ r = 52 ∨ r = 62 then ix (-1) else ix 0 := fun r => by
    unfold S0
    split <;> rfl
  have zz : vp_in (0 : Int32) 8 := vp_in_nI (n := 0) (by decide) (by decide)
  have z6 : vp_in (0 : Int32) 6 := vp_in_nI (n := 0) (by decide) (by decide)
  have zs : set16 (0 : Int32) := ⟨0, by decide, rfl⟩
  have zd : dayR (0 : Int32) := ⟨0, by decide, rfl⟩
  refine ⟨⟨⟨rfl, by decide⟩, ⟨rfl, by decide⟩, ⟨rfl, by decide⟩, ⟨rfl, by decide⟩, ⟨rfl, by decide⟩, fun _ => zz, fun _ => zz, fun _ => zz, fun _ => zz, fun _ => z6, fun i hi => absurd hi (Nat.not_lt_zero _), fun _ => Or.inl rfl, fun _ => Or.inl rfl, fun _ => Or.inl rfl⟩, ⟨fun _ => ⟨rfl, Nat.zero_le _⟩, rfl, Nat.zero_le _⟩, ⟨fun _ _ => ⟨rfl, rfl, rfl, rfl⟩, fun _ _ => ⟨rfl, rfl, rfl, rfl, rfl, rfl, rfl⟩⟩, fun _ => Nat.zero_le _, fun k hk => absurd hk (Nat.not_lt_zero _), fun k hk => absurd hk (Nat.not_lt_zero _), ⟨⟨fun i j _ hj => absurd hj (Nat.not_lt_zero _), fun i hi => absurd hi (Nat.not_lt_zero _), fun i hi => absurd hi (Nat.not_lt_zero _)⟩, Nat.zero_le _, fun k hk => absurd hk (Nat.not_lt_zero _)⟩, ⟨fun k hk => absurd hk (Nat.not_lt_zero _), fun k hk => absurd hk (Nat.not_lt_zero _), fun k hk => absurd hk (Nat.not_lt_zero _)⟩, fun k hk => absurd hk (Nat.not_lt_zero _), ⟨fun _ _ => zs, fun _ _ => zs, fun a _ t _ => (Nat.zero_testBit t).trans (Nat.zero_testBit a).symm⟩, fun k hk => absurd hk (Nat.not_lt_zero _), fun _ _ => Or.inl rfl, zd, fun k hk => absurd hk (Nat.not_lt_zero _), fun _ _ => rfl, fun _ _ => ⟨rfl, fun h => absurd rfl h⟩, fun _ _ => zs, fun k hk => absurd hk (Nat.not_lt_zero _)⟩
/-- the class's cells read no row of the reference's own -/
theorem CH.rows {D : va_G} {cy : Nat → ClassId} {g : CWt} {S S' : St} {H : Heap} (h : CH D cy g S H) (e : ∀ r, ¬ rOwn r → S' r = S r) : CH D cy g S' H := by
  have k : ∀ r, decide (r = 22 ∨ r = 43 ∨ r = 44 ∨ r = 45 ∨ r = 52 ∨ r = 54) = false → S' r = S r := fun r hr => by
    have q := of_decide_eq_false hr
    exact e r q
  have key : ∀ k' i, ccell cy g S' k' i = ccell cy g S k' i := by
    intro k' i
    unfold ccell
    split
    all_goals first | rfl | skip
    · rw [k 2 rfl, k 3 rfl, k 4 rfl, k 5 rfl]
    · rw [k 51 rfl]
    · rw [k 62 rfl]
    · rw [k 53 rfl]
    · rw [k 21 rfl, k 60 rfl, k 49 rfl, k 50 rfl, k 46 rfl, k 47 rfl, k 48 rfl]
    · rw [k 8 rfl, k 9 rfl, k 10 rfl, k 11 rfl, k 12 rfl, k 13 rfl, k 14 rfl, k 61 rfl]
    · rw [k 16 rfl, k 17 rfl, k 18 rfl, k 19 rfl]
    · rw [k 24 rfl, k 25 rfl, k 26 rfl, k 27 rfl]
    · rw [k 29 rfl, k 30 rfl, k 31 rfl, k 33 rfl, k 32 rfl, k 34 rfl, k 35 rfl, k 37 rfl, k 36 rfl, k 38 rfl, k 39 rfl, k 40 rfl, k 41 rfl]
    · rw [k 67 rfl]
    · rw [k 65 rfl, k 66 rfl]
    · rw [k (cid i) (by unfold cid; split <;> rfl)]
    · rw [k 20 rfl]
    · rw [k 63 rfl]
    · rw [k 64 rfl, k 42 rfl, k 1 rfl, k 6 rfl]
  intro k' i hv
  rw [key]
  exact h k' i hv
/-- after a call: the class's cells, the reference's cells, the counts at the merged state -/
theorem mrg_rows {A B : St} (h : ∀ r j, r < 55 → ¬ rOwn r → B r j = A r j) : ∀ r, ¬ rOwn r → mrg A B r = B r := fun r hr => by
  by_cases h55 : r < 55
  · rw [mrg_lt h55]
    funext j
    exact (h r j h55 hr).symm
  · exact mrg_ge h55
theorem CT.rows {g : CWt} {S S' : St} (h : CT g S) (e : ∀ r, ¬ rOwn r → S' r = S r) : CT g S' := by
  have k : ∀ r, decide (r = 22 ∨ r = 43 ∨ r = 44 ∨ r = 45 ∨ r = 52 ∨ r = 54) = false → S' r = S r := fun r hr => by
    have q := of_decide_eq_false hr
    exact e r q
  unfold CT nsc ncl ndl nsu npp at h ⊢
  rw [k 7 rfl, k 15 rfl, k 23 rfl, k 28 rfl, k 67 rfl]
  exact h
