/-! what the readers read: other rows don't count -/
def RB (S S' : St) : Prop := (S' 8 = S 8 ∧ S' 9 = S 9 ∧ S' 20 = S 20 ∧ S' 28 = S 28 ∧ S' 30 = S 30 ∧ S' 31 = S 31 ∧ S' 32 = S 32 ∧ S' 33 = S 33 ∧ S' 34 = S 34 ∧ S' 35 = S 35) ∧ S' 42 = S 42 ∧ S' 43 = S 43 ∧ S' 44 = S 44 ∧ S' 45 = S 45
theorem half_congr {S S' : St} (h : S' 9 = S 9) (x : Int32) (a : Nat) : fX8_isHalf S' x a = fX8_isHalf S x a := by
  unfold fX8_isHalf
  rw [h]
theorem dayOf_congr {S S' : St} (h : RB S S') (k a : Nat) : fX8_dayOf S' k a = fX8_dayOf S k a := by
  obtain ⟨⟨h8, h9, h20, h28, h30, h31, h32, h33, h34, h35⟩, h42, h43, h44, h45⟩ := h
  have key : ∀ r i, rX8_dayOf_56 S' k a r i = rX8_dayOf_56 S k a r i := by
    intro r
    induction r with
    | zero => exact fun i => rfl
    | succ r ih =>
      intro i
      rw [rX8_dayOf_56_s, rX8_dayOf_56_s, ih, h43, h44, h45, half_congr h9]
  unfold fX8_dayOf nam
  rw [h30, h8, h32, h31, h9, h33, h42, half_congr h9, key]
theorem public_congr {S S' : St} (h : S' 20 = S 20) (d : Int32) : fX8_publicBy S' d = fX8_publicBy S d := by
  have key : ∀ n, lX8_publicBy_4 S' d n = lX8_publicBy_4 S d n := by
    intro n
    induction n with
    | zero => rfl
    | succ n ih =>
      show iX8_publicBy_4 S' d n (lX8_publicBy_4 S' d n) = iX8_publicBy_4 S d n (lX8_publicBy_4 S d n)
      rw [ih]
      unfold iX8_publicBy_4
      rw [h]
  exact key 16
theorem firstOf_congr {S S' : St} (h : RB S S') (a : Nat) : fX8_firstOf S' a = fX8_firstOf S a := by
  have hd := dayOf_congr h
  obtain ⟨⟨h8, h9, h20, h28, h30, h31, h32, h33, h34, h35⟩, h42, h43, h44, h45⟩ := h
  have key : ∀ n, lX8_firstOf_4 S' a n = lX8_firstOf_4 S a n := by
    intro n
    induction n with
    | zero => rfl
    | succ n ih =>
      show iX8_firstOf_4 S' a n (lX8_firstOf_4 S' a n) = iX8_firstOf_4 S a n (lX8_firstOf_4 S a n)
      rw [ih]
      unfold iX8_firstOf_4
      rw [h34, hd, hd]
  unfold fX8_firstOf nsu
  rw [h28]
  exact key _
theorem bar_congr {S S' : St} (h : RB S S') (k a : Nat) : fX8_bar S' k a = fX8_bar S k a := by
  have hd := dayOf_congr h
  have hf := firstOf_congr h
  obtain ⟨⟨h8, h9, h20, h28, h30, h31, h32, h33, h34, h35⟩, h42, h43, h44, h45⟩ := h
  unfold fX8_bar
  rw [hd, hf, public_congr h20, half_congr h9, h32, h9, h35]
theorem acnt_congr {S S' : St} (h : S' 43 = S 43) (k : Nat) : ∀ m, acnt S' k m = acnt S k m := by
  intro m
  induction m with
  | zero => rfl
  | succ m ih =>
    show acnt S' k m + _ = acnt S k m + _
    rw [ih, h]
theorem PK_congr {S S' : St} (h : RB S S') (h65 : S' 65 = S 65) (h66 : S' 66 = S 66) (h67 : S' 67 = S 67) {k : Nat} (hP : PK S k) : PK S' k := by
  obtain ⟨⟨h8, h9, h20, h28, h30, h31, h32, h33, h34, h35⟩, h42, h43, h44, h45⟩ := h
  have ha := acnt_congr h43 k
  unfold PK npp nam at hP ⊢
  rw [h65, h66, h67, h42, h31, h33, h32, h43, h44, h45, ha]
  simp only [ha]
  exact hP
theorem PKs_congr {S S' : St} (h : RB S S') (h65 : S' 65 = S 65) (h66 : S' 66 = S 66) (h67 : S' 67 = S 67) (hP : PKs S) : PKs S' := fun k hk => PK_congr h h65 h66 h67 (hP k (by have := h.1.2.2.2.1; unfold nsu at hk ⊢; rwa [this] at hk))
/-- the claims that a win pays: scheme by scheme in the class, claim by claim in the reference -/
def paidRow (S : St) (k : Nat) : Nat → Int32 := fun c => if c < ncl S ∧ ¬ fX8_counts S c k = 0 then nI k else S 19 c
theorem counts_19 {S S' : St} (h : RB S S') (h13 : S' 13 = S 13) (h16 : S' 16 = S 16) (h18 : S' 18 = S 18) {c k : Nat} (h19 : S' 19 c = S 19 c) : fX8_counts S' c k = fX8_counts S c k := by
  unfold fX8_counts
  rw [h13, h16, h18, h19, bar_congr h, dayOf_congr h]
