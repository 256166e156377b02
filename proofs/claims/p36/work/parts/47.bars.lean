/-! what is public, who is first, what bars: one for the class and the reference -/
theorem or_0 (x : Int32) : x ||| 0 = x := by
  apply Int32.toBitVec_inj.mp
  rw [Int32.toBitVec_or]
  simp
theorem and_as (x y z : Int32) : x &&& y &&& z = x &&& (y &&& z) := by
  apply Int32.toBitVec_inj.mp
  rw [Int32.toBitVec_and, Int32.toBitVec_and, Int32.toBitVec_and, Int32.toBitVec_and, BitVec.and_assoc]
theorem public_eq (S : St) (d : Int32) : fX7_publicBy S d = fX8_publicBy S d := by
  have key : ∀ n, lX7_publicBy_4 S d n = lX8_publicBy_4 S d n := by
    intro n
    induction n with
    | zero => rfl
    | succ n ih =>
      show iX7_publicBy_4 S d n (lX7_publicBy_4 S d n) = iX8_publicBy_4 S d n (lX8_publicBy_4 S d n)
      rw [ih]
      unfold iX7_publicBy_4 iX8_publicBy_4
      rw [or_0]
  exact key 16
theorem shl1 : ∀ i, i < 16 → (1 : Int32) <<< (nI i &&& 31) = nI (2 ^ i) := by decide +kernel
theorem public_set (S : St) (d : Int32) : set16 (fX8_publicBy S d) := by
  have key : ∀ n, n ≤ 16 → ∃ m, m < 2 ^ n ∧ lX8_publicBy_4 S d n = nI m := by
    intro n
    induction n with
    | zero => exact fun _ => ⟨0, by decide, rfl⟩
    | succ n ih =>
      intro hn
      obtain ⟨m, hm, e⟩ := ih (by omega)
      have hp : 2 ^ (n + 1) = 2 * 2 ^ n := by rw [Nat.pow_succ]; omega
      show ∃ m, m < 2 ^ (n + 1) ∧ iX8_publicBy_4 S d n (lX8_publicBy_4 S d n) = nI m
      rw [e]
      unfold iX8_publicBy_4
      rw [or_0, shl1 n (by omega), nI_or]
      split
      · exact ⟨m, by omega, rfl⟩
      · split
        · exact ⟨m, by omega, rfl⟩
        · exact ⟨m ||| 2 ^ n, Nat.or_lt_two_pow (by omega) (by omega), rfl⟩
  obtain ⟨m, hm, e⟩ := key 16 (Nat.le_refl _)
  exact ⟨m, hm, e⟩
theorem public_bits (S : St) (d : Int32) : fbc (fX7_publicBy S d) = fX8_bits (fX8_publicBy S d) := by
  rw [public_eq]
  obtain ⟨n, hn, e⟩ := public_set S d
  rw [e, fbc_bits hn]
/-- all suits' papers, all schemes' sets -/
def PKs (S : St) : Prop := ∀ k, k < nsu S → PK S k
def SKs (S : St) : Prop := ∀ a, a < nsc S → SK S a
theorem nI_ne1 {n : Nat} (h : n < 2 ^ 31 - 1) : ¬ nI n = (-1 : Int32) := by
  intro e
  have h2 : (nI n).toInt = (-1 : Int32).toInt := by rw [e]
  rw [nI_toInt (by omega)] at h2
  have : ((-1 : Int32).toInt) = -1 := by decide
  omega
theorem first_eq {S : St} {a : Nat} (hP : PKs S) (h9 : SK S a) (hb : nsu S ≤ 12) : fX7_firstFor S a = fX8_firstOf S a := by
  have key : ∀ n, n ≤ nsu S → (lX7_firstFor_7 S a n).2 = lX8_firstOf_4 S a n ∧ (lX8_firstOf_4 S a n = -1 ∨ ∃ k, k < n ∧ lX8_firstOf_4 S a n = nI k ∧ (lX7_firstFor_7 S a n).1 = fX8_dayOf S k a) := by
    intro n
    induction n with
    | zero => exact fun _ => ⟨rfl, Or.inl rfl⟩
    | succ n ih =>
      intro hn
      obtain ⟨e, hx⟩ := ih (by omega)
      have hc := cover_eq (hP n (by omega)) h9
      show (iX7_firstFor_7 S a n (lX7_firstFor_7 S a n).1 (lX7_firstFor_7 S a n).2).2 = iX8_firstOf_4 S a n (lX8_firstOf_4 S a n) ∧ (iX8_firstOf_4 S a n (lX8_firstOf_4 S a n) = -1 ∨ ∃ k, k < n + 1 ∧ iX8_firstOf_4 S a n (lX8_firstOf_4 S a n) = nI k ∧ (iX7_firstFor_7 S a n (lX7_firstFor_7 S a n).1 (lX7_firstFor_7 S a n).2).1 = fX8_dayOf S k a)
      rw [e]
      have keep : lX8_firstOf_4 S a n = -1 ∨ ∃ k, k < n + 1 ∧ lX8_firstOf_4 S a n = nI k ∧ (lX7_firstFor_7 S a n).1 = fX8_dayOf S k a := hx.imp id (fun ⟨k, h1, h2⟩ => ⟨k, by omega, h2⟩)
      unfold iX7_firstFor_7 iX8_firstOf_4
      rw [hc]
      by_cases h3 : S 34 n = 3
      · rw [if_pos h3, if_pos h3]
        exact ⟨rfl, keep⟩
      · rw [if_neg h3, if_neg h3]
        by_cases hd : fX8_dayOf S n a = -1
        · rw [if_pos hd, if_pos hd]
          exact ⟨rfl, keep⟩
        · rw [if_neg hd, if_neg hd]
          rcases hx with hm | ⟨k, hk, ek, ed⟩
          · rw [hm, if_pos rfl, if_pos rfl]
            exact ⟨rfl, Or.inr ⟨n, by omega, rfl, rfl⟩⟩
          · have hne : ¬ lX8_firstOf_4 S a n = -1 := by rw [ek]; exact nI_ne1 (by omega)
            rw [if_neg hne, if_neg hne, ed, show ix (lX8_firstOf_4 S a n) = k by rw [ek]; exact nI_clamp (by omega)]
            by_cases hle : fX8_dayOf S k a ≤ fX8_dayOf S n a
            · rw [if_pos hle, if_pos hle]
              exact ⟨rfl, Or.inr ⟨k, by omega, ek, rfl⟩⟩
            · rw [if_neg hle, if_neg hle]
              exact ⟨rfl, Or.inr ⟨n, by omega, rfl, rfl⟩⟩
  exact (key (nsu S) (Nat.le_refl _)).1
theorem bar_eq {S : St} {k a : Nat} (hP : PKs S) (hk : k < nsu S) (h9 : SK S a) (hb : nsu S ≤ 12) : fX7_barOf S k a = fX8_bar S k a := by
  unfold fX7_barOf fX8_bar fX7_restsOnThePublic
  rw [cover_eq (hP k hk) h9, first_eq hP h9 hb, public_eq, half_eq h9.s (public_set S _), and_as]
  by_cases h1 : fX8_dayOf S k a = -1
  · rw [if_pos h1, if_pos h1]
  · rw [if_neg h1, if_neg h1]
    by_cases h2 : fX8_firstOf S a = nI k
    · rw [if_pos h2, if_pos h2]
      by_cases h3 : fX8_isHalf S (fX8_publicBy S (fX8_dayOf S k a)) a = 0
      · rw [if_pos h3, if_pos h3, if_pos rfl]
      · rw [if_neg h3, if_neg h3]
        by_cases h4 : S 32 k &&& (S 9 a &&& (fX8_publicBy S (fX8_dayOf S k a) ^^^ (-1))) = 0
        · rw [if_pos h4, if_pos h4]
          by_cases h5 : S 35 k = 0
          · rw [if_pos h5, if_pos h5, if_neg (by decide)]
          · rw [if_neg h5, if_neg h5, if_pos rfl]
        · rw [if_neg h4, if_neg h4, if_pos rfl]
    · rw [if_neg h2, if_neg h2]
