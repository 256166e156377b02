/-! counting bits: the class's and the reference's way are one for sets of 16 -/
theorem nI_and (a b : Nat) : nI a &&& nI b = nI (a &&& b) := by
  apply Int32.toBitVec_inj.mp
  rw [Int32.toBitVec_and]
  show BitVec.ofNat 32 a &&& BitVec.ofNat 32 b = BitVec.ofNat 32 (a &&& b)
  exact (BitVec.ofNat_and ..).symm
theorem nI_or (a b : Nat) : nI a ||| nI b = nI (a ||| b) := by
  apply Int32.toBitVec_inj.mp
  rw [Int32.toBitVec_or]
  show BitVec.ofNat 32 a ||| BitVec.ofNat 32 b = BitVec.ofNat 32 (a ||| b)
  exact (BitVec.ofNat_or ..).symm
def nb1 (n : Nat) : Nat := n - (n / 2 &&& 1431655765)
def nb2 (n : Nat) : Nat := (n &&& 858993459) + (n / 4 &&& 858993459)
def nb3 (n : Nat) : Nat := (n + n / 16) &&& 252645135
def nb4 (n : Nat) : Nat := n + n / 256
def nb5 (n : Nat) : Nat := n + n / 65536
def nfbc (n : Nat) : Nat := nb5 (nb4 (nb3 (nb2 (nb1 n)))) &&& 63
def nbits (n : Nat) : Nat → Nat
  | 0 => 0
  | k + 1 => nbits n k + (n / 2 ^ k &&& 1)
theorem nbits_le (n : Nat) : ∀ j, nbits n j ≤ j := by
  intro j
  induction j with
  | zero => exact Nat.le_refl _
  | succ j ih =>
    have : (n / 2 ^ j &&& 1) ≤ 1 := Nat.and_le_right
    show nbits n j + _ ≤ _
    omega
theorem land_split {x y u v : Nat} (hy : y < 256) (hv : v < 256) : (256 * x + y) &&& (256 * u + v) = 256 * (x &&& u) + (y &&& v) := by
  have h1 : ((256 * x + y) &&& (256 * u + v)) % 2 ^ 8 = y &&& v := by
    rw [Nat.and_mod_two_pow, show (256 * x + y) % 2 ^ 8 = y by omega, show (256 * u + v) % 2 ^ 8 = v by omega]
  have h2 : ((256 * x + y) &&& (256 * u + v)) / 2 ^ 8 = x &&& u := by
    rw [Nat.and_div_two_pow, show (256 * x + y) / 2 ^ 8 = x by omega, show (256 * u + v) / 2 ^ 8 = u by omega]
  omega
def mb1 (n : Nat) : Nat := n - (n / 2 &&& 85)
def mb2 (n : Nat) : Nat := (n &&& 51) + (n / 4 &&& 51)
def mb3 (n : Nat) : Nat := (n + n / 16) &&& 15
theorem mk1 : ∀ t, t < 2 → ∀ b, b < 256 → (128 * t + b / 2) &&& 85 = b / 2 &&& 85 := by decide +kernel
theorem mk1b : ∀ a, a < 256 → a / 2 &&& 5592405 = a / 2 &&& 85 := by decide +kernel
theorem mk2 : ∀ t, t < 4 → ∀ b, b < 256 → (64 * t + b / 4) &&& 51 = b / 4 &&& 51 := by decide +kernel
theorem mk2b : ∀ a, a < 256 → a &&& 3355443 = a &&& 51 ∧ a / 4 &&& 3355443 = a / 4 &&& 51 := by decide +kernel
theorem mk3 : ∀ t, t < 5 → ∀ b, b < 69 → (b + b / 16 + 16 * t) &&& 15 = (b + b / 16) &&& 15 := by decide +kernel
theorem mk3b : ∀ a, a < 69 → (a + a / 16) &&& 986895 = (a + a / 16) &&& 15 := by decide +kernel
theorem mbb : ∀ a, a < 256 → mb1 a < 256 ∧ mb2 (mb1 a) < 69 ∧ mb2 (mb1 a) % 16 < 5 ∧ mb3 (mb2 (mb1 a)) = nbits a 8 := by decide +kernel
theorem nb1_s {a b : Nat} (ha : a < 256) (hb : b < 256) : nb1 (256 * a + b) = 256 * mb1 a + mb1 b := by
  unfold nb1 mb1
  rw [show (256 * a + b) / 2 = 256 * (a / 2) + (128 * (a % 2) + b / 2) by omega, show 1431655765 = 256 * 5592405 + 85 by decide, land_split (by omega) (by decide), mk1b a ha, mk1 (a % 2) (by omega) b hb]
  have h1 : (a / 2 &&& 85) ≤ a / 2 := Nat.and_le_left
  have h2 : (b / 2 &&& 85) ≤ b / 2 := Nat.and_le_left
  omega
theorem nb2_s {a b : Nat} (ha : a < 256) (hb : b < 256) : nb2 (256 * a + b) = 256 * mb2 a + mb2 b := by
  unfold nb2 mb2
  rw [show (256 * a + b) / 4 = 256 * (a / 4) + (64 * (a % 4) + b / 4) by omega, show 858993459 = 256 * 3355443 + 51 by decide, land_split hb (by decide), land_split (by omega) (by decide), (mk2b a ha).1, (mk2b a ha).2, mk2 (a % 4) (by omega) b hb]
  omega
theorem nb3_s {a b : Nat} (ha : a < 69) (hb : b < 69) (ha4 : a % 16 < 5) : nb3 (256 * a + b) = 256 * mb3 a + mb3 b := by
  unfold nb3 mb3
  rw [show 256 * a + b + (256 * a + b) / 16 = 256 * (a + a / 16) + (b + b / 16 + 16 * (a % 16)) by omega, show 252645135 = 256 * 986895 + 15 by decide, land_split (by omega) (by decide), mk3b a ha, mk3 (a % 16) ha4 b hb]
theorem and63 (n : Nat) : n &&& 63 = n % 64 := Nat.and_two_pow_sub_one_eq_mod n 6
theorem nbits_s {a b : Nat} (hb : b < 256) : nbits (256 * a + b) 16 = nbits b 8 + nbits a 8 := by
  have h : ∀ j, j ≤ 8 → nbits (256 * a + b) j = nbits b j := by
    intro j
    induction j with
    | zero => intro _; rfl
    | succ j ih =>
      intro hj
      show nbits (256 * a + b) j + _ = nbits b j + _
      rw [ih (by omega), Nat.and_one_is_mod, Nat.and_one_is_mod]
      have : ((256 * a + b) / 2 ^ j) % 2 = (b / 2 ^ j) % 2 := by
        match j, hj with
        | 0, _ => simp; omega
        | 1, _ => simp; omega
        | 2, _ => simp; omega
        | 3, _ => simp; omega
        | 4, _ => simp; omega
        | 5, _ => simp; omega
        | 6, _ => simp; omega
        | 7, _ => simp; omega
        | j + 8, h => omega
      rw [this]
  have h2 : ∀ j, nbits (256 * a + b) (8 + j) = nbits b 8 + nbits a j := by
    intro j
    induction j with
    | zero => exact h 8 (Nat.le_refl _)
    | succ j ih =>
      show nbits (256 * a + b) (8 + j) + ((256 * a + b) / 2 ^ (8 + j) &&& 1) = nbits b 8 + (nbits a j + (a / 2 ^ j &&& 1))
      rw [ih, show (256 * a + b) / 2 ^ (8 + j) = a / 2 ^ j by rw [Nat.pow_add, ← Nat.div_div_eq_div_mul, show (256 * a + b) / 2 ^ 8 = a by omega]]
      omega
  exact h2 8
theorem nfbc_eq {n : Nat} (h : n < 65536) : nfbc n = nbits n 16 := by
  have ha : n / 256 < 256 := by omega
  have hb : n % 256 < 256 := Nat.mod_lt _ (by decide)
  have e : n = 256 * (n / 256) + n % 256 := by omega
  generalize n / 256 = a at ha e
  generalize n % 256 = b at hb e
  subst e
  obtain ⟨p1, p2, p3, p4⟩ := mbb a ha
  obtain ⟨q1, q2, q3, q4⟩ := mbb b hb
  have l1 := nbits_le a 8
  have l2 := nbits_le b 8
  unfold nfbc
  rw [nb1_s ha hb, nb2_s p1 q1, nb3_s p2 q2 p3, p4, q4, nbits_s hb, and63]
  unfold nb5 nb4
  generalize nbits a 8 = i at l1 ⊢
  generalize nbits b 8 = m at l2 ⊢
  have h1 : (256 * i + m) / 256 = i := by omega
  rw [h1]
  have h2 : (256 * i + m + i) / 65536 = 0 := by omega
  rw [h2, Nat.add_zero, show 256 * i + m + i = 64 * (4 * i) + (m + i) by omega, Nat.mul_add_mod]
  omega
theorem bc1_n {n : Nat} (h : n < 2 ^ 31) : bc1 (nI n) = nI (nb1 n) := by
  unfold bc1 nb1
  rw [pk_ushrN (by omega) 1 1 (by decide), show (1431655765 : Int32) = nI 1431655765 by decide, nI_and, pk_sub]
  exact Nat.le_trans Nat.and_le_left (by omega)
theorem bc2_n {n : Nat} (h : n < 2 ^ 31) : bc2 (nI n) = nI (nb2 n) := by
  unfold bc2 nb2
  rw [pk_ushrN (by omega) 2 2 (by decide), show (858993459 : Int32) = nI 858993459 by decide, nI_and, nI_and, nI_add]
theorem bc3_n {n : Nat} (h : n < 2 ^ 31) : bc3 (nI n) = nI (nb3 n) := by
  unfold bc3 nb3
  rw [pk_ushrN (by omega) 4 4 (by decide), nI_add, show (252645135 : Int32) = nI 252645135 by decide, nI_and]
theorem bc4_n {n : Nat} (h : n < 2 ^ 31) : bc4 (nI n) = nI (nb4 n) := by
  unfold bc4 nb4
  rw [pk_ushrN (by omega) 8 8 (by decide), nI_add]
theorem bc5_n {n : Nat} (h : n < 2 ^ 31) : bc5 (nI n) = nI (nb5 n) := by
  unfold bc5 nb5
  rw [pk_ushrN (by omega) 16 16 (by decide), nI_add]
theorem fbc_n {n : Nat} (h : n < 65536) : fbc (nI n) = nI (nfbc n) := by
  have l1 : nb1 n ≤ n := Nat.sub_le _ _
  have l2 : nb2 (nb1 n) ≤ nb1 n + nb1 n / 4 := Nat.add_le_add Nat.and_le_left Nat.and_le_left
  have l3 : nb3 (nb2 (nb1 n)) ≤ nb2 (nb1 n) + nb2 (nb1 n) / 16 := Nat.and_le_left
  have l4 : nb4 (nb3 (nb2 (nb1 n))) = nb3 (nb2 (nb1 n)) + nb3 (nb2 (nb1 n)) / 256 := rfl
  unfold fbc nfbc
  rw [bc1_n (by omega), bc2_n (by omega), bc3_n (by omega), bc4_n (by omega), bc5_n (by omega), show (63 : Int32) = nI 63 by decide, nI_and]
theorem shr_cnt : ∀ i, i < 16 → ((nI i &&& 31).toBitVec.smod 32).toNat = i := by decide +kernel
theorem bits_n {n : Nat} (h : n < 65536) : ∀ j, j ≤ 16 → lX8_bits_4 (nI n) j = nI (nbits n j) := by
  intro j
  induction j with
  | zero => intro _; rfl
  | succ j ih =>
    intro hj
    show iX8_bits_4 (nI n) j (lX8_bits_4 (nI n) j) = _
    rw [ih (by omega)]
    unfold iX8_bits_4
    rw [pk_shrN (by omega) _ j (shr_cnt j (by omega)), show (1 : Int32) = nI 1 by decide, nI_and, nI_add]
    rfl
/-- the two ways are one -/
theorem fbc_bits {n : Nat} (h : n < 65536) : fbc (nI n) = fX8_bits (nI n) := by
  unfold fX8_bits
  rw [fbc_n h, bits_n h 16 (Nat.le_refl _), nfbc_eq h]
theorem bits_nat {n : Nat} (h : n < 65536) : fX8_bits (nI n) = nI (nbits n 16) := bits_n h 16 (Nat.le_refl _)
theorem bit_and1 (n j : Nat) : (n / 2 ^ j &&& 1) = if n.testBit j then 1 else 0 := by
  rw [Nat.and_one_is_mod, ← Nat.shiftRight_eq_div_pow]
  have : n.testBit j = decide (n >>> j % 2 = 1) := by
    rw [Nat.testBit_eq_decide_div_mod_eq, Nat.shiftRight_eq_div_pow]
  rw [this]
  rcases Nat.mod_two_eq_zero_or_one (n >>> j) with h | h <;> simp [h]
/-- more facts, no fewer bits -/
theorem nbits_mono {a b : Nat} (h : ∀ j, a.testBit j = true → b.testBit j = true) : ∀ j, nbits a j ≤ nbits b j := by
  intro j
  induction j with
  | zero => exact Nat.le_refl _
  | succ j ih =>
    show nbits a j + _ ≤ nbits b j + _
    rw [bit_and1, bit_and1]
    have := h j
    by_cases ha : a.testBit j = true
    · rw [if_pos ha, if_pos (this ha)]; omega
    · rw [if_neg ha]; omega
theorem nbits_zero : ∀ j, nbits 0 j = 0 := by
  intro j
  induction j with
  | zero => rfl
  | succ j ih =>
    show nbits 0 j + _ = 0
    rw [ih]
    simp
theorem nbits_pos {n : Nat} (h0 : n ≠ 0) (h : n < 65536) : 0 < nbits n 16 := by
  obtain ⟨i, hi⟩ := Nat.exists_testBit_of_ne_zero h0
  have hi16 : i < 16 := by
    rcases Nat.lt_or_ge i 16 with q | q
    · exact q
    · have hl : n < 2 ^ i := Nat.lt_of_lt_of_le h (show 2 ^ 16 ≤ 2 ^ i from Nat.pow_le_pow_right (by decide) q)
      rw [Nat.testBit_lt_two_pow hl] at hi
      exact absurd hi (by decide)
  have key : ∀ j, i < j → 0 < nbits n j := by
    intro j
    induction j with
    | zero => intro q; exact absurd q (Nat.not_lt_zero _)
    | succ j ih =>
      intro q
      show 0 < nbits n j + _
      by_cases hj : i = j
      · subst hj
        rw [bit_and1, if_pos hi]
        omega
      · have := ih (by omega)
        omega
  exact key 16 hi16
