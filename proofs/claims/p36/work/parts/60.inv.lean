/-! the invariant of a run: what holds of the merged state between two calls -/
/-- the reference's rows below 55, the class's own from there on -/
def mrg (A B : St) : St := fun k => if k < 55 then A k else B k
theorem mrg_lt {A B : St} {k : Nat} (h : k < 55) : mrg A B k = A k := if_pos h
theorem mrg_ge {A B : St} {k : Nat} (h : ¬ k < 55) : mrg A B k = B k := if_neg h
theorem mrg_self (S : St) : mrg S S = S := funext fun _ => ite_self _
def NPK (S : St) : Prop := ∀ k, npp S k ≤ 1 + nam S
/-- a row of days in their order -/
def DL (w : Nat → Int32) (d : Nat) (x : Int32) : Prop := (∀ i j, i < j → j < d → w i < w j) ∧ (∀ i, i < d → dayR (w i)) ∧ ∀ i, i < d → w i ≤ x
def PDD (S : St) : Prop := DL (S 63) (npd S) (S 1 0) ∧ npd S ≤ nsu S + nam S ∧ ∀ k, k < nsu S → ∀ j, j < npp S k → ∃ i, i < npd S ∧ S 63 i = S 66 (64 * k + j)
def PLX (S : St) : Prop := (∀ t, t < 8 → set16 (S 22 t)) ∧ (∀ a, a < 8 → set16 (S 61 a)) ∧ ∀ a, a < 8 → ∀ t, t < 8 → (ix (S 61 a)).testBit t = (ix (S 22 t)).testBit a
def OPX (S : St) : Prop := ∀ k, k < nsu S → ∃ n m, m ≤ 4 ∧ n ≤ 3060 + 30 * m ∧ S 36 k = nI n ∧ S 37 k = nI m
def TOD (S : St) : Prop := dayR (S 1 0)
def AMX (S : St) : Prop := ∀ i, i < nam S → ∃ n, n < nsu S ∧ S 43 i = nI n
def Inv (S : St) : Prop := MInv S ∧ KInv S ∧ ZR S ∧ NPK S ∧ PKs S ∧ SKs S ∧ PDD S ∧ DR S ∧ LK S ∧ PLX S ∧ OPX S ∧ TLD S ∧ TOD S ∧ STT S ∧ GA S ∧ AW S ∧ L16 S ∧ AMX S
theorem Inv.m {S : St} (h : Inv S) : MInv S := h.1
theorem Inv.k {S : St} (h : Inv S) : KInv S := h.2.1
theorem Inv.z {S : St} (h : Inv S) : ZR S := h.2.2.1
theorem Inv.n {S : St} (h : Inv S) : NPK S := h.2.2.2.1
theorem Inv.p {S : St} (h : Inv S) : PKs S := h.2.2.2.2.1
theorem Inv.s {S : St} (h : Inv S) : SKs S := h.2.2.2.2.2.1
theorem Inv.pd {S : St} (h : Inv S) : PDD S := h.2.2.2.2.2.2.1
theorem Inv.d {S : St} (h : Inv S) : DR S := h.2.2.2.2.2.2.2.1
theorem Inv.l {S : St} (h : Inv S) : LK S := h.2.2.2.2.2.2.2.2.1
theorem Inv.pl {S : St} (h : Inv S) : PLX S := h.2.2.2.2.2.2.2.2.2.1
theorem Inv.o {S : St} (h : Inv S) : OPX S := h.2.2.2.2.2.2.2.2.2.2.1
theorem Inv.t {S : St} (h : Inv S) : TLD S := h.2.2.2.2.2.2.2.2.2.2.2.1
theorem Inv.td {S : St} (h : Inv S) : TOD S := h.2.2.2.2.2.2.2.2.2.2.2.2.1
theorem Inv.st {S : St} (h : Inv S) : STT S := h.2.2.2.2.2.2.2.2.2.2.2.2.2.1
theorem Inv.g {S : St} (h : Inv S) : GA S := h.2.2.2.2.2.2.2.2.2.2.2.2.2.2.1
theorem Inv.a {S : St} (h : Inv S) : AW S := h.2.2.2.2.2.2.2.2.2.2.2.2.2.2.2.1
theorem Inv.b {S : St} (h : Inv S) : L16 S := h.2.2.2.2.2.2.2.2.2.2.2.2.2.2.2.2.1
theorem Inv.am {S : St} (h : Inv S) : AMX S := h.2.2.2.2.2.2.2.2.2.2.2.2.2.2.2.2.2
theorem MInv.cg {S S' : St} (h : MInv S) (e7 : S' 7 = S 7) (e15 : S' 15 = S 15) (e23 : S' 23 = S 23) (e28 : S' 28 = S 28) (e42 : S' 42 = S 42) (e16 : S' 16 = S 16) (e24 : S' 24 = S 24) (e25 : S' 25 = S 25) (e29 : S' 29 = S 29) (e30 : S' 30 = S 30) (e11 : S' 11 = S 11) (e14 : S' 14 = S 14) (e35 : S' 35 = S 35) (e54 : S' 54 = S 54) : MInv S' := h.congr ⟨e7, e15, e23, e28, e42, e16, e24, e25, e29, e30, e11, e14, e35, e54⟩
theorem KInv.cg {S S' : St} (h : KInv S) (e67 : S' 67 = S 67) (e64 : S' 64 = S 64) : KInv S' := by
  unfold KInv npp npd at h ⊢
  rw [e67, e64]
  exact h
theorem ZR.cg {S S' : St} (h : ZR S) (e7 : S' 7 = S 7) (e28 : S' 28 = S 28) (e12 : S' 12 = S 12) (e13 : S' 13 = S 13) (e14 : S' 14 = S 14) (e61 : S' 61 = S 61) (e34 : S' 34 = S 34) (e35 : S' 35 = S 35) (e37 : S' 37 = S 37) (e38 : S' 38 = S 38) (e39 : S' 39 = S 39) (e40 : S' 40 = S 40) (e41 : S' 41 = S 41) : ZR S' := by
  unfold ZR nsc nsu at h ⊢
  rw [e7, e28, e12, e13, e14, e61, e34, e35, e37, e38, e39, e40, e41]
  exact h
theorem NPK.cg {S S' : St} (h : NPK S) (e67 : S' 67 = S 67) (e42 : S' 42 = S 42) : NPK S' := by
  unfold NPK npp nam at h ⊢
  rw [e67, e42]
  exact h
theorem PK_cg {S S' : St} (h : PKs S) (e28 : S' 28 = S 28) (e67 : S' 67 = S 67) (e42 : S' 42 = S 42) (e65 : S' 65 = S 65) (e31 : S' 31 = S 31) (e66 : S' 66 = S 66) (e33 : S' 33 = S 33) (e43 : S' 43 = S 43) (e44 : S' 44 = S 44) (e45 : S' 45 = S 45) (e32 : S' 32 = S 32) : PKs S' := by
  have ha : ∀ k, acnt S' k = acnt S k := fun k => funext fun m => acnt_congr e43 k m
  unfold PKs PK nsu npp nam at h ⊢
  simp only [ha]
  rw [e28, e67, e42, e65, e31, e66, e33, e43, e44, e45, e32]
  exact h
theorem PKs.cg {S S' : St} (h : PKs S) (e28 : S' 28 = S 28) (e67 : S' 67 = S 67) (e42 : S' 42 = S 42) (e65 : S' 65 = S 65) (e31 : S' 31 = S 31) (e66 : S' 66 = S 66) (e33 : S' 33 = S 33) (e43 : S' 43 = S 43) (e44 : S' 44 = S 44) (e45 : S' 45 = S 45) (e32 : S' 32 = S 32) : PKs S' := PK_cg h e28 e67 e42 e65 e31 e66 e33 e43 e44 e45 e32
theorem SKs.cg {S S' : St} (h : SKs S) (e7 : S' 7 = S 7) (e9 : S' 9 = S 9) : SKs S' := by
  unfold SKs SK nsc at h ⊢
  rw [e7, e9]
  exact h
theorem PDD.cg {S S' : St} (h : PDD S) (e63 : S' 63 = S 63) (e64 : S' 64 = S 64) (e28 : S' 28 = S 28) (e67 : S' 67 = S 67) (e66 : S' 66 = S 66) (e42 : S' 42 = S 42) (e1 : S' 1 = S 1) : PDD S' := by
  unfold PDD DL npd nsu nam npp at h ⊢
  rw [e63, e64, e28, e67, e66, e42, e1]
  exact h
theorem DR.cg {S S' : St} (h : DR S) (e28 : S' 28 = S 28) (e67 : S' 67 = S 67) (e66 : S' 66 = S 66) (e15 : S' 15 = S 15) (e18 : S' 18 = S 18) (e16 : S' 16 = S 16) (e7 : S' 7 = S 7) : DR S' := by
  unfold DR nsu npp ncl nsc at h ⊢
  rw [e28, e67, e66, e15, e18, e16, e7]
  exact h
theorem LK.cg {S S' : St} (h : LK S) (e7 : S' 7 = S 7) (e11 : S' 11 = S 11) : LK S' := by
  unfold LK nsc at h ⊢
  rw [e7, e11]
  exact h
theorem PLX.cg {S S' : St} (h : PLX S) (e61 : S' 61 = S 61) (e22 : S' 22 = S 22) : PLX S' := by
  unfold PLX at h ⊢
  rw [e61, e22]
  exact h
theorem OPX.cg {S S' : St} (h : OPX S) (e28 : S' 28 = S 28) (e36 : S' 36 = S 36) (e37 : S' 37 = S 37) : OPX S' := by
  unfold OPX nsu at h ⊢
  rw [e28, e36, e37]
  exact h
theorem TLD.cg {S S' : St} (h : TLD S) (e51 : S' 51 = S 51) : TLD S' := by
  unfold TLD at h ⊢
  rw [e51]
  exact h
theorem TOD.cg {S S' : St} (h : TOD S) (e1 : S' 1 = S 1) : TOD S' := by
  unfold TOD at h ⊢
  rw [e1]
  exact h
theorem STT.cg {S S' : St} (h : STT S) (e28 : S' 28 = S 28) (e34 : S' 34 = S 34) : STT S' := by
  unfold STT nsu at h ⊢
  rw [e28, e34]
  exact h
theorem gsum_congr {S S' : St} {x : Int32} : ∀ n, (∀ i, i < n → S' 24 i = S 24 i ∧ S' 26 i = S 26 i) → gsum S' x n = gsum S x n := by
  intro n
  induction n with
  | zero => exact fun _ => rfl
  | succ n ih =>
    intro h
    show gsum S' x n + _ = gsum S x n + _
    rw [ih (fun i hi => h i (by omega)), (h n (by omega)).1, (h n (by omega)).2]
theorem GA.cg {S S' : St} (h : GA S) (e60 : S' 60 = S 60) (e24 : S' 24 = S 24) (e26 : S' 26 = S 26) (e23 : S' 23 = S 23) : GA S' := by
  intro t ht
  rw [e60, h t ht]
  unfold ndl
  rw [e23]
  exact (gsum_congr _ (fun i _ => ⟨congrFun e24 i, congrFun e26 i⟩)).symm
theorem AW.cg {S S' : St} (h : AW S) (e62 : S' 62 = S 62) (e54 : S' 54 = S 54) (e52 : S' 52 = S 52) : AW S' := by
  unfold AW at h ⊢
  rw [e62, e54, e52]
  exact h
theorem L16.cg {S S' : St} (h : L16 S) (e21 : S' 21 = S 21) : L16 S' := by
  unfold L16 at h ⊢
  rw [e21]
  exact h
theorem AMX.cg {S S' : St} (h : AMX S) (e42 : S' 42 = S 42) (e43 : S' 43 = S 43) (e28 : S' 28 = S 28) : AMX S' := by
  unfold AMX nam nsu at h ⊢
  rw [e42, e43, e28]
  exact h
theorem upd_at (f : Nat → Int32) (i : Nat) (v : Int32) : upd f i v i = v := if_pos rfl
theorem upd_off {f : Nat → Int32} {i j : Nat} {v : Int32} (h : j ≠ i) : upd f i v j = f j := if_neg h
theorem upd_all {P : Int32 → Prop} {f : Nat → Int32} {v : Int32} (h : ∀ j, P (f j)) (hv : P v) (i : Nat) : ∀ j, P (upd f i v j) := fun j => by
  by_cases e : j = i
  · rw [e, upd_at]; exact hv
  · rw [upd_off e]; exact h j
theorem upd_same (f : Nat → Int32) (i : Nat) : upd f i (f i) = f := funext fun j => by
  by_cases e : j = i
  · rw [e, upd_at]
  · rw [upd_off e]
/-- a count goes up -/
theorem cnt_up {S S' : St} {r n : Nat} (e : S' r = upd (S r) 0 (S r 0 + 1)) (h : S r 0 = nI n) (hn : n < 2 ^ 30) : S' r 0 = nI (n + 1) ∧ ix (S' r 0) = n + 1 := by
  have e2 : S' r 0 = nI (n + 1) := by rw [e, upd_at, h, show (1 : Int32) = nI 1 by decide, nI_add]
  exact ⟨e2, by rw [e2]; exact nI_clamp (by omega)⟩
theorem cnt_m {S' : St} {r m K : Nat} (h : S' r 0 = nI m) (hm : m ≤ K) (hK : K < 2 ^ 31) : S' r 0 = nI (ix (S' r 0)) ∧ ix (S' r 0) ≤ K := by
  have e : ix (S' r 0) = m := by rw [h]; exact nI_clamp (by omega)
  rw [e]
  exact ⟨h, hm⟩
theorem ne_ix {n K : Nat} {x c : Int32} (hx : x = nI n) (hn : n ≤ K) (h : ¬ x = c) (hc : c = nI K) (hK : K < 2 ^ 31) : n < K := by
  rcases Nat.lt_or_ge n K with q | q
  · exact q
  · exact absurd (by rw [hx, hc, Nat.le_antisymm hn q]) h
/-- OPN, and the extensions' bound -/
theorem OPX.o {S : St} (h : OPX S) : OPN S := fun k hk => by
  obtain ⟨n, m, hm, hn, e, _⟩ := h k hk
  exact ⟨n, by omega, e⟩
theorem OPX.x {S : St} (h : OPX S) : ∀ k, k < nsu S → ∃ n, n ≤ 4 ∧ S 37 k = nI n := fun k hk => by
  obtain ⟨n, m, hm, hn, _, e⟩ := h k hk
  exact ⟨m, hm, e⟩
theorem PDD.p {S : St} (h : PDD S) : PD S := ⟨h.1.1, fun i hi e => by
  obtain ⟨n, hn, en⟩ := h.1.2.1 i hi
  rw [en] at e
  exact nI_ne1 (by omega) e, h.2.2⟩
theorem and_pow (u t : Nat) : u &&& 2 ^ t = 0 ↔ u.testBit t = false := by
  constructor
  · intro h
    have := congrArg (fun x => x.testBit t) h
    simpa [Nat.testBit_and, Nat.testBit_two_pow_self] using this
  · intro h
    apply Nat.eq_of_testBit_eq
    intro j
    rw [Nat.testBit_and, Nat.testBit_two_pow, Nat.zero_testBit]
    by_cases e : t = j
    · subst e
      rw [h, Bool.false_and]
    · rw [decide_eq_false e, Bool.and_false]
theorem shr_bit {m a : Nat} (hm : m < 65536) (ha : a < 16) : (((nI m >>> (nI a &&& 31)) &&& 1) = 1) ↔ m.testBit a = true := by
  rw [pk_shrN (by omega) _ a (shr_cnt a ha), show (1 : Int32) = nI 1 by decide, nI_and, bit_and1]
  cases m.testBit a
  · simp
    decide
  · simp
theorem PLX.p {S : St} (h : PLX S) : PLN S := by
  intro a ha t ht
  obtain ⟨m, hm, em⟩ := h.1 t ht
  obtain ⟨u, hu, eu⟩ := h.2.1 a ha
  have e := h.2.2 a ha t ht
  rw [em, eu, show ix (nI m) = m from nI_clamp (by omega), show ix (nI u) = u from nI_clamp (by omega)] at e
  have key : nI (u &&& 2 ^ t) = (0 : Int32) ↔ u.testBit t = false := by
    rw [show (0 : Int32) = nI 0 by decide, nI_eq (Nat.lt_of_le_of_lt Nat.and_le_left (by omega)) (by decide), and_pow]
  unfold fX4_isPlannedBy
  rw [em, eu, shr_bit hm (by omega), ← e, shl1 t (by omega), nI_and]
  by_cases hb : nI (u &&& 2 ^ t) = 0
  · rw [if_pos hb, key.mp hb]
    simp
  · have h1 : u.testBit t = true := by
      cases hq : u.testBit t
      · exact absurd (key.mpr hq) hb
      · rfl
    rw [if_neg hb, h1]
    simp
theorem Inv.w {S : St} (h : Inv S) : WH S := ⟨h.m, h.p, h.s, h.d, h.l, h.pl.p, h.st⟩
