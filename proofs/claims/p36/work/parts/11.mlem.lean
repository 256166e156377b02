/-! what the checks of the reference give -/
theorem in_nar (v lo hi : Int32) : narrow .boolean (.int (fX8_in v lo hi)) = .int (fX8_in v lo hi) := by
  unfold fX8_in
  split
  · rfl
  · split <;> rfl
theorem in_ok {v lo hi : Int32} (h : ¬ fX8_in v lo hi = 0) : ¬ v < lo ∧ ¬ hi < v := by
  unfold fX8_in at h
  split at h
  · exact absurd rfl h
  · rename_i h1
    split at h
    · exact absurd rfl h
    · rename_i h2
      exact ⟨h1, h2⟩
theorem in_i {v lo hi : Int32} (h1 : ¬ v < lo) (h2 : ¬ hi < v) : fX8_in v lo hi = 1 := by
  unfold fX8_in
  rw [if_neg h1, if_neg h2]
theorem in_lt {v hi : Int32} {n : Nat} (hn : hi.toInt = (n : Int) - 1) (h : ¬ fX8_in v 0 hi = 0) : vp_in v n := by
  obtain ⟨h1, h2⟩ := in_ok h
  rw [vp_in_iff]
  have e1 : ¬ v.toInt < 0 := fun q => h1 (Int32.lt_iff_toInt_lt.mpr q)
  have e2 : ¬ hi.toInt < v.toInt := fun q => h2 (Int32.lt_iff_toInt_lt.mpr q)
  omega
theorem vp_mono {x : Int32} {n k : Nat} (h : vp_in x n) (hk : n ≤ k) : vp_in x k := fun q => h (q.imp id (fun q => Nat.le_trans hk q))
theorem in_in {v : Int32} (n : Nat) {hi : Int32} (hn : hi.toInt = (n : Int) - 1) (h : ¬ fX8_in v 0 hi = 0) : vp_in v n := in_lt hn h
theorem isFirm_in {f : Int32} (h : ¬ fX8_isFirm f = 0) : vp_in f 6 := in_lt (by decide) h
theorem isTeller_in {f : Int32} (h : ¬ fX8_isTeller f = 0) : vp_in f 8 := in_lt (by decide) h
theorem nI_m1 {n : Nat} (hn : n < 2 ^ 30) : (nI n - 1).toInt = (n : Int) - 1 := pk_sub_toInt (b := 1) hn (by decide)
theorem isSuit_n {S : St} {k : Int32} (hN : MInv S) (h : ¬ fX8_isSuit S k = 0) : vp_in k (nsu S) := by
  unfold fX8_isSuit at h
  rw [hN.n28] at h
  have := hN.b28
  exact in_lt (nI_m1 (by omega)) h
theorem isSuit_in {S : St} {k : Int32} (hN : MInv S) (h : ¬ fX8_isSuit S k = 0) : vp_in k 12 := vp_mono (isSuit_n hN h) hN.b28
theorem isScheme_n {S : St} {k : Int32} (hN : MInv S) (h : ¬ fX8_isScheme S k = 0) : vp_in k (nsc S) := by
  unfold fX8_isScheme at h
  rw [hN.n7] at h
  have := hN.b7
  exact in_lt (nI_m1 (by omega)) h
theorem isScheme_in {S : St} {k : Int32} (hN : MInv S) (h : ¬ fX8_isScheme S k = 0) : vp_in k 8 := vp_mono (isScheme_n hN h) hN.b7
theorem isClaim_n {S : St} {k : Int32} (hN : MInv S) (h : ¬ fX8_in k 0 ((S 15 0) - 1) = 0) : vp_in k (ncl S) := by
  rw [hN.n15] at h
  have := hN.b15
  exact in_lt (nI_m1 (by omega)) h
theorem isClaim_in {S : St} {k : Int32} (hN : MInv S) (h : ¬ fX8_in k 0 ((S 15 0) - 1) = 0) : vp_in k 40 := vp_mono (isClaim_n hN h) hN.b15
theorem cnt_in {x : Int32} {n K : Nat} {c : Int32} (hx : x = nI n) (hn : n ≤ K) (h : ¬ x = c) (hc : c = nI K := by decide) (hK : K < 2 ^ 31 := by decide) : vp_in x K := by
  rw [hx]
  refine vp_in_nI ?_ hK
  rcases Nat.lt_or_ge n K with q | q
  · exact q
  · exact absurd (by rw [hx, hc, Nat.le_antisymm hn q]) h
theorem place_nI (f t : Nat) : fX8_place (nI f) (nI t) = nI (8 * f + t) := by
  unfold fX8_place
  rw [show (8 : Int32) = nI 8 by decide, pk_mul, nI_add]
theorem place_in {f t : Nat} (hf : f < 6) (ht : t < 8) : vp_in (fX8_place (nI f) (nI t)) 48 := by
  rw [place_nI]
  exact vp_in_nI (by omega) (by decide)
theorem place_in2 {f t : Int32} (hf : vp_in f 6) (ht : vp_in t 8) : vp_in (fX8_place f t) 48 := by
  rw [vp_ixe hf, vp_ixe ht]
  exact place_in (vp_ixl hf) (vp_ixl ht)
