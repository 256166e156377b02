/-! what a round leaves as it was -/
def SU (cs : List Nat) (S S' : St) : Prop := ∀ r, (r < 55 ∨ 64 < r) → r ∉ cs → S' r = S r
def LU (ls : List Nat) (L L' : St) : Prop := ∀ r, r ∉ ls → L' r = L r
theorem SU.rf (S : St) : SU [] S S := fun _ _ _ => rfl
theorem LU.rf (L : St) : LU [] L L := fun _ _ => rfl
theorem nm_of {cs rs : List Nat} (d : rs.all (fun r => !cs.contains r) = true) : ∀ r ∈ rs, r ∉ cs := by
  intro r hr hc
  have := List.all_eq_true.mp d r hr
  simp [hc] at this
theorem up_nm {S : St} {cs : List Nat} {k i : Nat} {v : Int32} {r : Nat} (hk : k ∈ cs) (hn : r ∉ cs) : up S k i v r = S r := up_ne (fun e => hn (e ▸ hk))
theorem upr_nm {S : St} {cs : List Nat} {k : Nat} {w : Nat → Int32} {r : Nat} (hk : k ∈ cs) (hn : r ∉ cs) : upr S k w r = S r := upr_ne (fun e => hn (e ▸ hk))
theorem mrg_SU {cs : List Nat} {S A B : St} (hA : ∀ r, r ∉ cs → A r = S r) (hB : ∀ r, r ∉ cs → B r = S r) : SU cs S (mrg A B) := by
  intro r hr hn
  rcases Nat.lt_or_ge r 55 with q | q
  · rw [mrg_lt q]; exact hA r hn
  · rw [mrg_ge (by omega)]; exact hB r hn
theorem RQ.cg {cs ls : List Nat} {S S' L L' : St} (h : RQ S L) (hs : SU cs S S') (hl : LU ls L L') (d2 : [11].all (fun r => !ls.contains r) = true := by decide) (d : [1, 7, 15, 23, 28, 42, 6].all (fun r => !cs.contains r) = true := by decide) : RQ S' L' := by
  have e1 : S' 1 = S 1 := hs 1 (by decide) (nm_of d 1 (by decide))
  have e7 : S' 7 = S 7 := hs 7 (by decide) (nm_of d 7 (by decide))
  have e15 : S' 15 = S 15 := hs 15 (by decide) (nm_of d 15 (by decide))
  have e23 : S' 23 = S 23 := hs 23 (by decide) (nm_of d 23 (by decide))
  have e28 : S' 28 = S 28 := hs 28 (by decide) (nm_of d 28 (by decide))
  have e42 : S' 42 = S 42 := hs 42 (by decide) (nm_of d 42 (by decide))
  have e6 : S' 6 = S 6 := hs 6 (by decide) (nm_of d 6 (by decide))
  have l11 : L' 11 = L 11 := hl 11 (nm_of d2 11 (by decide))
  unfold RQ at h ⊢
  rw [e1, e7, e15, e23, e28, e42, e6, l11]
  exact h
theorem RH.cg {cs ls : List Nat} {S S' L L' : St} (h : RH S L) (hs : SU cs S S') (hl : LU ls L L') (d2 : [0].all (fun r => !ls.contains r) = true := by decide) (d : [8, 9, 10, 11, 12, 13, 14].all (fun r => !cs.contains r) = true := by decide) : RH S' L' := by
  have e8 : S' 8 = S 8 := hs 8 (by decide) (nm_of d 8 (by decide))
  have e9 : S' 9 = S 9 := hs 9 (by decide) (nm_of d 9 (by decide))
  have e10 : S' 10 = S 10 := hs 10 (by decide) (nm_of d 10 (by decide))
  have e11 : S' 11 = S 11 := hs 11 (by decide) (nm_of d 11 (by decide))
  have e12 : S' 12 = S 12 := hs 12 (by decide) (nm_of d 12 (by decide))
  have e13 : S' 13 = S 13 := hs 13 (by decide) (nm_of d 13 (by decide))
  have e14 : S' 14 = S 14 := hs 14 (by decide) (nm_of d 14 (by decide))
  have l0 : L' 0 = L 0 := hl 0 (nm_of d2 0 (by decide))
  unfold RH at h ⊢
  rw [e8, e9, e10, e11, e12, e13, e14, l0]
  exact h
theorem HR.cg {cs : List Nat} {S S' : St} (h : HR S) (hs : SU cs S S') (d : [7, 8, 9, 10, 11, 12, 13].all (fun r => !cs.contains r) = true := by decide) : HR S' := by
  have e7 : S' 7 = S 7 := hs 7 (by decide) (nm_of d 7 (by decide))
  have e8 : S' 8 = S 8 := hs 8 (by decide) (nm_of d 8 (by decide))
  have e9 : S' 9 = S 9 := hs 9 (by decide) (nm_of d 9 (by decide))
  have e10 : S' 10 = S 10 := hs 10 (by decide) (nm_of d 10 (by decide))
  have e11 : S' 11 = S 11 := hs 11 (by decide) (nm_of d 11 (by decide))
  have e12 : S' 12 = S 12 := hs 12 (by decide) (nm_of d 12 (by decide))
  have e13 : S' 13 = S 13 := hs 13 (by decide) (nm_of d 13 (by decide))
  unfold HR nsc at h ⊢
  rw [e7, e8, e9, e10, e11, e12, e13]
  exact h
theorem RC.cg {cs ls : List Nat} {S S' L L' : St} (h : RC S L) (hs : SU cs S S') (hl : LU ls L L') (d2 : [1, 2].all (fun r => !ls.contains r) = true := by decide) (d : [15, 7, 16, 17, 18, 19].all (fun r => !cs.contains r) = true := by decide) : RC S' L' := by
  have e15 : S' 15 = S 15 := hs 15 (by decide) (nm_of d 15 (by decide))
  have e7 : S' 7 = S 7 := hs 7 (by decide) (nm_of d 7 (by decide))
  have e16 : S' 16 = S 16 := hs 16 (by decide) (nm_of d 16 (by decide))
  have e17 : S' 17 = S 17 := hs 17 (by decide) (nm_of d 17 (by decide))
  have e18 : S' 18 = S 18 := hs 18 (by decide) (nm_of d 18 (by decide))
  have e19 : S' 19 = S 19 := hs 19 (by decide) (nm_of d 19 (by decide))
  have l1 : L' 1 = L 1 := hl 1 (nm_of d2 1 (by decide))
  have l2 : L' 2 = L 2 := hl 2 (nm_of d2 2 (by decide))
  unfold RC ncl nsc at h ⊢
  rw [e15, e7, e16, e17, e18, e19, l1, l2]
  exact h
theorem RPB.cg {cs ls : List Nat} {S S' L L' : St} (h : RPB S L) (hs : SU cs S S') (hl : LU ls L L') (d2 : [3].all (fun r => !ls.contains r) = true := by decide) (d : [20, 1].all (fun r => !cs.contains r) = true := by decide) : RPB S' L' := by
  have e20 : S' 20 = S 20 := hs 20 (by decide) (nm_of d 20 (by decide))
  have e1 : S' 1 = S 1 := hs 1 (by decide) (nm_of d 1 (by decide))
  have l3 : L' 3 = L 3 := hl 3 (nm_of d2 3 (by decide))
  unfold RPB at h ⊢
  rw [e20, e1, l3]
  exact h
theorem RT.cg {cs ls : List Nat} {S S' L L' : St} (h : RT S L) (hs : SU cs S S') (hl : LU ls L L') (d2 : [4].all (fun r => !ls.contains r) = true := by decide) (d : [21, 22, 49, 50, 46, 47, 48].all (fun r => !cs.contains r) = true := by decide) : RT S' L' := by
  have e21 : S' 21 = S 21 := hs 21 (by decide) (nm_of d 21 (by decide))
  have e22 : S' 22 = S 22 := hs 22 (by decide) (nm_of d 22 (by decide))
  have e49 : S' 49 = S 49 := hs 49 (by decide) (nm_of d 49 (by decide))
  have e50 : S' 50 = S 50 := hs 50 (by decide) (nm_of d 50 (by decide))
  have e46 : S' 46 = S 46 := hs 46 (by decide) (nm_of d 46 (by decide))
  have e47 : S' 47 = S 47 := hs 47 (by decide) (nm_of d 47 (by decide))
  have e48 : S' 48 = S 48 := hs 48 (by decide) (nm_of d 48 (by decide))
  have l4 : L' 4 = L 4 := hl 4 (nm_of d2 4 (by decide))
  unfold RT at h ⊢
  rw [e21, e22, e49, e50, e46, e47, e48, l4]
  exact h
theorem RD.cg {cs ls : List Nat} {S S' L L' : St} (h : RD S L) (hs : SU cs S S') (hl : LU ls L L') (d2 : [5].all (fun r => !ls.contains r) = true := by decide) (d : [23, 24, 25, 26, 27].all (fun r => !cs.contains r) = true := by decide) : RD S' L' := by
  have e23 : S' 23 = S 23 := hs 23 (by decide) (nm_of d 23 (by decide))
  have e24 : S' 24 = S 24 := hs 24 (by decide) (nm_of d 24 (by decide))
  have e25 : S' 25 = S 25 := hs 25 (by decide) (nm_of d 25 (by decide))
  have e26 : S' 26 = S 26 := hs 26 (by decide) (nm_of d 26 (by decide))
  have e27 : S' 27 = S 27 := hs 27 (by decide) (nm_of d 27 (by decide))
  have l5 : L' 5 = L 5 := hl 5 (nm_of d2 5 (by decide))
  unfold RD ndl at h ⊢
  rw [e23, e24, e25, e26, e27, l5]
  exact h
theorem RU.cg {cs ls : List Nat} {S S' L L' : St} (h : RU S L) (hs : SU cs S S') (hl : LU ls L L') (d2 : [6, 8].all (fun r => !ls.contains r) = true := by decide) (d : [29, 30, 33, 34, 36, 37, 35, 38, 41, 39, 40].all (fun r => !cs.contains r) = true := by decide) : RU S' L' := by
  have e29 : S' 29 = S 29 := hs 29 (by decide) (nm_of d 29 (by decide))
  have e30 : S' 30 = S 30 := hs 30 (by decide) (nm_of d 30 (by decide))
  have e33 : S' 33 = S 33 := hs 33 (by decide) (nm_of d 33 (by decide))
  have e34 : S' 34 = S 34 := hs 34 (by decide) (nm_of d 34 (by decide))
  have e36 : S' 36 = S 36 := hs 36 (by decide) (nm_of d 36 (by decide))
  have e37 : S' 37 = S 37 := hs 37 (by decide) (nm_of d 37 (by decide))
  have e35 : S' 35 = S 35 := hs 35 (by decide) (nm_of d 35 (by decide))
  have e38 : S' 38 = S 38 := hs 38 (by decide) (nm_of d 38 (by decide))
  have e41 : S' 41 = S 41 := hs 41 (by decide) (nm_of d 41 (by decide))
  have e39 : S' 39 = S 39 := hs 39 (by decide) (nm_of d 39 (by decide))
  have e40 : S' 40 = S 40 := hs 40 (by decide) (nm_of d 40 (by decide))
  have l6 : L' 6 = L 6 := hl 6 (nm_of d2 6 (by decide))
  have l8 : L' 8 = L 8 := hl 8 (nm_of d2 8 (by decide))
  unfold RU at h ⊢
  rw [e29, e30, e33, e34, e36, e37, e35, e38, e41, e39, e40, l6, l8]
  exact h
theorem UR.cg {cs : List Nat} {S S' : St} (h : UR S) (hs : SU cs S S') (d : [28, 29, 30, 33, 38].all (fun r => !cs.contains r) = true := by decide) : UR S' := by
  have e28 : S' 28 = S 28 := hs 28 (by decide) (nm_of d 28 (by decide))
  have e29 : S' 29 = S 29 := hs 29 (by decide) (nm_of d 29 (by decide))
  have e30 : S' 30 = S 30 := hs 30 (by decide) (nm_of d 30 (by decide))
  have e33 : S' 33 = S 33 := hs 33 (by decide) (nm_of d 33 (by decide))
  have e38 : S' 38 = S 38 := hs 38 (by decide) (nm_of d 38 (by decide))
  unfold UR nsu at h ⊢
  rw [e28, e29, e30, e33, e38]
  exact h
theorem RM.cg {M M' : Nat} {cs ls : List Nat} {S S' L L' : St} (h : RM M S L) (hM : M ≤ M') (hs : SU cs S S') (hl : LU ls L L') (d2 : [9].all (fun r => !ls.contains r) = true := by decide) (d : [2, 3, 4, 5].all (fun r => !cs.contains r) = true := by decide) : RM M' S' L' := by
  have e2 : S' 2 = S 2 := hs 2 (by decide) (nm_of d 2 (by decide))
  have e3 : S' 3 = S 3 := hs 3 (by decide) (nm_of d 3 (by decide))
  have e4 : S' 4 = S 4 := hs 4 (by decide) (nm_of d 4 (by decide))
  have e5 : S' 5 = S 5 := hs 5 (by decide) (nm_of d 5 (by decide))
  have l9 : L' 9 = L 9 := hl 9 (nm_of d2 9 (by decide))
  unfold RM at h ⊢
  rw [e2, e3, e4, e5, l9]
  exact ⟨fun f hf => by
    obtain ⟨x1, x2, x3, x4, n, hn, x5⟩ := h.1 f hf
    exact ⟨x1, x2, x3, x4, n, by omega, x5⟩, h.2⟩
theorem RR.cg {cs ls : List Nat} {S S' L L' : St} (h : RR S L) (hs : SU cs S S') (hl : LU ls L L') (d2 : [10].all (fun r => !ls.contains r) = true := by decide) (d : [1, 51, 52, 53, 54].all (fun r => !cs.contains r) = true := by decide) : RR S' L' := by
  have e1 : S' 1 = S 1 := hs 1 (by decide) (nm_of d 1 (by decide))
  have e51 : S' 51 = S 51 := hs 51 (by decide) (nm_of d 51 (by decide))
  have e52 : S' 52 = S 52 := hs 52 (by decide) (nm_of d 52 (by decide))
  have e53 : S' 53 = S 53 := hs 53 (by decide) (nm_of d 53 (by decide))
  have e54 : S' 54 = S 54 := hs 54 (by decide) (nm_of d 54 (by decide))
  have l10 : L' 10 = L 10 := hl 10 (nm_of d2 10 (by decide))
  unfold RR at h ⊢
  rw [e1, e51, e52, e53, e54, l10]
  exact h
theorem RE.cg {cs ls : List Nat} {S S' L L' : St} (h : RE S L) (hs : SU cs S S') (hl : LU ls L L') (d2 : [7].all (fun r => !ls.contains r) = true := by decide) (d : [28, 67, 65, 66, 31, 33, 32, 1].all (fun r => !cs.contains r) = true := by decide) : RE S' L' := by
  have e28 : S' 28 = S 28 := hs 28 (by decide) (nm_of d 28 (by decide))
  have e67 : S' 67 = S 67 := hs 67 (by decide) (nm_of d 67 (by decide))
  have e65 : S' 65 = S 65 := hs 65 (by decide) (nm_of d 65 (by decide))
  have e66 : S' 66 = S 66 := hs 66 (by decide) (nm_of d 66 (by decide))
  have e31 : S' 31 = S 31 := hs 31 (by decide) (nm_of d 31 (by decide))
  have e33 : S' 33 = S 33 := hs 33 (by decide) (nm_of d 33 (by decide))
  have e32 : S' 32 = S 32 := hs 32 (by decide) (nm_of d 32 (by decide))
  have e1 : S' 1 = S 1 := hs 1 (by decide) (nm_of d 1 (by decide))
  have l7 : L' 7 = L 7 := hl 7 (nm_of d2 7 (by decide))
  unfold RE nsu PPs npp at h ⊢
  rw [e28, e67, e65, e66, e31, e33, e32, e1, l7]
  exact h
