/-! a field that is set changes one cell alone -/
theorem cid_ne {j f : Nat} (h : f ≠ 7 ∧ f ≠ 15 ∧ f ≠ 23 ∧ f ≠ 28) : cid j ≠ f := by
  unfold cid
  split <;> omega
theorem c12_up {cy : Nat → ClassId} {g : CWt} {S : St} {f n : Nat} {v : Int32} {i : Nat} (h : f ≠ 7 ∧ f ≠ 15 ∧ f ≠ 23 ∧ f ≠ 28) : ccell cy g S 12 i = ccell cy g (up S f n v) 12 i := by
  show alC _ _ (S (cid i) 0) = alC _ _ (up S f n v (cid i) 0)
  rw [up_ne (cid_ne h)]
theorem c12_at {cy : Nat → ClassId} {g : CWt} {S : St} {f n : Nat} {v : Int32} {i : Nat} {D : va_G} {a : Nat} {H : Heap} (h : f ≠ 7 ∧ f ≠ 15 ∧ f ≠ 23 ∧ f ≠ 28) (h1 : at1 D a (ccell cy g S 12 i) H) : at1 D a (ccell cy g (up S f n v) 12 i) H := by
  rw [← c12_up h]
  exact h1
theorem cu_2 {cy : Nat → ClassId} {g : CWt} {S : St} (n : Nat) (v : Int32) : CU cy g S (up S 2 n v) 0 n := by
  intro k2 i2 hne hv D a H h
  match k2, hne, hv, h with
  | 0, hne, hv, h =>
    have hi : i2 ≠ n := fun e => hne ⟨rfl, e⟩
    have e : ccell cy g (up S 2 n v) 0 i2 = ccell cy g S 0 i2 := by simp [ccell, up_app, hi]
    exact e ▸ h
  | 1, _, _, h => exact h
  | 2, _, _, h => exact h
  | 3, _, _, h => exact h
  | 4, _, _, h => exact h
  | 5, _, _, h => exact h
  | 6, _, _, h => exact h
  | 7, _, _, h => exact h
  | 8, _, _, h => exact h
  | 9, _, _, h => exact h
  | 10, _, _, h => exact h
  | 11, _, _, h => exact h
  | 12, _, _, h => exact c12_at (by decide) h
  | 13, _, _, h => exact h
  | 14, _, _, h => exact h
  | 15, _, _, h => exact h
  | 16, _, _, h => exact h
  | 17, _, _, h => exact h
  | 18, _, _, h => exact h
  | q + 19, _, hv, _ => exact hv.elim
theorem cu_3 {cy : Nat → ClassId} {g : CWt} {S : St} (n : Nat) (v : Int32) : CU cy g S (up S 3 n v) 0 n := by
  intro k2 i2 hne hv D a H h
  match k2, hne, hv, h with
  | 0, hne, hv, h =>
    have hi : i2 ≠ n := fun e => hne ⟨rfl, e⟩
    have e : ccell cy g (up S 3 n v) 0 i2 = ccell cy g S 0 i2 := by simp [ccell, up_app, hi]
    exact e ▸ h
  | 1, _, _, h => exact h
  | 2, _, _, h => exact h
  | 3, _, _, h => exact h
  | 4, _, _, h => exact h
  | 5, _, _, h => exact h
  | 6, _, _, h => exact h
  | 7, _, _, h => exact h
  | 8, _, _, h => exact h
  | 9, _, _, h => exact h
  | 10, _, _, h => exact h
  | 11, _, _, h => exact h
  | 12, _, _, h => exact c12_at (by decide) h
  | 13, _, _, h => exact h
  | 14, _, _, h => exact h
  | 15, _, _, h => exact h
  | 16, _, _, h => exact h
  | 17, _, _, h => exact h
  | 18, _, _, h => exact h
  | q + 19, _, hv, _ => exact hv.elim
theorem cu_4 {cy : Nat → ClassId} {g : CWt} {S : St} (n : Nat) (v : Int32) : CU cy g S (up S 4 n v) 0 n := by
  intro k2 i2 hne hv D a H h
  match k2, hne, hv, h with
  | 0, hne, hv, h =>
    have hi : i2 ≠ n := fun e => hne ⟨rfl, e⟩
    have e : ccell cy g (up S 4 n v) 0 i2 = ccell cy g S 0 i2 := by simp [ccell, up_app, hi]
    exact e ▸ h
  | 1, _, _, h => exact h
  | 2, _, _, h => exact h
  | 3, _, _, h => exact h
  | 4, _, _, h => exact h
  | 5, _, _, h => exact h
  | 6, _, _, h => exact h
  | 7, _, _, h => exact h
  | 8, _, _, h => exact h
  | 9, _, _, h => exact h
  | 10, _, _, h => exact h
  | 11, _, _, h => exact h
  | 12, _, _, h => exact c12_at (by decide) h
  | 13, _, _, h => exact h
  | 14, _, _, h => exact h
  | 15, _, _, h => exact h
  | 16, _, _, h => exact h
  | 17, _, _, h => exact h
  | 18, _, _, h => exact h
  | q + 19, _, hv, _ => exact hv.elim
theorem cu_5 {cy : Nat → ClassId} {g : CWt} {S : St} (n : Nat) (v : Int32) : CU cy g S (up S 5 n v) 0 n := by
  intro k2 i2 hne hv D a H h
  match k2, hne, hv, h with
  | 0, hne, hv, h =>
    have hi : i2 ≠ n := fun e => hne ⟨rfl, e⟩
    have e : ccell cy g (up S 5 n v) 0 i2 = ccell cy g S 0 i2 := by simp [ccell, up_app, hi]
    exact e ▸ h
  | 1, _, _, h => exact h
  | 2, _, _, h => exact h
  | 3, _, _, h => exact h
  | 4, _, _, h => exact h
  | 5, _, _, h => exact h
  | 6, _, _, h => exact h
  | 7, _, _, h => exact h
  | 8, _, _, h => exact h
  | 9, _, _, h => exact h
  | 10, _, _, h => exact h
  | 11, _, _, h => exact h
  | 12, _, _, h => exact c12_at (by decide) h
  | 13, _, _, h => exact h
  | 14, _, _, h => exact h
  | 15, _, _, h => exact h
  | 16, _, _, h => exact h
  | 17, _, _, h => exact h
  | 18, _, _, h => exact h
  | q + 19, _, hv, _ => exact hv.elim
theorem cu_21 {cy : Nat → ClassId} {g : CWt} {S : St} (n : Nat) (v : Int32) : CU cy g S (up S 21 n v) 4 n := by
  intro k2 i2 hne hv D a H h
  match k2, hne, hv, h with
  | 0, _, _, h => exact h
  | 1, _, _, h => exact h
  | 2, _, _, h => exact h
  | 3, _, _, h => exact h
  | 4, hne, hv, h =>
    have hi : i2 ≠ n := fun e => hne ⟨rfl, e⟩
    have e : ccell cy g (up S 21 n v) 4 i2 = ccell cy g S 4 i2 := by simp [ccell, up_app, hi]
    exact e ▸ h
  | 5, _, _, h => exact h
  | 6, _, _, h => exact h
  | 7, _, _, h => exact h
  | 8, _, _, h => exact h
  | 9, _, _, h => exact h
  | 10, _, _, h => exact h
  | 11, _, _, h => exact h
  | 12, _, _, h => exact c12_at (by decide) h
  | 13, _, _, h => exact h
  | 14, _, _, h => exact h
  | 15, _, _, h => exact h
  | 16, _, _, h => exact h
  | 17, _, _, h => exact h
  | 18, _, _, h => exact h
  | q + 19, _, hv, _ => exact hv.elim
theorem cu_60 {cy : Nat → ClassId} {g : CWt} {S : St} (n : Nat) (v : Int32) : CU cy g S (up S 60 n v) 4 n := by
  intro k2 i2 hne hv D a H h
  match k2, hne, hv, h with
  | 0, _, _, h => exact h
  | 1, _, _, h => exact h
  | 2, _, _, h => exact h
  | 3, _, _, h => exact h
  | 4, hne, hv, h =>
    have hi : i2 ≠ n := fun e => hne ⟨rfl, e⟩
    have e : ccell cy g (up S 60 n v) 4 i2 = ccell cy g S 4 i2 := by simp [ccell, up_app, hi]
    exact e ▸ h
  | 5, _, _, h => exact h
  | 6, _, _, h => exact h
  | 7, _, _, h => exact h
  | 8, _, _, h => exact h
  | 9, _, _, h => exact h
  | 10, _, _, h => exact h
  | 11, _, _, h => exact h
  | 12, _, _, h => exact c12_at (by decide) h
  | 13, _, _, h => exact h
  | 14, _, _, h => exact h
  | 15, _, _, h => exact h
  | 16, _, _, h => exact h
  | 17, _, _, h => exact h
  | 18, _, _, h => exact h
  | q + 19, _, hv, _ => exact hv.elim
theorem cu_49 {cy : Nat → ClassId} {g : CWt} {S : St} (n : Nat) (v : Int32) : CU cy g S (up S 49 n v) 4 n := by
  intro k2 i2 hne hv D a H h
  match k2, hne, hv, h with
  | 0, _, _, h => exact h
  | 1, _, _, h => exact h
  | 2, _, _, h => exact h
  | 3, _, _, h => exact h
  | 4, hne, hv, h =>
    have hi : i2 ≠ n := fun e => hne ⟨rfl, e⟩
    have e : ccell cy g (up S 49 n v) 4 i2 = ccell cy g S 4 i2 := by simp [ccell, up_app, hi]
    exact e ▸ h
  | 5, _, _, h => exact h
  | 6, _, _, h => exact h
  | 7, _, _, h => exact h
  | 8, _, _, h => exact h
  | 9, _, _, h => exact h
  | 10, _, _, h => exact h
  | 11, _, _, h => exact h
  | 12, _, _, h => exact c12_at (by decide) h
  | 13, _, _, h => exact h
  | 14, _, _, h => exact h
  | 15, _, _, h => exact h
  | 16, _, _, h => exact h
  | 17, _, _, h => exact h
  | 18, _, _, h => exact h
  | q + 19, _, hv, _ => exact hv.elim
theorem cu_50 {cy : Nat → ClassId} {g : CWt} {S : St} (n : Nat) (v : Int32) : CU cy g S (up S 50 n v) 4 n := by
  intro k2 i2 hne hv D a H h
  match k2, hne, hv, h with
  | 0, _, _, h => exact h
  | 1, _, _, h => exact h
  | 2, _, _, h => exact h
  | 3, _, _, h => exact h
  | 4, hne, hv, h =>
    have hi : i2 ≠ n := fun e => hne ⟨rfl, e⟩
    have e : ccell cy g (up S 50 n v) 4 i2 = ccell cy g S 4 i2 := by simp [ccell, up_app, hi]
    exact e ▸ h
  | 5, _, _, h => exact h
  | 6, _, _, h => exact h
  | 7, _, _, h => exact h
  | 8, _, _, h => exact h
  | 9, _, _, h => exact h
  | 10, _, _, h => exact h
  | 11, _, _, h => exact h
  | 12, _, _, h => exact c12_at (by decide) h
  | 13, _, _, h => exact h
  | 14, _, _, h => exact h
  | 15, _, _, h => exact h
  | 16, _, _, h => exact h
  | 17, _, _, h => exact h
  | 18, _, _, h => exact h
  | q + 19, _, hv, _ => exact hv.elim
theorem cu_46 {cy : Nat → ClassId} {g : CWt} {S : St} (n : Nat) (v : Int32) : CU cy g S (up S 46 n v) 4 n := by
  intro k2 i2 hne hv D a H h
  match k2, hne, hv, h with
  | 0, _, _, h => exact h
  | 1, _, _, h => exact h
  | 2, _, _, h => exact h
  | 3, _, _, h => exact h
  | 4, hne, hv, h =>
    have hi : i2 ≠ n := fun e => hne ⟨rfl, e⟩
    have e : ccell cy g (up S 46 n v) 4 i2 = ccell cy g S 4 i2 := by simp [ccell, up_app, hi]
    exact e ▸ h
  | 5, _, _, h => exact h
  | 6, _, _, h => exact h
  | 7, _, _, h => exact h
  | 8, _, _, h => exact h
  | 9, _, _, h => exact h
  | 10, _, _, h => exact h
  | 11, _, _, h => exact h
  | 12, _, _, h => exact c12_at (by decide) h
  | 13, _, _, h => exact h
  | 14, _, _, h => exact h
  | 15, _, _, h => exact h
  | 16, _, _, h => exact h
  | 17, _, _, h => exact h
  | 18, _, _, h => exact h
  | q + 19, _, hv, _ => exact hv.elim
theorem cu_47 {cy : Nat → ClassId} {g : CWt} {S : St} (n : Nat) (v : Int32) : CU cy g S (up S 47 n v) 4 n := by
  intro k2 i2 hne hv D a H h
  match k2, hne, hv, h with
  | 0, _, _, h => exact h
  | 1, _, _, h => exact h
  | 2, _, _, h => exact h
  | 3, _, _, h => exact h
  | 4, hne, hv, h =>
    have hi : i2 ≠ n := fun e => hne ⟨rfl, e⟩
    have e : ccell cy g (up S 47 n v) 4 i2 = ccell cy g S 4 i2 := by simp [ccell, up_app, hi]
    exact e ▸ h
  | 5, _, _, h => exact h
  | 6, _, _, h => exact h
  | 7, _, _, h => exact h
  | 8, _, _, h => exact h
  | 9, _, _, h => exact h
  | 10, _, _, h => exact h
  | 11, _, _, h => exact h
  | 12, _, _, h => exact c12_at (by decide) h
  | 13, _, _, h => exact h
  | 14, _, _, h => exact h
  | 15, _, _, h => exact h
  | 16, _, _, h => exact h
  | 17, _, _, h => exact h
  | 18, _, _, h => exact h
  | q + 19, _, hv, _ => exact hv.elim
theorem cu_48 {cy : Nat → ClassId} {g : CWt} {S : St} (n : Nat) (v : Int32) : CU cy g S (up S 48 n v) 4 n := by
  intro k2 i2 hne hv D a H h
  match k2, hne, hv, h with
  | 0, _, _, h => exact h
  | 1, _, _, h => exact h
  | 2, _, _, h => exact h
  | 3, _, _, h => exact h
  | 4, hne, hv, h =>
    have hi : i2 ≠ n := fun e => hne ⟨rfl, e⟩
    have e : ccell cy g (up S 48 n v) 4 i2 = ccell cy g S 4 i2 := by simp [ccell, up_app, hi]
    exact e ▸ h
  | 5, _, _, h => exact h
  | 6, _, _, h => exact h
  | 7, _, _, h => exact h
  | 8, _, _, h => exact h
  | 9, _, _, h => exact h
  | 10, _, _, h => exact h
  | 11, _, _, h => exact h
  | 12, _, _, h => exact c12_at (by decide) h
  | 13, _, _, h => exact h
  | 14, _, _, h => exact h
  | 15, _, _, h => exact h
  | 16, _, _, h => exact h
  | 17, _, _, h => exact h
  | 18, _, _, h => exact h
  | q + 19, _, hv, _ => exact hv.elim
theorem cu_8 {cy : Nat → ClassId} {g : CWt} {S : St} (n : Nat) (v : Int32) : CU cy g S (up S 8 n v) 5 n := by
  intro k2 i2 hne hv D a H h
  match k2, hne, hv, h with
  | 0, _, _, h => exact h
  | 1, _, _, h => exact h
  | 2, _, _, h => exact h
  | 3, _, _, h => exact h
  | 4, _, _, h => exact h
  | 5, hne, hv, h =>
    have hi : i2 ≠ n := fun e => hne ⟨rfl, e⟩
    have e : ccell cy g (up S 8 n v) 5 i2 = ccell cy g S 5 i2 := by simp [ccell, up_app, hi]
    exact e ▸ h
  | 6, _, _, h => exact h
  | 7, _, _, h => exact h
  | 8, _, _, h => exact h
  | 9, _, _, h => exact h
  | 10, _, _, h => exact h
  | 11, _, _, h => exact h
  | 12, _, _, h => exact c12_at (by decide) h
  | 13, _, _, h => exact h
  | 14, _, _, h => exact h
  | 15, _, _, h => exact h
  | 16, _, _, h => exact h
  | 17, _, _, h => exact h
  | 18, _, _, h => exact h
  | q + 19, _, hv, _ => exact hv.elim
theorem cu_9 {cy : Nat → ClassId} {g : CWt} {S : St} (n : Nat) (v : Int32) : CU cy g S (up S 9 n v) 5 n := by
  intro k2 i2 hne hv D a H h
  match k2, hne, hv, h with
  | 0, _, _, h => exact h
  | 1, _, _, h => exact h
  | 2, _, _, h => exact h
  | 3, _, _, h => exact h
  | 4, _, _, h => exact h
  | 5, hne, hv, h =>
    have hi : i2 ≠ n := fun e => hne ⟨rfl, e⟩
    have e : ccell cy g (up S 9 n v) 5 i2 = ccell cy g S 5 i2 := by simp [ccell, up_app, hi]
    exact e ▸ h
  | 6, _, _, h => exact h
  | 7, _, _, h => exact h
  | 8, _, _, h => exact h
  | 9, _, _, h => exact h
  | 10, _, _, h => exact h
  | 11, _, _, h => exact h
  | 12, _, _, h => exact c12_at (by decide) h
  | 13, _, _, h => exact h
  | 14, _, _, h => exact h
  | 15, _, _, h => exact h
  | 16, _, _, h => exact h
  | 17, _, _, h => exact h
  | 18, _, _, h => exact h
  | q + 19, _, hv, _ => exact hv.elim
theorem cu_10 {cy : Nat → ClassId} {g : CWt} {S : St} (n : Nat) (v : Int32) : CU cy g S (up S 10 n v) 5 n := by
  intro k2 i2 hne hv D a H h
  match k2, hne, hv, h with
  | 0, _, _, h => exact h
  | 1, _, _, h => exact h
  | 2, _, _, h => exact h
  | 3, _, _, h => exact h
  | 4, _, _, h => exact h
  | 5, hne, hv, h =>
    have hi : i2 ≠ n := fun e => hne ⟨rfl, e⟩
    have e : ccell cy g (up S 10 n v) 5 i2 = ccell cy g S 5 i2 := by simp [ccell, up_app, hi]
    exact e ▸ h
  | 6, _, _, h => exact h
  | 7, _, _, h => exact h
  | 8, _, _, h => exact h
  | 9, _, _, h => exact h
  | 10, _, _, h => exact h
  | 11, _, _, h => exact h
  | 12, _, _, h => exact c12_at (by decide) h
  | 13, _, _, h => exact h
  | 14, _, _, h => exact h
  | 15, _, _, h => exact h
  | 16, _, _, h => exact h
  | 17, _, _, h => exact h
  | 18, _, _, h => exact h
  | q + 19, _, hv, _ => exact hv.elim
theorem cu_11 {cy : Nat → ClassId} {g : CWt} {S : St} (n : Nat) (v : Int32) : CU cy g S (up S 11 n v) 5 n := by
  intro k2 i2 hne hv D a H h
  match k2, hne, hv, h with
  | 0, _, _, h => exact h
  | 1, _, _, h => exact h
  | 2, _, _, h => exact h
  | 3, _, _, h => exact h
  | 4, _, _, h => exact h
  | 5, hne, hv, h =>
    have hi : i2 ≠ n := fun e => hne ⟨rfl, e⟩
    have e : ccell cy g (up S 11 n v) 5 i2 = ccell cy g S 5 i2 := by simp [ccell, up_app, hi]
    exact e ▸ h
  | 6, _, _, h => exact h
  | 7, _, _, h => exact h
  | 8, _, _, h => exact h
  | 9, _, _, h => exact h
  | 10, _, _, h => exact h
  | 11, _, _, h => exact h
  | 12, _, _, h => exact c12_at (by decide) h
  | 13, _, _, h => exact h
  | 14, _, _, h => exact h
  | 15, _, _, h => exact h
  | 16, _, _, h => exact h
  | 17, _, _, h => exact h
  | 18, _, _, h => exact h
  | q + 19, _, hv, _ => exact hv.elim
theorem cu_12 {cy : Nat → ClassId} {g : CWt} {S : St} (n : Nat) (v : Int32) : CU cy g S (up S 12 n v) 5 n := by
  intro k2 i2 hne hv D a H h
  match k2, hne, hv, h with
  | 0, _, _, h => exact h
  | 1, _, _, h => exact h
  | 2, _, _, h => exact h
  | 3, _, _, h => exact h
  | 4, _, _, h => exact h
  | 5, hne, hv, h =>
    have hi : i2 ≠ n := fun e => hne ⟨rfl, e⟩
    have e : ccell cy g (up S 12 n v) 5 i2 = ccell cy g S 5 i2 := by simp [ccell, up_app, hi]
    exact e ▸ h
  | 6, _, _, h => exact h
  | 7, _, _, h => exact h
  | 8, _, _, h => exact h
  | 9, _, _, h => exact h
  | 10, _, _, h => exact h
  | 11, _, _, h => exact h
  | 12, _, _, h => exact c12_at (by decide) h
  | 13, _, _, h => exact h
  | 14, _, _, h => exact h
  | 15, _, _, h => exact h
  | 16, _, _, h => exact h
  | 17, _, _, h => exact h
  | 18, _, _, h => exact h
  | q + 19, _, hv, _ => exact hv.elim
theorem cu_13 {cy : Nat → ClassId} {g : CWt} {S : St} (n : Nat) (v : Int32) : CU cy g S (up S 13 n v) 5 n := by
  intro k2 i2 hne hv D a H h
  match k2, hne, hv, h with
  | 0, _, _, h => exact h
  | 1, _, _, h => exact h
  | 2, _, _, h => exact h
  | 3, _, _, h => exact h
  | 4, _, _, h => exact h
  | 5, hne, hv, h =>
    have hi : i2 ≠ n := fun e => hne ⟨rfl, e⟩
    have e : ccell cy g (up S 13 n v) 5 i2 = ccell cy g S 5 i2 := by simp [ccell, up_app, hi]
    exact e ▸ h
  | 6, _, _, h => exact h
  | 7, _, _, h => exact h
  | 8, _, _, h => exact h
  | 9, _, _, h => exact h
  | 10, _, _, h => exact h
  | 11, _, _, h => exact h
  | 12, _, _, h => exact c12_at (by decide) h
  | 13, _, _, h => exact h
  | 14, _, _, h => exact h
  | 15, _, _, h => exact h
  | 16, _, _, h => exact h
  | 17, _, _, h => exact h
  | 18, _, _, h => exact h
  | q + 19, _, hv, _ => exact hv.elim
theorem cu_14 {cy : Nat → ClassId} {g : CWt} {S : St} (n : Nat) (v : Int32) : CU cy g S (up S 14 n v) 5 n := by
  intro k2 i2 hne hv D a H h
  match k2, hne, hv, h with
  | 0, _, _, h => exact h
  | 1, _, _, h => exact h
  | 2, _, _, h => exact h
  | 3, _, _, h => exact h
  | 4, _, _, h => exact h
  | 5, hne, hv, h =>
    have hi : i2 ≠ n := fun e => hne ⟨rfl, e⟩
    have e : ccell cy g (up S 14 n v) 5 i2 = ccell cy g S 5 i2 := by simp [ccell, up_app, hi]
    exact e ▸ h
  | 6, _, _, h => exact h
  | 7, _, _, h => exact h
  | 8, _, _, h => exact h
  | 9, _, _, h => exact h
  | 10, _, _, h => exact h
  | 11, _, _, h => exact h
  | 12, _, _, h => exact c12_at (by decide) h
  | 13, _, _, h => exact h
  | 14, _, _, h => exact h
  | 15, _, _, h => exact h
  | 16, _, _, h => exact h
  | 17, _, _, h => exact h
  | 18, _, _, h => exact h
  | q + 19, _, hv, _ => exact hv.elim
theorem cu_61 {cy : Nat → ClassId} {g : CWt} {S : St} (n : Nat) (v : Int32) : CU cy g S (up S 61 n v) 5 n := by
  intro k2 i2 hne hv D a H h
  match k2, hne, hv, h with
  | 0, _, _, h => exact h
  | 1, _, _, h => exact h
  | 2, _, _, h => exact h
  | 3, _, _, h => exact h
  | 4, _, _, h => exact h
  | 5, hne, hv, h =>
    have hi : i2 ≠ n := fun e => hne ⟨rfl, e⟩
    have e : ccell cy g (up S 61 n v) 5 i2 = ccell cy g S 5 i2 := by simp [ccell, up_app, hi]
    exact e ▸ h
  | 6, _, _, h => exact h
  | 7, _, _, h => exact h
  | 8, _, _, h => exact h
  | 9, _, _, h => exact h
  | 10, _, _, h => exact h
  | 11, _, _, h => exact h
  | 12, _, _, h => exact c12_at (by decide) h
  | 13, _, _, h => exact h
  | 14, _, _, h => exact h
  | 15, _, _, h => exact h
  | 16, _, _, h => exact h
  | 17, _, _, h => exact h
  | 18, _, _, h => exact h
  | q + 19, _, hv, _ => exact hv.elim
theorem cu_16 {cy : Nat → ClassId} {g : CWt} {S : St} (n : Nat) (v : Int32) : CU cy g S (up S 16 n v) 6 n := by
  intro k2 i2 hne hv D a H h
  match k2, hne, hv, h with
  | 0, _, _, h => exact h
  | 1, _, _, h => exact h
  | 2, _, _, h => exact h
  | 3, _, _, h => exact h
  | 4, _, _, h => exact h
  | 5, _, _, h => exact h
  | 6, hne, hv, h =>
    have hi : i2 ≠ n := fun e => hne ⟨rfl, e⟩
    have e : ccell cy g (up S 16 n v) 6 i2 = ccell cy g S 6 i2 := by simp [ccell, up_app, hi]
    exact e ▸ h
  | 7, _, _, h => exact h
  | 8, _, _, h => exact h
  | 9, _, _, h => exact h
  | 10, _, _, h => exact h
  | 11, _, _, h => exact h
  | 12, _, _, h => exact c12_at (by decide) h
  | 13, _, _, h => exact h
  | 14, _, _, h => exact h
  | 15, _, _, h => exact h
  | 16, _, _, h => exact h
  | 17, _, _, h => exact h
  | 18, _, _, h => exact h
  | q + 19, _, hv, _ => exact hv.elim
theorem cu_17 {cy : Nat → ClassId} {g : CWt} {S : St} (n : Nat) (v : Int32) : CU cy g S (up S 17 n v) 6 n := by
  intro k2 i2 hne hv D a H h
  match k2, hne, hv, h with
  | 0, _, _, h => exact h
  | 1, _, _, h => exact h
  | 2, _, _, h => exact h
  | 3, _, _, h => exact h
  | 4, _, _, h => exact h
  | 5, _, _, h => exact h
  | 6, hne, hv, h =>
    have hi : i2 ≠ n := fun e => hne ⟨rfl, e⟩
    have e : ccell cy g (up S 17 n v) 6 i2 = ccell cy g S 6 i2 := by simp [ccell, up_app, hi]
    exact e ▸ h
  | 7, _, _, h => exact h
  | 8, _, _, h => exact h
  | 9, _, _, h => exact h
  | 10, _, _, h => exact h
  | 11, _, _, h => exact h
  | 12, _, _, h => exact c12_at (by decide) h
  | 13, _, _, h => exact h
  | 14, _, _, h => exact h
  | 15, _, _, h => exact h
  | 16, _, _, h => exact h
  | 17, _, _, h => exact h
  | 18, _, _, h => exact h
  | q + 19, _, hv, _ => exact hv.elim
theorem cu_18 {cy : Nat → ClassId} {g : CWt} {S : St} (n : Nat) (v : Int32) : CU cy g S (up S 18 n v) 6 n := by
  intro k2 i2 hne hv D a H h
  match k2, hne, hv, h with
  | 0, _, _, h => exact h
  | 1, _, _, h => exact h
  | 2, _, _, h => exact h
  | 3, _, _, h => exact h
  | 4, _, _, h => exact h
  | 5, _, _, h => exact h
  | 6, hne, hv, h =>
    have hi : i2 ≠ n := fun e => hne ⟨rfl, e⟩
    have e : ccell cy g (up S 18 n v) 6 i2 = ccell cy g S 6 i2 := by simp [ccell, up_app, hi]
    exact e ▸ h
  | 7, _, _, h => exact h
  | 8, _, _, h => exact h
  | 9, _, _, h => exact h
  | 10, _, _, h => exact h
  | 11, _, _, h => exact h
  | 12, _, _, h => exact c12_at (by decide) h
  | 13, _, _, h => exact h
  | 14, _, _, h => exact h
  | 15, _, _, h => exact h
  | 16, _, _, h => exact h
  | 17, _, _, h => exact h
  | 18, _, _, h => exact h
  | q + 19, _, hv, _ => exact hv.elim
theorem cu_19 {cy : Nat → ClassId} {g : CWt} {S : St} (n : Nat) (v : Int32) : CU cy g S (up S 19 n v) 6 n := by
  intro k2 i2 hne hv D a H h
  match k2, hne, hv, h with
  | 0, _, _, h => exact h
  | 1, _, _, h => exact h
  | 2, _, _, h => exact h
  | 3, _, _, h => exact h
  | 4, _, _, h => exact h
  | 5, _, _, h => exact h
  | 6, hne, hv, h =>
    have hi : i2 ≠ n := fun e => hne ⟨rfl, e⟩
    have e : ccell cy g (up S 19 n v) 6 i2 = ccell cy g S 6 i2 := by simp [ccell, up_app, hi]
    exact e ▸ h
  | 7, _, _, h => exact h
  | 8, _, _, h => exact h
  | 9, _, _, h => exact h
  | 10, _, _, h => exact h
  | 11, _, _, h => exact h
  | 12, _, _, h => exact c12_at (by decide) h
  | 13, _, _, h => exact h
  | 14, _, _, h => exact h
  | 15, _, _, h => exact h
  | 16, _, _, h => exact h
  | 17, _, _, h => exact h
  | 18, _, _, h => exact h
  | q + 19, _, hv, _ => exact hv.elim
theorem cu_24 {cy : Nat → ClassId} {g : CWt} {S : St} (n : Nat) (v : Int32) : CU cy g S (up S 24 n v) 7 n := by
  intro k2 i2 hne hv D a H h
  match k2, hne, hv, h with
  | 0, _, _, h => exact h
  | 1, _, _, h => exact h
  | 2, _, _, h => exact h
  | 3, _, _, h => exact h
  | 4, _, _, h => exact h
  | 5, _, _, h => exact h
  | 6, _, _, h => exact h
  | 7, hne, hv, h =>
    have hi : i2 ≠ n := fun e => hne ⟨rfl, e⟩
    have e : ccell cy g (up S 24 n v) 7 i2 = ccell cy g S 7 i2 := by simp [ccell, up_app, hi]
    exact e ▸ h
  | 8, _, _, h => exact h
  | 9, _, _, h => exact h
  | 10, _, _, h => exact h
  | 11, _, _, h => exact h
  | 12, _, _, h => exact c12_at (by decide) h
  | 13, _, _, h => exact h
  | 14, _, _, h => exact h
  | 15, _, _, h => exact h
  | 16, _, _, h => exact h
  | 17, _, _, h => exact h
  | 18, _, _, h => exact h
  | q + 19, _, hv, _ => exact hv.elim
theorem cu_25 {cy : Nat → ClassId} {g : CWt} {S : St} (n : Nat) (v : Int32) : CU cy g S (up S 25 n v) 7 n := by
  intro k2 i2 hne hv D a H h
  match k2, hne, hv, h with
  | 0, _, _, h => exact h
  | 1, _, _, h => exact h
  | 2, _, _, h => exact h
  | 3, _, _, h => exact h
  | 4, _, _, h => exact h
  | 5, _, _, h => exact h
  | 6, _, _, h => exact h
  | 7, hne, hv, h =>
    have hi : i2 ≠ n := fun e => hne ⟨rfl, e⟩
    have e : ccell cy g (up S 25 n v) 7 i2 = ccell cy g S 7 i2 := by simp [ccell, up_app, hi]
    exact e ▸ h
  | 8, _, _, h => exact h
  | 9, _, _, h => exact h
  | 10, _, _, h => exact h
  | 11, _, _, h => exact h
  | 12, _, _, h => exact c12_at (by decide) h
  | 13, _, _, h => exact h
  | 14, _, _, h => exact h
  | 15, _, _, h => exact h
  | 16, _, _, h => exact h
  | 17, _, _, h => exact h
  | 18, _, _, h => exact h
  | q + 19, _, hv, _ => exact hv.elim
theorem cu_26 {cy : Nat → ClassId} {g : CWt} {S : St} (n : Nat) (v : Int32) : CU cy g S (up S 26 n v) 7 n := by
  intro k2 i2 hne hv D a H h
  match k2, hne, hv, h with
  | 0, _, _, h => exact h
  | 1, _, _, h => exact h
  | 2, _, _, h => exact h
  | 3, _, _, h => exact h
  | 4, _, _, h => exact h
  | 5, _, _, h => exact h
  | 6, _, _, h => exact h
  | 7, hne, hv, h =>
    have hi : i2 ≠ n := fun e => hne ⟨rfl, e⟩
    have e : ccell cy g (up S 26 n v) 7 i2 = ccell cy g S 7 i2 := by simp [ccell, up_app, hi]
    exact e ▸ h
  | 8, _, _, h => exact h
  | 9, _, _, h => exact h
  | 10, _, _, h => exact h
  | 11, _, _, h => exact h
  | 12, _, _, h => exact c12_at (by decide) h
  | 13, _, _, h => exact h
  | 14, _, _, h => exact h
  | 15, _, _, h => exact h
  | 16, _, _, h => exact h
  | 17, _, _, h => exact h
  | 18, _, _, h => exact h
  | q + 19, _, hv, _ => exact hv.elim
theorem cu_27 {cy : Nat → ClassId} {g : CWt} {S : St} (n : Nat) (v : Int32) : CU cy g S (up S 27 n v) 7 n := by
  intro k2 i2 hne hv D a H h
  match k2, hne, hv, h with
  | 0, _, _, h => exact h
  | 1, _, _, h => exact h
  | 2, _, _, h => exact h
  | 3, _, _, h => exact h
  | 4, _, _, h => exact h
  | 5, _, _, h => exact h
  | 6, _, _, h => exact h
  | 7, hne, hv, h =>
    have hi : i2 ≠ n := fun e => hne ⟨rfl, e⟩
    have e : ccell cy g (up S 27 n v) 7 i2 = ccell cy g S 7 i2 := by simp [ccell, up_app, hi]
    exact e ▸ h
  | 8, _, _, h => exact h
  | 9, _, _, h => exact h
  | 10, _, _, h => exact h
  | 11, _, _, h => exact h
  | 12, _, _, h => exact c12_at (by decide) h
  | 13, _, _, h => exact h
  | 14, _, _, h => exact h
  | 15, _, _, h => exact h
  | 16, _, _, h => exact h
  | 17, _, _, h => exact h
  | 18, _, _, h => exact h
  | q + 19, _, hv, _ => exact hv.elim
theorem cu_29 {cy : Nat → ClassId} {g : CWt} {S : St} (n : Nat) (v : Int32) : CU cy g S (up S 29 n v) 8 n := by
  intro k2 i2 hne hv D a H h
  match k2, hne, hv, h with
  | 0, _, _, h => exact h
  | 1, _, _, h => exact h
  | 2, _, _, h => exact h
  | 3, _, _, h => exact h
  | 4, _, _, h => exact h
  | 5, _, _, h => exact h
  | 6, _, _, h => exact h
  | 7, _, _, h => exact h
  | 8, hne, hv, h =>
    have hi : i2 ≠ n := fun e => hne ⟨rfl, e⟩
    have e : ccell cy g (up S 29 n v) 8 i2 = ccell cy g S 8 i2 := by simp [ccell, up_app, hi]
    exact e ▸ h
  | 9, _, _, h => exact h
  | 10, _, _, h => exact h
  | 11, _, _, h => exact h
  | 12, _, _, h => exact c12_at (by decide) h
  | 13, _, _, h => exact h
  | 14, _, _, h => exact h
  | 15, _, _, h => exact h
  | 16, _, _, h => exact h
  | 17, _, _, h => exact h
  | 18, _, _, h => exact h
  | q + 19, _, hv, _ => exact hv.elim
theorem cu_30 {cy : Nat → ClassId} {g : CWt} {S : St} (n : Nat) (v : Int32) : CU cy g S (up S 30 n v) 8 n := by
  intro k2 i2 hne hv D a H h
  match k2, hne, hv, h with
  | 0, _, _, h => exact h
  | 1, _, _, h => exact h
  | 2, _, _, h => exact h
  | 3, _, _, h => exact h
  | 4, _, _, h => exact h
  | 5, _, _, h => exact h
  | 6, _, _, h => exact h
  | 7, _, _, h => exact h
  | 8, hne, hv, h =>
    have hi : i2 ≠ n := fun e => hne ⟨rfl, e⟩
    have e : ccell cy g (up S 30 n v) 8 i2 = ccell cy g S 8 i2 := by simp [ccell, up_app, hi]
    exact e ▸ h
  | 9, _, _, h => exact h
  | 10, _, _, h => exact h
  | 11, _, _, h => exact h
  | 12, _, _, h => exact c12_at (by decide) h
  | 13, _, _, h => exact h
  | 14, _, _, h => exact h
  | 15, _, _, h => exact h
  | 16, _, _, h => exact h
  | 17, _, _, h => exact h
  | 18, _, _, h => exact h
  | q + 19, _, hv, _ => exact hv.elim
theorem cu_31 {cy : Nat → ClassId} {g : CWt} {S : St} (n : Nat) (v : Int32) : CU cy g S (up S 31 n v) 8 n := by
  intro k2 i2 hne hv D a H h
  match k2, hne, hv, h with
  | 0, _, _, h => exact h
  | 1, _, _, h => exact h
  | 2, _, _, h => exact h
  | 3, _, _, h => exact h
  | 4, _, _, h => exact h
  | 5, _, _, h => exact h
  | 6, _, _, h => exact h
  | 7, _, _, h => exact h
  | 8, hne, hv, h =>
    have hi : i2 ≠ n := fun e => hne ⟨rfl, e⟩
    have e : ccell cy g (up S 31 n v) 8 i2 = ccell cy g S 8 i2 := by simp [ccell, up_app, hi]
    exact e ▸ h
  | 9, _, _, h => exact h
  | 10, _, _, h => exact h
  | 11, _, _, h => exact h
  | 12, _, _, h => exact c12_at (by decide) h
  | 13, _, _, h => exact h
  | 14, _, _, h => exact h
  | 15, _, _, h => exact h
  | 16, _, _, h => exact h
  | 17, _, _, h => exact h
  | 18, _, _, h => exact h
  | q + 19, _, hv, _ => exact hv.elim
theorem cu_33 {cy : Nat → ClassId} {g : CWt} {S : St} (n : Nat) (v : Int32) : CU cy g S (up S 33 n v) 8 n := by
  intro k2 i2 hne hv D a H h
  match k2, hne, hv, h with
  | 0, _, _, h => exact h
  | 1, _, _, h => exact h
  | 2, _, _, h => exact h
  | 3, _, _, h => exact h
  | 4, _, _, h => exact h
  | 5, _, _, h => exact h
  | 6, _, _, h => exact h
  | 7, _, _, h => exact h
  | 8, hne, hv, h =>
    have hi : i2 ≠ n := fun e => hne ⟨rfl, e⟩
    have e : ccell cy g (up S 33 n v) 8 i2 = ccell cy g S 8 i2 := by simp [ccell, up_app, hi]
    exact e ▸ h
  | 9, _, _, h => exact h
  | 10, _, _, h => exact h
  | 11, _, _, h => exact h
  | 12, _, _, h => exact c12_at (by decide) h
  | 13, _, _, h => exact h
  | 14, _, _, h => exact h
  | 15, _, _, h => exact h
  | 16, _, _, h => exact h
  | 17, _, _, h => exact h
  | 18, _, _, h => exact h
  | q + 19, _, hv, _ => exact hv.elim
theorem cu_32 {cy : Nat → ClassId} {g : CWt} {S : St} (n : Nat) (v : Int32) : CU cy g S (up S 32 n v) 8 n := by
  intro k2 i2 hne hv D a H h
  match k2, hne, hv, h with
  | 0, _, _, h => exact h
  | 1, _, _, h => exact h
  | 2, _, _, h => exact h
  | 3, _, _, h => exact h
  | 4, _, _, h => exact h
  | 5, _, _, h => exact h
  | 6, _, _, h => exact h
  | 7, _, _, h => exact h
  | 8, hne, hv, h =>
    have hi : i2 ≠ n := fun e => hne ⟨rfl, e⟩
    have e : ccell cy g (up S 32 n v) 8 i2 = ccell cy g S 8 i2 := by simp [ccell, up_app, hi]
    exact e ▸ h
  | 9, _, _, h => exact h
  | 10, _, _, h => exact h
  | 11, _, _, h => exact h
  | 12, _, _, h => exact c12_at (by decide) h
  | 13, _, _, h => exact h
  | 14, _, _, h => exact h
  | 15, _, _, h => exact h
  | 16, _, _, h => exact h
  | 17, _, _, h => exact h
  | 18, _, _, h => exact h
  | q + 19, _, hv, _ => exact hv.elim
theorem cu_34 {cy : Nat → ClassId} {g : CWt} {S : St} (n : Nat) (v : Int32) : CU cy g S (up S 34 n v) 8 n := by
  intro k2 i2 hne hv D a H h
  match k2, hne, hv, h with
  | 0, _, _, h => exact h
  | 1, _, _, h => exact h
  | 2, _, _, h => exact h
  | 3, _, _, h => exact h
  | 4, _, _, h => exact h
  | 5, _, _, h => exact h
  | 6, _, _, h => exact h
  | 7, _, _, h => exact h
  | 8, hne, hv, h =>
    have hi : i2 ≠ n := fun e => hne ⟨rfl, e⟩
    have e : ccell cy g (up S 34 n v) 8 i2 = ccell cy g S 8 i2 := by simp [ccell, up_app, hi]
    exact e ▸ h
  | 9, _, _, h => exact h
  | 10, _, _, h => exact h
  | 11, _, _, h => exact h
  | 12, _, _, h => exact c12_at (by decide) h
  | 13, _, _, h => exact h
  | 14, _, _, h => exact h
  | 15, _, _, h => exact h
  | 16, _, _, h => exact h
  | 17, _, _, h => exact h
  | 18, _, _, h => exact h
  | q + 19, _, hv, _ => exact hv.elim
theorem cu_35 {cy : Nat → ClassId} {g : CWt} {S : St} (n : Nat) (v : Int32) : CU cy g S (up S 35 n v) 8 n := by
  intro k2 i2 hne hv D a H h
  match k2, hne, hv, h with
  | 0, _, _, h => exact h
  | 1, _, _, h => exact h
  | 2, _, _, h => exact h
  | 3, _, _, h => exact h
  | 4, _, _, h => exact h
  | 5, _, _, h => exact h
  | 6, _, _, h => exact h
  | 7, _, _, h => exact h
  | 8, hne, hv, h =>
    have hi : i2 ≠ n := fun e => hne ⟨rfl, e⟩
    have e : ccell cy g (up S 35 n v) 8 i2 = ccell cy g S 8 i2 := by simp [ccell, up_app, hi]
    exact e ▸ h
  | 9, _, _, h => exact h
  | 10, _, _, h => exact h
  | 11, _, _, h => exact h
  | 12, _, _, h => exact c12_at (by decide) h
  | 13, _, _, h => exact h
  | 14, _, _, h => exact h
  | 15, _, _, h => exact h
  | 16, _, _, h => exact h
  | 17, _, _, h => exact h
  | 18, _, _, h => exact h
  | q + 19, _, hv, _ => exact hv.elim
theorem cu_37 {cy : Nat → ClassId} {g : CWt} {S : St} (n : Nat) (v : Int32) : CU cy g S (up S 37 n v) 8 n := by
  intro k2 i2 hne hv D a H h
  match k2, hne, hv, h with
  | 0, _, _, h => exact h
  | 1, _, _, h => exact h
  | 2, _, _, h => exact h
  | 3, _, _, h => exact h
  | 4, _, _, h => exact h
  | 5, _, _, h => exact h
  | 6, _, _, h => exact h
  | 7, _, _, h => exact h
  | 8, hne, hv, h =>
    have hi : i2 ≠ n := fun e => hne ⟨rfl, e⟩
    have e : ccell cy g (up S 37 n v) 8 i2 = ccell cy g S 8 i2 := by simp [ccell, up_app, hi]
    exact e ▸ h
  | 9, _, _, h => exact h
  | 10, _, _, h => exact h
  | 11, _, _, h => exact h
  | 12, _, _, h => exact c12_at (by decide) h
  | 13, _, _, h => exact h
  | 14, _, _, h => exact h
  | 15, _, _, h => exact h
  | 16, _, _, h => exact h
  | 17, _, _, h => exact h
  | 18, _, _, h => exact h
  | q + 19, _, hv, _ => exact hv.elim
theorem cu_36 {cy : Nat → ClassId} {g : CWt} {S : St} (n : Nat) (v : Int32) : CU cy g S (up S 36 n v) 8 n := by
  intro k2 i2 hne hv D a H h
  match k2, hne, hv, h with
  | 0, _, _, h => exact h
  | 1, _, _, h => exact h
  | 2, _, _, h => exact h
  | 3, _, _, h => exact h
  | 4, _, _, h => exact h
  | 5, _, _, h => exact h
  | 6, _, _, h => exact h
  | 7, _, _, h => exact h
  | 8, hne, hv, h =>
    have hi : i2 ≠ n := fun e => hne ⟨rfl, e⟩
    have e : ccell cy g (up S 36 n v) 8 i2 = ccell cy g S 8 i2 := by simp [ccell, up_app, hi]
    exact e ▸ h
  | 9, _, _, h => exact h
  | 10, _, _, h => exact h
  | 11, _, _, h => exact h
  | 12, _, _, h => exact c12_at (by decide) h
  | 13, _, _, h => exact h
  | 14, _, _, h => exact h
  | 15, _, _, h => exact h
  | 16, _, _, h => exact h
  | 17, _, _, h => exact h
  | 18, _, _, h => exact h
  | q + 19, _, hv, _ => exact hv.elim
theorem cu_38 {cy : Nat → ClassId} {g : CWt} {S : St} (n : Nat) (v : Int32) : CU cy g S (up S 38 n v) 8 n := by
  intro k2 i2 hne hv D a H h
  match k2, hne, hv, h with
  | 0, _, _, h => exact h
  | 1, _, _, h => exact h
  | 2, _, _, h => exact h
  | 3, _, _, h => exact h
  | 4, _, _, h => exact h
  | 5, _, _, h => exact h
  | 6, _, _, h => exact h
  | 7, _, _, h => exact h
  | 8, hne, hv, h =>
    have hi : i2 ≠ n := fun e => hne ⟨rfl, e⟩
    have e : ccell cy g (up S 38 n v) 8 i2 = ccell cy g S 8 i2 := by simp [ccell, up_app, hi]
    exact e ▸ h
  | 9, _, _, h => exact h
  | 10, _, _, h => exact h
  | 11, _, _, h => exact h
  | 12, _, _, h => exact c12_at (by decide) h
  | 13, _, _, h => exact h
  | 14, _, _, h => exact h
  | 15, _, _, h => exact h
  | 16, _, _, h => exact h
  | 17, _, _, h => exact h
  | 18, _, _, h => exact h
  | q + 19, _, hv, _ => exact hv.elim
theorem cu_39 {cy : Nat → ClassId} {g : CWt} {S : St} (n : Nat) (v : Int32) : CU cy g S (up S 39 n v) 8 n := by
  intro k2 i2 hne hv D a H h
  match k2, hne, hv, h with
  | 0, _, _, h => exact h
  | 1, _, _, h => exact h
  | 2, _, _, h => exact h
  | 3, _, _, h => exact h
  | 4, _, _, h => exact h
  | 5, _, _, h => exact h
  | 6, _, _, h => exact h
  | 7, _, _, h => exact h
  | 8, hne, hv, h =>
    have hi : i2 ≠ n := fun e => hne ⟨rfl, e⟩
    have e : ccell cy g (up S 39 n v) 8 i2 = ccell cy g S 8 i2 := by simp [ccell, up_app, hi]
    exact e ▸ h
  | 9, _, _, h => exact h
  | 10, _, _, h => exact h
  | 11, _, _, h => exact h
  | 12, _, _, h => exact c12_at (by decide) h
  | 13, _, _, h => exact h
  | 14, _, _, h => exact h
  | 15, _, _, h => exact h
  | 16, _, _, h => exact h
  | 17, _, _, h => exact h
  | 18, _, _, h => exact h
  | q + 19, _, hv, _ => exact hv.elim
theorem cu_40 {cy : Nat → ClassId} {g : CWt} {S : St} (n : Nat) (v : Int32) : CU cy g S (up S 40 n v) 8 n := by
  intro k2 i2 hne hv D a H h
  match k2, hne, hv, h with
  | 0, _, _, h => exact h
  | 1, _, _, h => exact h
  | 2, _, _, h => exact h
  | 3, _, _, h => exact h
  | 4, _, _, h => exact h
  | 5, _, _, h => exact h
  | 6, _, _, h => exact h
  | 7, _, _, h => exact h
  | 8, hne, hv, h =>
    have hi : i2 ≠ n := fun e => hne ⟨rfl, e⟩
    have e : ccell cy g (up S 40 n v) 8 i2 = ccell cy g S 8 i2 := by simp [ccell, up_app, hi]
    exact e ▸ h
  | 9, _, _, h => exact h
  | 10, _, _, h => exact h
  | 11, _, _, h => exact h
  | 12, _, _, h => exact c12_at (by decide) h
  | 13, _, _, h => exact h
  | 14, _, _, h => exact h
  | 15, _, _, h => exact h
  | 16, _, _, h => exact h
  | 17, _, _, h => exact h
  | 18, _, _, h => exact h
  | q + 19, _, hv, _ => exact hv.elim
theorem cu_41 {cy : Nat → ClassId} {g : CWt} {S : St} (n : Nat) (v : Int32) : CU cy g S (up S 41 n v) 8 n := by
  intro k2 i2 hne hv D a H h
  match k2, hne, hv, h with
  | 0, _, _, h => exact h
  | 1, _, _, h => exact h
  | 2, _, _, h => exact h
  | 3, _, _, h => exact h
  | 4, _, _, h => exact h
  | 5, _, _, h => exact h
  | 6, _, _, h => exact h
  | 7, _, _, h => exact h
  | 8, hne, hv, h =>
    have hi : i2 ≠ n := fun e => hne ⟨rfl, e⟩
    have e : ccell cy g (up S 41 n v) 8 i2 = ccell cy g S 8 i2 := by simp [ccell, up_app, hi]
    exact e ▸ h
  | 9, _, _, h => exact h
  | 10, _, _, h => exact h
  | 11, _, _, h => exact h
  | 12, _, _, h => exact c12_at (by decide) h
  | 13, _, _, h => exact h
  | 14, _, _, h => exact h
  | 15, _, _, h => exact h
  | 16, _, _, h => exact h
  | 17, _, _, h => exact h
  | 18, _, _, h => exact h
  | q + 19, _, hv, _ => exact hv.elim
theorem cu_65 {cy : Nat → ClassId} {g : CWt} {S : St} (n : Nat) (v : Int32) : CU cy g S (up S 65 n v) 11 n := by
  intro k2 i2 hne hv D a H h
  match k2, hne, hv, h with
  | 0, _, _, h => exact h
  | 1, _, _, h => exact h
  | 2, _, _, h => exact h
  | 3, _, _, h => exact h
  | 4, _, _, h => exact h
  | 5, _, _, h => exact h
  | 6, _, _, h => exact h
  | 7, _, _, h => exact h
  | 8, _, _, h => exact h
  | 9, _, _, h => exact h
  | 10, _, _, h => exact h
  | 11, hne, hv, h =>
    have hi : i2 ≠ n := fun e => hne ⟨rfl, e⟩
    have e : ccell cy g (up S 65 n v) 11 i2 = ccell cy g S 11 i2 := by simp [ccell, up_app, hi]
    exact e ▸ h
  | 12, _, _, h => exact c12_at (by decide) h
  | 13, _, _, h => exact h
  | 14, _, _, h => exact h
  | 15, _, _, h => exact h
  | 16, _, _, h => exact h
  | 17, _, _, h => exact h
  | 18, _, _, h => exact h
  | q + 19, _, hv, _ => exact hv.elim
theorem cu_66 {cy : Nat → ClassId} {g : CWt} {S : St} (n : Nat) (v : Int32) : CU cy g S (up S 66 n v) 11 n := by
  intro k2 i2 hne hv D a H h
  match k2, hne, hv, h with
  | 0, _, _, h => exact h
  | 1, _, _, h => exact h
  | 2, _, _, h => exact h
  | 3, _, _, h => exact h
  | 4, _, _, h => exact h
  | 5, _, _, h => exact h
  | 6, _, _, h => exact h
  | 7, _, _, h => exact h
  | 8, _, _, h => exact h
  | 9, _, _, h => exact h
  | 10, _, _, h => exact h
  | 11, hne, hv, h =>
    have hi : i2 ≠ n := fun e => hne ⟨rfl, e⟩
    have e : ccell cy g (up S 66 n v) 11 i2 = ccell cy g S 11 i2 := by simp [ccell, up_app, hi]
    exact e ▸ h
  | 12, _, _, h => exact c12_at (by decide) h
  | 13, _, _, h => exact h
  | 14, _, _, h => exact h
  | 15, _, _, h => exact h
  | 16, _, _, h => exact h
  | 17, _, _, h => exact h
  | 18, _, _, h => exact h
  | q + 19, _, hv, _ => exact hv.elim
theorem cu_51 {cy : Nat → ClassId} {g : CWt} {S : St} (n t : Nat) (ht : t < 8) (v : Int32) : CU cy g S (up S 51 (8 * n + t) v) 1 n := by
  intro k2 i2 hne hv D a H h
  match k2, hne, hv, h with
  | 0, _, _, h => exact h
  | 1, hne, hv, h =>
    have hi : i2 ≠ n := fun e => hne ⟨rfl, e⟩
    exact arI_congr (fun t2 ht2 => by rw [up_off (by omega)]) h
  | 2, _, _, h => exact h
  | 3, _, _, h => exact h
  | 4, _, _, h => exact h
  | 5, _, _, h => exact h
  | 6, _, _, h => exact h
  | 7, _, _, h => exact h
  | 8, _, _, h => exact h
  | 9, _, _, h => exact h
  | 10, _, _, h => exact h
  | 11, _, _, h => exact h
  | 12, _, _, h => exact c12_at (by decide) h
  | 13, _, _, h => exact h
  | 14, _, _, h => exact h
  | 15, _, _, h => exact h
  | 16, _, _, h => exact h
  | 17, _, _, h => exact h
  | 18, _, _, h => exact h
  | q + 19, _, hv, _ => exact hv.elim
theorem cu_62 {cy : Nat → ClassId} {g : CWt} {S : St} (n t : Nat) (ht : t < 8) (v : Int32) : CU cy g S (up S 62 (8 * n + t) v) 2 n := by
  intro k2 i2 hne hv D a H h
  match k2, hne, hv, h with
  | 0, _, _, h => exact h
  | 1, _, _, h => exact h
  | 2, hne, hv, h =>
    have hi : i2 ≠ n := fun e => hne ⟨rfl, e⟩
    exact arI_congr (fun t2 ht2 => by rw [up_off (by omega)]) h
  | 3, _, _, h => exact h
  | 4, _, _, h => exact h
  | 5, _, _, h => exact h
  | 6, _, _, h => exact h
  | 7, _, _, h => exact h
  | 8, _, _, h => exact h
  | 9, _, _, h => exact h
  | 10, _, _, h => exact h
  | 11, _, _, h => exact h
  | 12, _, _, h => exact c12_at (by decide) h
  | 13, _, _, h => exact h
  | 14, _, _, h => exact h
  | 15, _, _, h => exact h
  | 16, _, _, h => exact h
  | 17, _, _, h => exact h
  | 18, _, _, h => exact h
  | q + 19, _, hv, _ => exact hv.elim
theorem cu_53 {cy : Nat → ClassId} {g : CWt} {S : St} (n t : Nat) (ht : t < 8) (v : Int32) : CU cy g S (up S 53 (8 * n + t) v) 3 n := by
  intro k2 i2 hne hv D a H h
  match k2, hne, hv, h with
  | 0, _, _, h => exact h
  | 1, _, _, h => exact h
  | 2, _, _, h => exact h
  | 3, hne, hv, h =>
    have hi : i2 ≠ n := fun e => hne ⟨rfl, e⟩
    exact arI_congr (fun t2 ht2 => by rw [up_off (by omega)]) h
  | 4, _, _, h => exact h
  | 5, _, _, h => exact h
  | 6, _, _, h => exact h
  | 7, _, _, h => exact h
  | 8, _, _, h => exact h
  | 9, _, _, h => exact h
  | 10, _, _, h => exact h
  | 11, _, _, h => exact h
  | 12, _, _, h => exact c12_at (by decide) h
  | 13, _, _, h => exact h
  | 14, _, _, h => exact h
  | 15, _, _, h => exact h
  | 16, _, _, h => exact h
  | 17, _, _, h => exact h
  | 18, _, _, h => exact h
  | q + 19, _, hv, _ => exact hv.elim
theorem cu_20 {cy : Nat → ClassId} {g : CWt} {S : St} (n : Nat) (v : Int32) : CU cy g S (up S 20 n v) 16 0 := by
  intro k2 i2 hne hv D a H h
  match k2, hne, hv, h with
  | 0, _, _, h => exact h
  | 1, _, _, h => exact h
  | 2, _, _, h => exact h
  | 3, _, _, h => exact h
  | 4, _, _, h => exact h
  | 5, _, _, h => exact h
  | 6, _, _, h => exact h
  | 7, _, _, h => exact h
  | 8, _, _, h => exact h
  | 9, _, _, h => exact h
  | 10, _, _, h => exact h
  | 11, _, _, h => exact h
  | 12, _, _, h => exact c12_at (by decide) h
  | 13, _, _, h => exact h
  | 14, _, _, h => exact h
  | 15, _, _, h => exact h
  | 16, hne, hv, h =>
    exact absurd ⟨rfl, hv⟩ hne
  | 17, _, _, h => exact h
  | 18, _, _, h => exact h
  | q + 19, _, hv, _ => exact hv.elim
theorem cu_63 {cy : Nat → ClassId} {g : CWt} {S : St} (n : Nat) (v : Int32) : CU cy g S (up S 63 n v) 17 0 := by
  intro k2 i2 hne hv D a H h
  match k2, hne, hv, h with
  | 0, _, _, h => exact h
  | 1, _, _, h => exact h
  | 2, _, _, h => exact h
  | 3, _, _, h => exact h
  | 4, _, _, h => exact h
  | 5, _, _, h => exact h
  | 6, _, _, h => exact h
  | 7, _, _, h => exact h
  | 8, _, _, h => exact h
  | 9, _, _, h => exact h
  | 10, _, _, h => exact h
  | 11, _, _, h => exact h
  | 12, _, _, h => exact c12_at (by decide) h
  | 13, _, _, h => exact h
  | 14, _, _, h => exact h
  | 15, _, _, h => exact h
  | 16, _, _, h => exact h
  | 17, hne, hv, h =>
    exact absurd ⟨rfl, hv⟩ hne
  | 18, _, _, h => exact h
  | q + 19, _, hv, _ => exact hv.elim
theorem cu_64 {cy : Nat → ClassId} {g : CWt} {S : St} (v : Int32) : CU cy g S (up S 64 0 v) 18 0 := by
  intro k2 i2 hne hv D a H h
  match k2, hne, hv, h with
  | 0, _, _, h => exact h
  | 1, _, _, h => exact h
  | 2, _, _, h => exact h
  | 3, _, _, h => exact h
  | 4, _, _, h => exact h
  | 5, _, _, h => exact h
  | 6, _, _, h => exact h
  | 7, _, _, h => exact h
  | 8, _, _, h => exact h
  | 9, _, _, h => exact h
  | 10, _, _, h => exact h
  | 11, _, _, h => exact h
  | 12, _, _, h => exact c12_at (by decide) h
  | 13, _, _, h => exact h
  | 14, _, _, h => exact h
  | 15, _, _, h => exact h
  | 16, _, _, h => exact h
  | 17, _, _, h => exact h
  | 18, hne, hv, h =>
    exact absurd ⟨rfl, hv⟩ hne
  | q + 19, _, hv, _ => exact hv.elim
theorem cu_42 {cy : Nat → ClassId} {g : CWt} {S : St} (v : Int32) : CU cy g S (up S 42 0 v) 18 0 := by
  intro k2 i2 hne hv D a H h
  match k2, hne, hv, h with
  | 0, _, _, h => exact h
  | 1, _, _, h => exact h
  | 2, _, _, h => exact h
  | 3, _, _, h => exact h
  | 4, _, _, h => exact h
  | 5, _, _, h => exact h
  | 6, _, _, h => exact h
  | 7, _, _, h => exact h
  | 8, _, _, h => exact h
  | 9, _, _, h => exact h
  | 10, _, _, h => exact h
  | 11, _, _, h => exact h
  | 12, _, _, h => exact c12_at (by decide) h
  | 13, _, _, h => exact h
  | 14, _, _, h => exact h
  | 15, _, _, h => exact h
  | 16, _, _, h => exact h
  | 17, _, _, h => exact h
  | 18, hne, hv, h =>
    exact absurd ⟨rfl, hv⟩ hne
  | q + 19, _, hv, _ => exact hv.elim
theorem cu_1 {cy : Nat → ClassId} {g : CWt} {S : St} (v : Int32) : CU cy g S (up S 1 0 v) 18 0 := by
  intro k2 i2 hne hv D a H h
  match k2, hne, hv, h with
  | 0, _, _, h => exact h
  | 1, _, _, h => exact h
  | 2, _, _, h => exact h
  | 3, _, _, h => exact h
  | 4, _, _, h => exact h
  | 5, _, _, h => exact h
  | 6, _, _, h => exact h
  | 7, _, _, h => exact h
  | 8, _, _, h => exact h
  | 9, _, _, h => exact h
  | 10, _, _, h => exact h
  | 11, _, _, h => exact h
  | 12, _, _, h => exact c12_at (by decide) h
  | 13, _, _, h => exact h
  | 14, _, _, h => exact h
  | 15, _, _, h => exact h
  | 16, _, _, h => exact h
  | 17, _, _, h => exact h
  | 18, hne, hv, h =>
    exact absurd ⟨rfl, hv⟩ hne
  | q + 19, _, hv, _ => exact hv.elim
theorem cu_6 {cy : Nat → ClassId} {g : CWt} {S : St} (v : Int32) : CU cy g S (up S 6 0 v) 18 0 := by
  intro k2 i2 hne hv D a H h
  match k2, hne, hv, h with
  | 0, _, _, h => exact h
  | 1, _, _, h => exact h
  | 2, _, _, h => exact h
  | 3, _, _, h => exact h
  | 4, _, _, h => exact h
  | 5, _, _, h => exact h
  | 6, _, _, h => exact h
  | 7, _, _, h => exact h
  | 8, _, _, h => exact h
  | 9, _, _, h => exact h
  | 10, _, _, h => exact h
  | 11, _, _, h => exact h
  | 12, _, _, h => exact c12_at (by decide) h
  | 13, _, _, h => exact h
  | 14, _, _, h => exact h
  | 15, _, _, h => exact h
  | 16, _, _, h => exact h
  | 17, _, _, h => exact h
  | 18, hne, hv, h =>
    exact absurd ⟨rfl, hv⟩ hne
  | q + 19, _, hv, _ => exact hv.elim
theorem cn_2 {cy : Nat → ClassId} {g : CWt} {S : St} (n : Nat) (v : Int32) : ccell cy g (up S 2 n v) 0 n = .inr (3, ([.int (S 2 n), .int (S 3 n), .int (S 4 n), .int (S 5 n), .ref (ga g 1 n), .ref (ga g 2 n), .ref (ga g 3 n)] : List Value).set 0 (.int v)) := by simp [ccell, up_app]
theorem cn_3 {cy : Nat → ClassId} {g : CWt} {S : St} (n : Nat) (v : Int32) : ccell cy g (up S 3 n v) 0 n = .inr (3, ([.int (S 2 n), .int (S 3 n), .int (S 4 n), .int (S 5 n), .ref (ga g 1 n), .ref (ga g 2 n), .ref (ga g 3 n)] : List Value).set 1 (.int v)) := by simp [ccell, up_app]
theorem cn_4 {cy : Nat → ClassId} {g : CWt} {S : St} (n : Nat) (v : Int32) : ccell cy g (up S 4 n v) 0 n = .inr (3, ([.int (S 2 n), .int (S 3 n), .int (S 4 n), .int (S 5 n), .ref (ga g 1 n), .ref (ga g 2 n), .ref (ga g 3 n)] : List Value).set 2 (.int v)) := by simp [ccell, up_app]
theorem cn_5 {cy : Nat → ClassId} {g : CWt} {S : St} (n : Nat) (v : Int32) : ccell cy g (up S 5 n v) 0 n = .inr (3, ([.int (S 2 n), .int (S 3 n), .int (S 4 n), .int (S 5 n), .ref (ga g 1 n), .ref (ga g 2 n), .ref (ga g 3 n)] : List Value).set 3 (.int v)) := by simp [ccell, up_app]
theorem cn_21 {cy : Nat → ClassId} {g : CWt} {S : St} (n : Nat) (v : Int32) : ccell cy g (up S 21 n v) 4 n = .inr (7, ([.int (S 21 n), .int (S 60 n), .int (S 49 n), .int (S 50 n), .int (S 46 n), .int (S 47 n), .int (S 48 n)] : List Value).set 0 (.int v)) := by simp [ccell, up_app]
theorem cn_60 {cy : Nat → ClassId} {g : CWt} {S : St} (n : Nat) (v : Int32) : ccell cy g (up S 60 n v) 4 n = .inr (7, ([.int (S 21 n), .int (S 60 n), .int (S 49 n), .int (S 50 n), .int (S 46 n), .int (S 47 n), .int (S 48 n)] : List Value).set 1 (.int v)) := by simp [ccell, up_app]
theorem cn_49 {cy : Nat → ClassId} {g : CWt} {S : St} (n : Nat) (v : Int32) : ccell cy g (up S 49 n v) 4 n = .inr (7, ([.int (S 21 n), .int (S 60 n), .int (S 49 n), .int (S 50 n), .int (S 46 n), .int (S 47 n), .int (S 48 n)] : List Value).set 2 (.int v)) := by simp [ccell, up_app]
theorem cn_50 {cy : Nat → ClassId} {g : CWt} {S : St} (n : Nat) (v : Int32) : ccell cy g (up S 50 n v) 4 n = .inr (7, ([.int (S 21 n), .int (S 60 n), .int (S 49 n), .int (S 50 n), .int (S 46 n), .int (S 47 n), .int (S 48 n)] : List Value).set 3 (.int v)) := by simp [ccell, up_app]
theorem cn_46 {cy : Nat → ClassId} {g : CWt} {S : St} (n : Nat) (v : Int32) : ccell cy g (up S 46 n v) 4 n = .inr (7, ([.int (S 21 n), .int (S 60 n), .int (S 49 n), .int (S 50 n), .int (S 46 n), .int (S 47 n), .int (S 48 n)] : List Value).set 4 (.int v)) := by simp [ccell, up_app]
theorem cn_47 {cy : Nat → ClassId} {g : CWt} {S : St} (n : Nat) (v : Int32) : ccell cy g (up S 47 n v) 4 n = .inr (7, ([.int (S 21 n), .int (S 60 n), .int (S 49 n), .int (S 50 n), .int (S 46 n), .int (S 47 n), .int (S 48 n)] : List Value).set 5 (.int v)) := by simp [ccell, up_app]
theorem cn_48 {cy : Nat → ClassId} {g : CWt} {S : St} (n : Nat) (v : Int32) : ccell cy g (up S 48 n v) 4 n = .inr (7, ([.int (S 21 n), .int (S 60 n), .int (S 49 n), .int (S 50 n), .int (S 46 n), .int (S 47 n), .int (S 48 n)] : List Value).set 6 (.int v)) := by simp [ccell, up_app]
theorem cn_8 {cy : Nat → ClassId} {g : CWt} {S : St} (n : Nat) (v : Int32) : ccell cy g (up S 8 n v) 5 n = .inr (5, ([.int (nI n), .int (S 8 n), .int (S 9 n), .int (S 10 n), .int (S 11 n), .int (S 12 n), .int (S 13 n), .int (S 14 n), .int (S 61 n)] : List Value).set 1 (.int v)) := by simp [ccell, up_app]
theorem cn_9 {cy : Nat → ClassId} {g : CWt} {S : St} (n : Nat) (v : Int32) : ccell cy g (up S 9 n v) 5 n = .inr (5, ([.int (nI n), .int (S 8 n), .int (S 9 n), .int (S 10 n), .int (S 11 n), .int (S 12 n), .int (S 13 n), .int (S 14 n), .int (S 61 n)] : List Value).set 2 (.int v)) := by simp [ccell, up_app]
theorem cn_10 {cy : Nat → ClassId} {g : CWt} {S : St} (n : Nat) (v : Int32) : ccell cy g (up S 10 n v) 5 n = .inr (5, ([.int (nI n), .int (S 8 n), .int (S 9 n), .int (S 10 n), .int (S 11 n), .int (S 12 n), .int (S 13 n), .int (S 14 n), .int (S 61 n)] : List Value).set 3 (.int v)) := by simp [ccell, up_app]
theorem cn_11 {cy : Nat → ClassId} {g : CWt} {S : St} (n : Nat) (v : Int32) : ccell cy g (up S 11 n v) 5 n = .inr (5, ([.int (nI n), .int (S 8 n), .int (S 9 n), .int (S 10 n), .int (S 11 n), .int (S 12 n), .int (S 13 n), .int (S 14 n), .int (S 61 n)] : List Value).set 4 (.int v)) := by simp [ccell, up_app]
theorem cn_12 {cy : Nat → ClassId} {g : CWt} {S : St} (n : Nat) (v : Int32) : ccell cy g (up S 12 n v) 5 n = .inr (5, ([.int (nI n), .int (S 8 n), .int (S 9 n), .int (S 10 n), .int (S 11 n), .int (S 12 n), .int (S 13 n), .int (S 14 n), .int (S 61 n)] : List Value).set 5 (.int v)) := by simp [ccell, up_app]
theorem cn_13 {cy : Nat → ClassId} {g : CWt} {S : St} (n : Nat) (v : Int32) : ccell cy g (up S 13 n v) 5 n = .inr (5, ([.int (nI n), .int (S 8 n), .int (S 9 n), .int (S 10 n), .int (S 11 n), .int (S 12 n), .int (S 13 n), .int (S 14 n), .int (S 61 n)] : List Value).set 6 (.int v)) := by simp [ccell, up_app]
theorem cn_14 {cy : Nat → ClassId} {g : CWt} {S : St} (n : Nat) (v : Int32) : ccell cy g (up S 14 n v) 5 n = .inr (5, ([.int (nI n), .int (S 8 n), .int (S 9 n), .int (S 10 n), .int (S 11 n), .int (S 12 n), .int (S 13 n), .int (S 14 n), .int (S 61 n)] : List Value).set 7 (.int v)) := by simp [ccell, up_app]
theorem cn_61 {cy : Nat → ClassId} {g : CWt} {S : St} (n : Nat) (v : Int32) : ccell cy g (up S 61 n v) 5 n = .inr (5, ([.int (nI n), .int (S 8 n), .int (S 9 n), .int (S 10 n), .int (S 11 n), .int (S 12 n), .int (S 13 n), .int (S 14 n), .int (S 61 n)] : List Value).set 8 (.int v)) := by simp [ccell, up_app]
theorem cn_16 {cy : Nat → ClassId} {g : CWt} {S : St} (n : Nat) (v : Int32) : ccell cy g (up S 16 n v) 6 n = .inr (1, ([.int (S 16 n), .int (S 17 n), .int (S 18 n), .int (S 19 n)] : List Value).set 0 (.int v)) := by simp [ccell, up_app]
theorem cn_17 {cy : Nat → ClassId} {g : CWt} {S : St} (n : Nat) (v : Int32) : ccell cy g (up S 17 n v) 6 n = .inr (1, ([.int (S 16 n), .int (S 17 n), .int (S 18 n), .int (S 19 n)] : List Value).set 1 (.int v)) := by simp [ccell, up_app]
theorem cn_18 {cy : Nat → ClassId} {g : CWt} {S : St} (n : Nat) (v : Int32) : ccell cy g (up S 18 n v) 6 n = .inr (1, ([.int (S 16 n), .int (S 17 n), .int (S 18 n), .int (S 19 n)] : List Value).set 2 (.int v)) := by simp [ccell, up_app]
theorem cn_19 {cy : Nat → ClassId} {g : CWt} {S : St} (n : Nat) (v : Int32) : ccell cy g (up S 19 n v) 6 n = .inr (1, ([.int (S 16 n), .int (S 17 n), .int (S 18 n), .int (S 19 n)] : List Value).set 3 (.int v)) := by simp [ccell, up_app]
theorem cn_24 {cy : Nat → ClassId} {g : CWt} {S : St} (n : Nat) (v : Int32) : ccell cy g (up S 24 n v) 7 n = .inr (2, ([.int (S 24 n), .int (S 25 n), .int (S 26 n), .int (S 27 n)] : List Value).set 0 (.int v)) := by simp [ccell, up_app]
theorem cn_25 {cy : Nat → ClassId} {g : CWt} {S : St} (n : Nat) (v : Int32) : ccell cy g (up S 25 n v) 7 n = .inr (2, ([.int (S 24 n), .int (S 25 n), .int (S 26 n), .int (S 27 n)] : List Value).set 1 (.int v)) := by simp [ccell, up_app]
theorem cn_26 {cy : Nat → ClassId} {g : CWt} {S : St} (n : Nat) (v : Int32) : ccell cy g (up S 26 n v) 7 n = .inr (2, ([.int (S 24 n), .int (S 25 n), .int (S 26 n), .int (S 27 n)] : List Value).set 2 (.int v)) := by simp [ccell, up_app]
theorem cn_27 {cy : Nat → ClassId} {g : CWt} {S : St} (n : Nat) (v : Int32) : ccell cy g (up S 27 n v) 7 n = .inr (2, ([.int (S 24 n), .int (S 25 n), .int (S 26 n), .int (S 27 n)] : List Value).set 3 (.int v)) := by simp [ccell, up_app]
theorem cn_29 {cy : Nat → ClassId} {g : CWt} {S : St} (n : Nat) (v : Int32) : ccell cy g (up S 29 n v) 8 n = .inr (6, ([.int (nI n), .int (S 29 n), .int (S 30 n), .int (S 31 n), .int (S 33 n), .ref (ga g 9 n), .int (S 32 n), .int (S 34 n), .int (S 35 n), .int (S 37 n), .int (S 36 n), .int (S 38 n), .int (S 39 n), .int (S 40 n), .int (S 41 n)] : List Value).set 1 (.int v)) := by simp [ccell, up_app]
theorem cn_30 {cy : Nat → ClassId} {g : CWt} {S : St} (n : Nat) (v : Int32) : ccell cy g (up S 30 n v) 8 n = .inr (6, ([.int (nI n), .int (S 29 n), .int (S 30 n), .int (S 31 n), .int (S 33 n), .ref (ga g 9 n), .int (S 32 n), .int (S 34 n), .int (S 35 n), .int (S 37 n), .int (S 36 n), .int (S 38 n), .int (S 39 n), .int (S 40 n), .int (S 41 n)] : List Value).set 2 (.int v)) := by simp [ccell, up_app]
theorem cn_31 {cy : Nat → ClassId} {g : CWt} {S : St} (n : Nat) (v : Int32) : ccell cy g (up S 31 n v) 8 n = .inr (6, ([.int (nI n), .int (S 29 n), .int (S 30 n), .int (S 31 n), .int (S 33 n), .ref (ga g 9 n), .int (S 32 n), .int (S 34 n), .int (S 35 n), .int (S 37 n), .int (S 36 n), .int (S 38 n), .int (S 39 n), .int (S 40 n), .int (S 41 n)] : List Value).set 3 (.int v)) := by simp [ccell, up_app]
theorem cn_33 {cy : Nat → ClassId} {g : CWt} {S : St} (n : Nat) (v : Int32) : ccell cy g (up S 33 n v) 8 n = .inr (6, ([.int (nI n), .int (S 29 n), .int (S 30 n), .int (S 31 n), .int (S 33 n), .ref (ga g 9 n), .int (S 32 n), .int (S 34 n), .int (S 35 n), .int (S 37 n), .int (S 36 n), .int (S 38 n), .int (S 39 n), .int (S 40 n), .int (S 41 n)] : List Value).set 4 (.int v)) := by simp [ccell, up_app]
theorem cn_32 {cy : Nat → ClassId} {g : CWt} {S : St} (n : Nat) (v : Int32) : ccell cy g (up S 32 n v) 8 n = .inr (6, ([.int (nI n), .int (S 29 n), .int (S 30 n), .int (S 31 n), .int (S 33 n), .ref (ga g 9 n), .int (S 32 n), .int (S 34 n), .int (S 35 n), .int (S 37 n), .int (S 36 n), .int (S 38 n), .int (S 39 n), .int (S 40 n), .int (S 41 n)] : List Value).set 6 (.int v)) := by simp [ccell, up_app]
theorem cn_34 {cy : Nat → ClassId} {g : CWt} {S : St} (n : Nat) (v : Int32) : ccell cy g (up S 34 n v) 8 n = .inr (6, ([.int (nI n), .int (S 29 n), .int (S 30 n), .int (S 31 n), .int (S 33 n), .ref (ga g 9 n), .int (S 32 n), .int (S 34 n), .int (S 35 n), .int (S 37 n), .int (S 36 n), .int (S 38 n), .int (S 39 n), .int (S 40 n), .int (S 41 n)] : List Value).set 7 (.int v)) := by simp [ccell, up_app]
theorem cn_35 {cy : Nat → ClassId} {g : CWt} {S : St} (n : Nat) (v : Int32) : ccell cy g (up S 35 n v) 8 n = .inr (6, ([.int (nI n), .int (S 29 n), .int (S 30 n), .int (S 31 n), .int (S 33 n), .ref (ga g 9 n), .int (S 32 n), .int (S 34 n), .int (S 35 n), .int (S 37 n), .int (S 36 n), .int (S 38 n), .int (S 39 n), .int (S 40 n), .int (S 41 n)] : List Value).set 8 (.int v)) := by simp [ccell, up_app]
theorem cn_37 {cy : Nat → ClassId} {g : CWt} {S : St} (n : Nat) (v : Int32) : ccell cy g (up S 37 n v) 8 n = .inr (6, ([.int (nI n), .int (S 29 n), .int (S 30 n), .int (S 31 n), .int (S 33 n), .ref (ga g 9 n), .int (S 32 n), .int (S 34 n), .int (S 35 n), .int (S 37 n), .int (S 36 n), .int (S 38 n), .int (S 39 n), .int (S 40 n), .int (S 41 n)] : List Value).set 9 (.int v)) := by simp [ccell, up_app]
theorem cn_36 {cy : Nat → ClassId} {g : CWt} {S : St} (n : Nat) (v : Int32) : ccell cy g (up S 36 n v) 8 n = .inr (6, ([.int (nI n), .int (S 29 n), .int (S 30 n), .int (S 31 n), .int (S 33 n), .ref (ga g 9 n), .int (S 32 n), .int (S 34 n), .int (S 35 n), .int (S 37 n), .int (S 36 n), .int (S 38 n), .int (S 39 n), .int (S 40 n), .int (S 41 n)] : List Value).set 10 (.int v)) := by simp [ccell, up_app]
theorem cn_38 {cy : Nat → ClassId} {g : CWt} {S : St} (n : Nat) (v : Int32) : ccell cy g (up S 38 n v) 8 n = .inr (6, ([.int (nI n), .int (S 29 n), .int (S 30 n), .int (S 31 n), .int (S 33 n), .ref (ga g 9 n), .int (S 32 n), .int (S 34 n), .int (S 35 n), .int (S 37 n), .int (S 36 n), .int (S 38 n), .int (S 39 n), .int (S 40 n), .int (S 41 n)] : List Value).set 11 (.int v)) := by simp [ccell, up_app]
theorem cn_39 {cy : Nat → ClassId} {g : CWt} {S : St} (n : Nat) (v : Int32) : ccell cy g (up S 39 n v) 8 n = .inr (6, ([.int (nI n), .int (S 29 n), .int (S 30 n), .int (S 31 n), .int (S 33 n), .ref (ga g 9 n), .int (S 32 n), .int (S 34 n), .int (S 35 n), .int (S 37 n), .int (S 36 n), .int (S 38 n), .int (S 39 n), .int (S 40 n), .int (S 41 n)] : List Value).set 12 (.int v)) := by simp [ccell, up_app]
theorem cn_40 {cy : Nat → ClassId} {g : CWt} {S : St} (n : Nat) (v : Int32) : ccell cy g (up S 40 n v) 8 n = .inr (6, ([.int (nI n), .int (S 29 n), .int (S 30 n), .int (S 31 n), .int (S 33 n), .ref (ga g 9 n), .int (S 32 n), .int (S 34 n), .int (S 35 n), .int (S 37 n), .int (S 36 n), .int (S 38 n), .int (S 39 n), .int (S 40 n), .int (S 41 n)] : List Value).set 13 (.int v)) := by simp [ccell, up_app]
theorem cn_41 {cy : Nat → ClassId} {g : CWt} {S : St} (n : Nat) (v : Int32) : ccell cy g (up S 41 n v) 8 n = .inr (6, ([.int (nI n), .int (S 29 n), .int (S 30 n), .int (S 31 n), .int (S 33 n), .ref (ga g 9 n), .int (S 32 n), .int (S 34 n), .int (S 35 n), .int (S 37 n), .int (S 36 n), .int (S 38 n), .int (S 39 n), .int (S 40 n), .int (S 41 n)] : List Value).set 14 (.int v)) := by simp [ccell, up_app]
theorem cn_65 {cy : Nat → ClassId} {g : CWt} {S : St} (n : Nat) (v : Int32) : ccell cy g (up S 65 n v) 11 n = .inr (4, ([.int (S 65 n), .int (S 66 n)] : List Value).set 0 (.int v)) := by simp [ccell, up_app]
theorem cn_66 {cy : Nat → ClassId} {g : CWt} {S : St} (n : Nat) (v : Int32) : ccell cy g (up S 66 n v) 11 n = .inr (4, ([.int (S 65 n), .int (S 66 n)] : List Value).set 1 (.int v)) := by simp [ccell, up_app]
theorem cn_64 {cy : Nat → ClassId} {g : CWt} {S : St} (v : Int32) : ccell cy g (up S 64 0 v) 18 0 = .inr (8, ([.ref (ga g 14 0), .ref (ga g 15 0), .ref (ga g 16 0), .ref (ga g 12 0), .ref (ga g 12 1), .ref (ga g 12 2), .ref (ga g 12 3), .ref (ga g 17 0), .int (S 64 0), .int (S 42 0), .int (S 1 0), .int (S 6 0)] : List Value).set 8 (.int v)) := by simp [ccell, up_app]
theorem cn_42 {cy : Nat → ClassId} {g : CWt} {S : St} (v : Int32) : ccell cy g (up S 42 0 v) 18 0 = .inr (8, ([.ref (ga g 14 0), .ref (ga g 15 0), .ref (ga g 16 0), .ref (ga g 12 0), .ref (ga g 12 1), .ref (ga g 12 2), .ref (ga g 12 3), .ref (ga g 17 0), .int (S 64 0), .int (S 42 0), .int (S 1 0), .int (S 6 0)] : List Value).set 9 (.int v)) := by simp [ccell, up_app]
theorem cn_1 {cy : Nat → ClassId} {g : CWt} {S : St} (v : Int32) : ccell cy g (up S 1 0 v) 18 0 = .inr (8, ([.ref (ga g 14 0), .ref (ga g 15 0), .ref (ga g 16 0), .ref (ga g 12 0), .ref (ga g 12 1), .ref (ga g 12 2), .ref (ga g 12 3), .ref (ga g 17 0), .int (S 64 0), .int (S 42 0), .int (S 1 0), .int (S 6 0)] : List Value).set 10 (.int v)) := by simp [ccell, up_app]
theorem cn_6 {cy : Nat → ClassId} {g : CWt} {S : St} (v : Int32) : ccell cy g (up S 6 0 v) 18 0 = .inr (8, ([.ref (ga g 14 0), .ref (ga g 15 0), .ref (ga g 16 0), .ref (ga g 12 0), .ref (ga g 12 1), .ref (ga g 12 2), .ref (ga g 12 3), .ref (ga g 17 0), .int (S 64 0), .int (S 42 0), .int (S 1 0), .int (S 6 0)] : List Value).set 11 (.int v)) := by simp [ccell, up_app]
theorem cw_22 {D : va_G} {H : Heap} {cy : Nat → ClassId} {g : CWt} {S : St} (n : Nat) (v : Int32) (h : CH D cy g S H) : CH D cy g (up S 22 n v) H := by
  intro k2 i2 hv
  have h := h k2 i2 hv
  match k2, hv, h with
  | 0, _, h => exact h
  | 1, _, h => exact h
  | 2, _, h => exact h
  | 3, _, h => exact h
  | 4, _, h => exact h
  | 5, _, h => exact h
  | 6, _, h => exact h
  | 7, _, h => exact h
  | 8, _, h => exact h
  | 9, _, h => exact h
  | 10, _, h => exact h
  | 11, _, h => exact h
  | 12, _, h => exact c12_at (by decide) h
  | 13, _, h => exact h
  | 14, _, h => exact h
  | 15, _, h => exact h
  | 16, _, h => exact h
  | 17, _, h => exact h
  | 18, _, h => exact h
  | q + 19, hv, _ => exact hv.elim
theorem cw_43 {D : va_G} {H : Heap} {cy : Nat → ClassId} {g : CWt} {S : St} (n : Nat) (v : Int32) (h : CH D cy g S H) : CH D cy g (up S 43 n v) H := by
  intro k2 i2 hv
  have h := h k2 i2 hv
  match k2, hv, h with
  | 0, _, h => exact h
  | 1, _, h => exact h
  | 2, _, h => exact h
  | 3, _, h => exact h
  | 4, _, h => exact h
  | 5, _, h => exact h
  | 6, _, h => exact h
  | 7, _, h => exact h
  | 8, _, h => exact h
  | 9, _, h => exact h
  | 10, _, h => exact h
  | 11, _, h => exact h
  | 12, _, h => exact c12_at (by decide) h
  | 13, _, h => exact h
  | 14, _, h => exact h
  | 15, _, h => exact h
  | 16, _, h => exact h
  | 17, _, h => exact h
  | 18, _, h => exact h
  | q + 19, hv, _ => exact hv.elim
theorem cw_44 {D : va_G} {H : Heap} {cy : Nat → ClassId} {g : CWt} {S : St} (n : Nat) (v : Int32) (h : CH D cy g S H) : CH D cy g (up S 44 n v) H := by
  intro k2 i2 hv
  have h := h k2 i2 hv
  match k2, hv, h with
  | 0, _, h => exact h
  | 1, _, h => exact h
  | 2, _, h => exact h
  | 3, _, h => exact h
  | 4, _, h => exact h
  | 5, _, h => exact h
  | 6, _, h => exact h
  | 7, _, h => exact h
  | 8, _, h => exact h
  | 9, _, h => exact h
  | 10, _, h => exact h
  | 11, _, h => exact h
  | 12, _, h => exact c12_at (by decide) h
  | 13, _, h => exact h
  | 14, _, h => exact h
  | 15, _, h => exact h
  | 16, _, h => exact h
  | 17, _, h => exact h
  | 18, _, h => exact h
  | q + 19, hv, _ => exact hv.elim
theorem cw_45 {D : va_G} {H : Heap} {cy : Nat → ClassId} {g : CWt} {S : St} (n : Nat) (v : Int32) (h : CH D cy g S H) : CH D cy g (up S 45 n v) H := by
  intro k2 i2 hv
  have h := h k2 i2 hv
  match k2, hv, h with
  | 0, _, h => exact h
  | 1, _, h => exact h
  | 2, _, h => exact h
  | 3, _, h => exact h
  | 4, _, h => exact h
  | 5, _, h => exact h
  | 6, _, h => exact h
  | 7, _, h => exact h
  | 8, _, h => exact h
  | 9, _, h => exact h
  | 10, _, h => exact h
  | 11, _, h => exact h
  | 12, _, h => exact c12_at (by decide) h
  | 13, _, h => exact h
  | 14, _, h => exact h
  | 15, _, h => exact h
  | 16, _, h => exact h
  | 17, _, h => exact h
  | 18, _, h => exact h
  | q + 19, hv, _ => exact hv.elim
theorem cw_52 {D : va_G} {H : Heap} {cy : Nat → ClassId} {g : CWt} {S : St} (n : Nat) (v : Int32) (h : CH D cy g S H) : CH D cy g (up S 52 n v) H := by
  intro k2 i2 hv
  have h := h k2 i2 hv
  match k2, hv, h with
  | 0, _, h => exact h
  | 1, _, h => exact h
  | 2, _, h => exact h
  | 3, _, h => exact h
  | 4, _, h => exact h
  | 5, _, h => exact h
  | 6, _, h => exact h
  | 7, _, h => exact h
  | 8, _, h => exact h
  | 9, _, h => exact h
  | 10, _, h => exact h
  | 11, _, h => exact h
  | 12, _, h => exact c12_at (by decide) h
  | 13, _, h => exact h
  | 14, _, h => exact h
  | 15, _, h => exact h
  | 16, _, h => exact h
  | 17, _, h => exact h
  | 18, _, h => exact h
  | q + 19, hv, _ => exact hv.elim
theorem cw_54 {D : va_G} {H : Heap} {cy : Nat → ClassId} {g : CWt} {S : St} (n : Nat) (v : Int32) (h : CH D cy g S H) : CH D cy g (up S 54 n v) H := by
  intro k2 i2 hv
  have h := h k2 i2 hv
  match k2, hv, h with
  | 0, _, h => exact h
  | 1, _, h => exact h
  | 2, _, h => exact h
  | 3, _, h => exact h
  | 4, _, h => exact h
  | 5, _, h => exact h
  | 6, _, h => exact h
  | 7, _, h => exact h
  | 8, _, h => exact h
  | 9, _, h => exact h
  | 10, _, h => exact h
  | 11, _, h => exact h
  | 12, _, h => exact c12_at (by decide) h
  | 13, _, h => exact h
  | 14, _, h => exact h
  | 15, _, h => exact h
  | 16, _, h => exact h
  | 17, _, h => exact h
  | 18, _, h => exact h
  | q + 19, hv, _ => exact hv.elim
