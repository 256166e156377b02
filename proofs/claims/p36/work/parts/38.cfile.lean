/-! file -/
section OSU
variable {p : Program} {l : Launch} {e : Env} {R : Room} {s : State} {m : MethodId} {args : Array Value} {below : List Frame} {meth : Method} {c : Code} {H : Heap} {locs : List Loc} {cells slots : Nat} {Q : State → Prop}
variable {cc : ByteArray} {pc nL : Nat} {ls : Array Slot} {rest : List Value} {D : va_G} {cy : Nat → ClassId} {A : Nat → Prop} {Ts : List Cond} {own : String} {bytes : ByteArray} {maxL index e0 mi q : Nat} {st0 : List Value} {a0 a1 a2 a3 a4 : Int32}
theorem oi_suit (hC : CC p s m args c cc nL own D cy Ts) (hJ : JX A D cy e0 mi s s.heap) (hW : JO s) (hO : at1 D q (.inr (6, [.int 0, .int 0, .int 0, .int 0, .int 0, .null, .int 0, .int 0, .int 0, .int 0, .int 0, .int 0, .int 0, .int 0, .int 0])) H) (hS : va_S A s.heap H locs) (hA : ∀ z, s.heap.size ≤ z → A z) (hAq : A q) (cw : CallB R s args own index yX5_init bytes maxL none wsX5_init ({ frames := 7, cells := 3, slots := 155, locals := 171 } : Room) 3 155 5 ∧ yX5_init.name = "<init>" ∧ (Cond.instanceMethod yX5_init).before args s = true) (hsize : ls.size = nL) (hr : (rest.map fun v => v.category).sum ≤ 8) (hdg : decode cc pc = .ok (.invokespecial index, 3)) (hf : cells + 3 ≤ R.cells ∧ slots + 155 ≤ R.slots)
    (kk : ∀ (u : Nat × Nat × Nat × Int32 × Nat × (Nat → Option Nat)) (H1 : Heap) (locs1 : List Loc), ((H.size ≤ u.1 ∧ H.size ≤ u.2.1 ∧ H.size ≤ u.2.2.1 ∧ u.1 ≠ u.2.1 ∧ u.1 ≠ u.2.2.1 ∧ u.2.1 ≠ u.2.2.1 ∧ q ≠ u.1 ∧ q ≠ u.2.1 ∧ q ≠ u.2.2.1) ∧ (2 ≤ u.2.2.2.2.1 ∧ u.2.2.2.2.1 ≤ 150) ∧ u.2.2.2.2.2 0 = some u.2.2.1) → (at1 D q (.inr (6, [.int a0, .int a1, .int a2, .int a3, .int a4, .ref u.1, .int a3, .int 0, .int 0, .int 0, .int (a4 + 60), .int 0, .int 0, .int 0, .int 0])) H1 ∧ at1 D u.1 (alC u.2.2.2.1 u.2.1 (nI 1)) H1 ∧ at1 D u.2.1 (arO cy u.2.2.2.2.1 u.2.2.2.2.2) H1 ∧ at1 D u.2.2.1 (.inr (4, [.int a3, .int a4])) H1) → (∀ z : Nat, z < H.size → z ≠ q → H1[z]? = H[z]?) → H.size ≤ H1.size → va_S A s.heap H1 locs1 → W p l e R s m args below meth c H1 locs1 (cells + 3) (slots + 155) Q (F0 m (pc + 3) ls rest)) : W p l e R s m args below meth c H locs cells slots Q (F0 m pc ls (.int a4 :: .int a3 :: .int a2 :: .int a1 :: .int a0 :: .ref q :: rest)) := by
  have hB : ∀ z, (z = q ∨ H.size ≤ z) → A z := fun z h => h.elim (fun h => by rw [h]; exact hAq) (fun h => hA z (Nat.le_trans hS.1 h))
  refine va_callv (va_runI (As := [.int a0, .int a1, .int a2, .int a3, .int a4]) (rest := rest) hC.1 (qX5_init l D cy e0 mi q H.size a0 a1 a2 a3 a4) cw ⟨fun x U g mk h => ⟨h.1, h.2.1, h.2.2.1, JX.blind h.2.2.2.1, JO.blind h.2.2.2.2⟩, fun U hU hWm => ⟨rfl, by rw [hU], by rw [hU]; exact hO, JX_now hJ hS hB hU hWm, JO.warm hWm hW⟩⟩ rfl rfl hsize rfl (lv_room hr) hdg hf) hS (fun z _ h => hB z h) hB (fun u t H1 locs1 ht hvm hw hBB hz1 hk1 hS1 => ?_)
  rw [ht] at hBB
  exact kk u H1 locs1 hw hBB (fun z hz hzq => hk1 z hz (fun h => h.elim hzq (fun h => absurd hz (Nat.not_lt.mpr h)))) hz1 hS1
end OSU

theorem ss_file {cy : Nat → ClassId} {g : CWt} {S : St} (hT : CT g S) (t f set : Int32) : ∀ k i, cval g k i → ¬ (k = 12 ∧ i = 3) → ccell cy g (up (up (up (up (up (up (up (up (up (up S 29 (nsu S) t) 30 (nsu S) f) 31 (nsu S) set) 32 (nsu S) set) 33 (nsu S) (S 1 0)) 36 (nsu S) ((S 1 0) + 60)) 65 (64 * (nsu S)) set) 66 (64 * (nsu S)) (S 1 0)) 67 (nsu S) 1) 28 0 ((S 28 0) + 1)) k i = ccell cy g S k i := by
  intro k i hv hx
  match k, hv, hx with
  | 0, _, _ => rfl
  | 1, _, _ => rfl
  | 2, _, _ => rfl
  | 3, _, _ => rfl
  | 4, _, _ => rfl
  | 5, _, _ => rfl
  | 6, _, _ => rfl
  | 7, _, _ => rfl
  | 8, hv, _ =>
    have hi : i ≠ nsu S := Nat.ne_of_lt (hT.1.2.2.2 ▸ (show i < gc g 12 3 from hv))
    have hi2 : ¬ i = ix (S 28 0) := hi
    simp [ccell, up_app, hi, hi2]
  | 9, hv, _ =>
    have hi : i ≠ nsu S := Nat.ne_of_lt (hT.1.2.2.2 ▸ (show i < gc g 12 3 from hv))
    have hi2 : ¬ i = ix (S 28 0) := hi
    simp [ccell, up_app, hi, hi2]
  | 10, _, _ => rfl
  | 11, hv, _ =>
    have h1 : i / 64 < nsu S := hT.1.2.2.2 ▸ hv.1
    have hi : ¬ i = 64 * nsu S := by omega
    simp [ccell, up_app, hi]
  | 12, hv, hx =>
    have hj : cid i ≠ cid 3 := cid_ne2 hv (fun h => hx ⟨rfl, h⟩) (by decide)
    have e : (up (up (up (up (up (up (up (up (up (up S 29 (nsu S) t) 30 (nsu S) f) 31 (nsu S) set) 32 (nsu S) set) 33 (nsu S) (S 1 0)) 36 (nsu S) ((S 1 0) + 60)) 65 (64 * (nsu S)) set) 66 (64 * (nsu S)) (S 1 0)) 67 (nsu S) 1) 28 0 ((S 28 0) + 1)) (cid i) = S (cid i) := by
      rw [up_ne (by rw [show (28 : Nat) = cid 3 from rfl]; exact hj), up_ne (cid_ne (by decide)), up_ne (cid_ne (by decide)), up_ne (cid_ne (by decide)), up_ne (cid_ne (by decide)), up_ne (cid_ne (by decide)), up_ne (cid_ne (by decide)), up_ne (cid_ne (by decide)), up_ne (cid_ne (by decide)), up_ne (cid_ne (by decide))]
    show alC _ _ ((up (up (up (up (up (up (up (up (up (up S 29 (nsu S) t) 30 (nsu S) f) 31 (nsu S) set) 32 (nsu S) set) 33 (nsu S) (S 1 0)) 36 (nsu S) ((S 1 0) + 60)) 65 (64 * (nsu S)) set) 66 (64 * (nsu S)) (S 1 0)) 67 (nsu S) 1) 28 0 ((S 28 0) + 1)) (cid i) 0) = alC _ _ (S (cid i) 0)
    rw [e]
  | 13, _, _ => rfl
  | 14, _, _ => rfl
  | 15, _, _ => rfl
  | 16, _, _ => rfl
  | 17, _, _ => rfl
  | 18, _, _ => rfl
  | x + 19, hv, _ => exact hv.elim
theorem new8_file {cy : Nat → ClassId} {g : CWt} {S : St} (hN : MInv S) (hZ : ZR S) (t f set : Int32) {q la ra2 pq cap2 ra cap : Nat} {md2 md : Int32} {f2 f_ : Nat → Option Nat} : ccell cy (gx3 g (nsu S) q la ra2 pq md2 cap2 f2 md ra cap f_) (up (up (up (up (up (up (up (up (up (up S 29 (nsu S) t) 30 (nsu S) f) 31 (nsu S) set) 32 (nsu S) set) 33 (nsu S) (S 1 0)) 36 (nsu S) ((S 1 0) + 60)) 65 (64 * (nsu S)) set) 66 (64 * (nsu S)) (S 1 0)) 67 (nsu S) 1) 28 0 ((S 28 0) + 1)) 8 (nsu S) = .inr (6, [.int (S 28 0), .int t, .int f, .int set, .int (S 1 0), .ref la, .int set, .int 0, .int 0, .int 0, .int ((S 1 0) + 60), .int 0, .int 0, .int 0, .int 0]) := by
  obtain ⟨z1, z2, z3, z4, z5, z6, z7⟩ := hZ.2 (nsu S) (Nat.le_refl _)
  have e := hN.n28
  have e9 : ga (gx3 g (nsu S) q la ra2 pq md2 cap2 f2 md ra cap f_) 9 (nsu S) = la := congrArg Prod.fst gx3_n9
  simp only [ccell, e9]
  simp [up_app, z1, z2, z3, z4, z5, z6, z7, ← e]
theorem new11_file {cy : Nat → ClassId} {g : CWt} {S : St} (t f set : Int32) : ccell cy g (up (up (up (up (up (up (up (up (up (up S 29 (nsu S) t) 30 (nsu S) f) 31 (nsu S) set) 32 (nsu S) set) 33 (nsu S) (S 1 0)) 36 (nsu S) ((S 1 0) + 60)) 65 (64 * (nsu S)) set) 66 (64 * (nsu S)) (S 1 0)) 67 (nsu S) 1) 28 0 ((S 28 0) + 1)) 11 (64 * (nsu S)) = .inr (4, [.int set, .int (S 1 0)]) := by
  simp [ccell, up_app]
theorem inv_file {S : St} (hN : MInv S) (hQ : KInv S) (t f set : Int32) (ht : okI t 8) (hf : okI f 6) (hc : ¬ (12 : Int32) ≤ S 28 0) : MInv (up (up (up (up (up (up (up (up (up (up S 29 (nsu S) t) 30 (nsu S) f) 31 (nsu S) set) 32 (nsu S) set) 33 (nsu S) (S 1 0)) 36 (nsu S) ((S 1 0) + 60)) 65 (64 * (nsu S)) set) 66 (64 * (nsu S)) (S 1 0)) 67 (nsu S) 1) 28 0 ((S 28 0) + 1)) ∧ KInv (up (up (up (up (up (up (up (up (up (up S 29 (nsu S) t) 30 (nsu S) f) 31 (nsu S) set) 32 (nsu S) set) 33 (nsu S) (S 1 0)) 36 (nsu S) ((S 1 0) + 60)) 65 (64 * (nsu S)) set) 66 (64 * (nsu S)) (S 1 0)) 67 (nsu S) 1) 28 0 ((S 28 0) + 1)) := by
  have hb : nsu S < 12 := by
    have e := hN.n28
    rw [e] at hc
    rcases Nat.lt_or_ge (nsu S) 12 with h | h
    · exact h
    · exact absurd (show (nI 12 : Int32) ≤ nI (nsu S) from nI_le h (by have := hN.b28; omega)) hc
  have e28 : (up (up (up (up (up (up (up (up (up (up S 29 (nsu S) t) 30 (nsu S) f) 31 (nsu S) set) 32 (nsu S) set) 33 (nsu S) (S 1 0)) 36 (nsu S) ((S 1 0) + 60)) 65 (64 * (nsu S)) set) 66 (64 * (nsu S)) (S 1 0)) 67 (nsu S) 1) 28 0 ((S 28 0) + 1)) 28 0 = nI (nsu S + 1) := by
    show S 28 0 + 1 = _
    rw [hN.n28]
    exact nI_1 _
  have en : nsu (up (up (up (up (up (up (up (up (up (up S 29 (nsu S) t) 30 (nsu S) f) 31 (nsu S) set) 32 (nsu S) set) 33 (nsu S) (S 1 0)) 36 (nsu S) ((S 1 0) + 60)) 65 (64 * (nsu S)) set) 66 (64 * (nsu S)) (S 1 0)) 67 (nsu S) 1) 28 0 ((S 28 0) + 1)) = nsu S + 1 := by
    show ix ((up (up (up (up (up (up (up (up (up (up S 29 (nsu S) t) 30 (nsu S) f) 31 (nsu S) set) 32 (nsu S) set) 33 (nsu S) (S 1 0)) 36 (nsu S) ((S 1 0) + 60)) 65 (64 * (nsu S)) set) 66 (64 * (nsu S)) (S 1 0)) 67 (nsu S) 1) 28 0 ((S 28 0) + 1)) 28 0) = _
    rw [e28]
    exact nI_clamp (by omega)
  obtain ⟨m1, m2, m3, m4, m5, m6, m7, m8, m9, m10, m11, m12, m13, m14⟩ := hN
  refine ⟨⟨m1, m2, m3, ⟨by rw [e28, en], by rw [en]; omega⟩, m5, m6, m7, m8, fun i => ?_, fun i => ?_, m11, m12, m13, m14⟩, ?_, hQ.2⟩
  · by_cases hi : i = nsu S
    · have : (up (up (up (up (up (up (up (up (up (up S 29 (nsu S) t) 30 (nsu S) f) 31 (nsu S) set) 32 (nsu S) set) 33 (nsu S) (S 1 0)) 36 (nsu S) ((S 1 0) + 60)) 65 (64 * (nsu S)) set) 66 (64 * (nsu S)) (S 1 0)) 67 (nsu S) 1) 28 0 ((S 28 0) + 1)) 29 i = t := by rw [hi]; simp [up_app]
      rw [this]; exact okI_in (N := 8) ht (by decide) (by decide)
    · have : (up (up (up (up (up (up (up (up (up (up S 29 (nsu S) t) 30 (nsu S) f) 31 (nsu S) set) 32 (nsu S) set) 33 (nsu S) (S 1 0)) 36 (nsu S) ((S 1 0) + 60)) 65 (64 * (nsu S)) set) 66 (64 * (nsu S)) (S 1 0)) 67 (nsu S) 1) 28 0 ((S 28 0) + 1)) 29 i = S 29 i := by simp [up_app, show ¬ i = ix (S 28 0) from hi]
      rw [this]; exact m9 i
  · by_cases hi : i = nsu S
    · have : (up (up (up (up (up (up (up (up (up (up S 29 (nsu S) t) 30 (nsu S) f) 31 (nsu S) set) 32 (nsu S) set) 33 (nsu S) (S 1 0)) 36 (nsu S) ((S 1 0) + 60)) 65 (64 * (nsu S)) set) 66 (64 * (nsu S)) (S 1 0)) 67 (nsu S) 1) 28 0 ((S 28 0) + 1)) 30 i = f := by rw [hi]; simp [up_app]
      rw [this]; exact okI_in (N := 6) hf (by decide) (by decide)
    · have : (up (up (up (up (up (up (up (up (up (up S 29 (nsu S) t) 30 (nsu S) f) 31 (nsu S) set) 32 (nsu S) set) 33 (nsu S) (S 1 0)) 36 (nsu S) ((S 1 0) + 60)) 65 (64 * (nsu S)) set) 66 (64 * (nsu S)) (S 1 0)) 67 (nsu S) 1) 28 0 ((S 28 0) + 1)) 30 i = S 30 i := by simp [up_app, show ¬ i = ix (S 28 0) from hi]
      rw [this]; exact m10 i
  · intro k
    by_cases hk : k = nsu S
    · have : (up (up (up (up (up (up (up (up (up (up S 29 (nsu S) t) 30 (nsu S) f) 31 (nsu S) set) 32 (nsu S) set) 33 (nsu S) (S 1 0)) 36 (nsu S) ((S 1 0) + 60)) 65 (64 * (nsu S)) set) 66 (64 * (nsu S)) (S 1 0)) 67 (nsu S) 1) 28 0 ((S 28 0) + 1)) 67 k = 1 := by rw [hk]; simp [up_app]
      show (up (up (up (up (up (up (up (up (up (up S 29 (nsu S) t) 30 (nsu S) f) 31 (nsu S) set) 32 (nsu S) set) 33 (nsu S) (S 1 0)) 36 (nsu S) ((S 1 0) + 60)) 65 (64 * (nsu S)) set) 66 (64 * (nsu S)) (S 1 0)) 67 (nsu S) 1) 28 0 ((S 28 0) + 1)) 67 k = nI (ix ((up (up (up (up (up (up (up (up (up (up S 29 (nsu S) t) 30 (nsu S) f) 31 (nsu S) set) 32 (nsu S) set) 33 (nsu S) (S 1 0)) 36 (nsu S) ((S 1 0) + 60)) 65 (64 * (nsu S)) set) 66 (64 * (nsu S)) (S 1 0)) 67 (nsu S) 1) 28 0 ((S 28 0) + 1)) 67 k)) ∧ ix ((up (up (up (up (up (up (up (up (up (up S 29 (nsu S) t) 30 (nsu S) f) 31 (nsu S) set) 32 (nsu S) set) 33 (nsu S) (S 1 0)) 36 (nsu S) ((S 1 0) + 60)) 65 (64 * (nsu S)) set) 66 (64 * (nsu S)) (S 1 0)) 67 (nsu S) 1) 28 0 ((S 28 0) + 1)) 67 k) ≤ 41
      rw [this]
      exact ⟨by decide, by decide⟩
    · have : (up (up (up (up (up (up (up (up (up (up S 29 (nsu S) t) 30 (nsu S) f) 31 (nsu S) set) 32 (nsu S) set) 33 (nsu S) (S 1 0)) 36 (nsu S) ((S 1 0) + 60)) 65 (64 * (nsu S)) set) 66 (64 * (nsu S)) (S 1 0)) 67 (nsu S) 1) 28 0 ((S 28 0) + 1)) 67 k = S 67 k := by simp [up_app, show ¬ k = ix (S 28 0) from hk]
      show (up (up (up (up (up (up (up (up (up (up S 29 (nsu S) t) 30 (nsu S) f) 31 (nsu S) set) 32 (nsu S) set) 33 (nsu S) (S 1 0)) 36 (nsu S) ((S 1 0) + 60)) 65 (64 * (nsu S)) set) 66 (64 * (nsu S)) (S 1 0)) 67 (nsu S) 1) 28 0 ((S 28 0) + 1)) 67 k = nI (ix ((up (up (up (up (up (up (up (up (up (up S 29 (nsu S) t) 30 (nsu S) f) 31 (nsu S) set) 32 (nsu S) set) 33 (nsu S) (S 1 0)) 36 (nsu S) ((S 1 0) + 60)) 65 (64 * (nsu S)) set) 66 (64 * (nsu S)) (S 1 0)) 67 (nsu S) 1) 28 0 ((S 28 0) + 1)) 67 k)) ∧ ix ((up (up (up (up (up (up (up (up (up (up S 29 (nsu S) t) 30 (nsu S) f) 31 (nsu S) set) 32 (nsu S) set) 33 (nsu S) (S 1 0)) 36 (nsu S) ((S 1 0) + 60)) 65 (64 * (nsu S)) set) 66 (64 * (nsu S)) (S 1 0)) 67 (nsu S) 1) 28 0 ((S 28 0) + 1)) 67 k) ≤ 41
      rw [this]
      exact hQ.1 k
theorem note_row {S : St} {k : Nat} (h : k ≠ 63) (h2 : k ≠ 64) : fX7_notePaperDay S k = S k := by
  unfold fX7_notePaperDay
  repeat' split
  all_goals first | rfl | rw [up_ne h2, up_ne h]
theorem note_CT {g : CWt} {S : St} (h : CT g S) : CT g (fX7_notePaperDay S) := by
  unfold CT nsc ncl ndl nsu npp at h ⊢
  rw [note_row (k := 7) (by decide) (by decide), note_row (k := 15) (by decide) (by decide), note_row (k := 23) (by decide) (by decide), note_row (k := 28) (by decide) (by decide), note_row (k := 67) (by decide) (by decide)]
  exact h
def fX7_file (S : St) (t : Int32) (f : Int32) (set : Int32) : Int32 × Int32 × St := (if okI t 8 then (if okI f 6 then (if okR set 1 65535 then (if ¬ (fX6_knowsAll S (ix t) set) = 0 then (if 12 ≤ (S 28 0) then (0, 3, S) else ((((fX7_notePaperDay (up (up (up (up (up (up (up (up (up (up S 29 (nsu S) t) 30 (nsu S) f) 31 (nsu S) set) 32 (nsu S) set) 33 (nsu S) (S 1 0)) 36 (nsu S) ((S 1 0) + 60)) 65 (64 * (nsu S)) set) 66 (64 * (nsu S)) (S 1 0)) 67 (nsu S) 1) 28 0 ((S 28 0) + 1))) 28 0) - 1), 0, (fX7_notePaperDay (up (up (up (up (up (up (up (up (up (up S 29 (nsu S) t) 30 (nsu S) f) 31 (nsu S) set) 32 (nsu S) set) 33 (nsu S) (S 1 0)) 36 (nsu S) ((S 1 0) + 60)) 65 (64 * (nsu S)) set) 66 (64 * (nsu S)) (S 1 0)) 67 (nsu S) 1) 28 0 ((S 28 0) + 1))))) else (0, 3, S)) else (0, 2, S)) else (0, 1, S)) else (0, 1, S))
set_option maxHeartbeats 4000000 in
set_option maxRecDepth 100000 in
theorem qX7_file (l : Launch) (hfl : l.stackTraces = false) (A : Nat → Prop) (D : va_G) (cy : Nat → ClassId) (g : CWt) (hL : CL A g) (S : St) (e0 mi n0 : Nat) (hA : ∀ q, n0 ≤ q → A q) (hV : CV e0 g S) (hZ : ZR S) (t : Int32) (f : Int32) (set : Int32) : vx_Met l yX7_file wsX7_file ({ frames := 8, cells := 6, slots := 326, locals := 196 } : Room) (va_Pc [.ref (ga g 18 0), .int t, .int f, .int set] (fun U => (CP D cy g S U ∧ JT A U U.heap) ∧ JX A D cy e0 mi U U.heap ∧ JO U ∧ n0 ≤ U.heap.size)) (va_Qi (fun (r : Int32) (g1 : CWt) => (fX7_file S t f set).2.1 = 0 ∧ r = (fX7_file S t f set).1 ∧ CL A g1 ∧ CG e0 g1 ∧ CT g1 (fX7_file S t f set).2.2 ∧ ga g1 18 0 = ga g 18 0) (fun g1 t9 => CH D cy g1 (fX7_file S t f set).2.2 t9.heap) A) (XF A D cy g S (fX7_file S t f set).2.1) 6 326 A := by
  refine vx_ofW (cc := cX7_file) (maxL := 5) (ret := (some .int)) (by decide) rfl ?_
  intro p e s m args below meth c s₁ B hml hno hv
  obtain ⟨rfl, ⟨⟨hM, hK⟩, hJ⟩, hJX, hW, hn0⟩ := hv
  have hx := B.exec
  have hb := B.bytes
  have hr := B.returns
  have hts := atoms_spec (ws := wsX7_file) B.pre
  have hown : s.vm.findClass RX7 = some m.cls := findClass_of_methodNamed B.named
  have hlocks := B.notSynchronized
  have hC : CC p s m _ c cX7_file 5 RX7 D cy wsX7_file := ⟨⟨hx, hb, hml, hown, hts⟩, hK⟩
  have hI : CI A D cy g s S s.heap [] := ⟨hM, va_S.rf⟩
  have hT := hV.2.1
  have hN := hV.2.2.1
  have hQ := hV.2.2.2
  have hb7 := hN.b7
  have hb15 := hN.b15
  have hb23 := hN.b23
  have hb28 := hN.b28
  have hb42 := hN.b42
  have hb64 := hQ.b64
  have k_89 := hts (.constant RX7 89 (65535)) (List.mem_cons_of_mem _ (List.mem_append_left _ (List.mem_append_left _ (List.mem_append_left _ (List.mem_append_left _ (List.mem_append_left _ (List.mem_append_left _ (List.mem_append_left _ (List.mem_append_left _ (List.mem_append_left _ (List.mem_of_getElem? (i := 0) rfl)))))))))))
  have k_38 := hts (.fieldLink RX7 38 "RelatorsBench" "suits" "Ljava/util/ArrayList;") (List.mem_cons_of_mem _ (List.mem_append_left _ (List.mem_append_left _ (List.mem_append_left _ (List.mem_append_left _ (List.mem_append_left _ (List.mem_append_left _ (List.mem_append_left _ (List.mem_append_left _ (List.mem_append_left _ (List.mem_of_getElem? (i := 1) rfl)))))))))))
  have hinX7 : ∀ w ∈ wsX70, w ∈ wsX7_file := fun _ h => List.mem_cons_of_mem _ (List.mem_append_left _ (List.mem_append_left _ (List.mem_append_left _ (List.mem_append_left _ (List.mem_append_left _ (List.mem_append_left _ (List.mem_append_left _ (List.mem_append_right _ (h)))))))))
  have hinX5 : ∀ w ∈ wsX50, w ∈ wsX7_file := fun _ h => List.mem_cons_of_mem _ (List.mem_append_left _ (List.mem_append_left _ (List.mem_append_left _ (List.mem_append_left _ (List.mem_append_left _ (List.mem_append_left _ (List.mem_append_right _ (h))))))))
  have k_51 := hts (.fieldLink RX7 51 "RelatorsBench" "today" "I") (List.mem_cons_of_mem _ (List.mem_append_left _ (List.mem_append_left _ (List.mem_append_left _ (List.mem_append_left _ (List.mem_append_left _ (List.mem_append_left _ (List.mem_append_left _ (List.mem_append_left _ (List.mem_append_left _ (List.mem_of_getElem? (i := 5) rfl)))))))))))
  have hl := lv_entry ([.ref (ga g 18 0), .int t, .int f, .int set]) (n := 5) (Nat.le_of_ble_eq_true rfl)
  rw [lg_entry_eq]
  generalize (lg_sl ([.ref (ga g 18 0), .int t, .int f, .int set]) ++ List.replicate (5 - (lg_sl ([.ref (ga g 18 0), .int t, .int f, .int set])).length) Slot.unset).toArray = ls at hl ⊢
  have hl : lv_has ls 5 [(0, .ref (ga g 18 0)), (1, .int t), (2, .int f), (3, .int set)] := hl
  have hG : fX7_file S t f set = fX7_file S t f set := rfl
  refine lv_aload_n hx hb dX7_file_0 rfl (lv_at hl 0 rfl) ?_
  refine lv_iload_n hx hb dX7_file_1 rfl (lv_at hl 1 rfl) ?_
  by_cases c_1 : okI t 8
  · have hG := hG.trans (if_pos c_1)
    refine cr_callR (As := [.int t]) (rest := []) hC hI (qX7_tellerAt l D cy g S e0 hV t c_1) (cwV 1 hts gX7_file_X7_tellerAt rfl rfl rfl (by decide +kernel) ⟨Nat.le_of_ble_eq_true rfl, Nat.le_of_ble_eq_true rfl⟩) (cr_prev (ci := 8) hC hI 18 0 rfl rfl rfl) rfl hl.1 rfl (Nat.le_of_ble_eq_true rfl) dX7_file_2 ⟨Nat.le_of_ble_eq_true rfl, Nat.le_of_ble_eq_true rfl⟩ (fun H locs hI => ?_)
    refine lv_astore (lv' := [(4, .ref (ga g 4 (ix t))), (0, .ref (ga g 18 0)), (1, .int t), (2, .int f), (3, .int set)]) hx hb dX7_file_5 hl (by decide) rfl (fun ls hl => ?_)
    refine lv_iload_n hx hb dX7_file_7 rfl (lv_at hl 3 rfl) ?_
    refine lv_bipush (v := 6) hx hb dX7_file_8 (by decide) ?_
    by_cases c_2 : okI f 6
    · have hG := hG.trans (if_pos c_2)
      refine cr_pass (As := [.int f, .int 6]) (rest := []) hC hI (qX7_checkIndex l f 6 c_2) (va_cwS 2 hts gX7_file_X7_checkIndex rfl rfl rfl (by decide +kernel) ⟨Nat.le_of_ble_eq_true rfl, Nat.le_of_ble_eq_true rfl⟩) rfl hl.1 rfl (Nat.le_of_ble_eq_true rfl) dX7_file_10 ⟨Nat.le_of_ble_eq_true rfl, Nat.le_of_ble_eq_true rfl⟩ (fun H locs hI => ?_)
      refine lv_iload_n hx hb dX7_file_13 rfl (lv_at hl 4 rfl) ?_
      refine lv_iconst (v := 1) hx hb dX7_file_14 (by decide) ?_
      refine lv_ldc hx hb hown k_89 dX7_file_15 ?_
      by_cases c_3 : okR set 1 65535
      · have hG := hG.trans (if_pos c_3)
        refine cr_pass (As := [.int set, .int 1, .int 65535]) (rest := []) hC hI (qX7_checkRange l set 1 65535 c_3) (va_cwS 3 hts gX7_file_X7_checkRange rfl rfl rfl (by decide +kernel) ⟨Nat.le_of_ble_eq_true rfl, Nat.le_of_ble_eq_true rfl⟩) rfl hl.1 rfl (Nat.le_of_ble_eq_true rfl) dX7_file_17 ⟨Nat.le_of_ble_eq_true rfl, Nat.le_of_ble_eq_true rfl⟩ (fun H locs hI => ?_)
        refine lv_aload hx hb dX7_file_20 (lv_at hl 0 rfl) ?_
        refine lv_iload_n hx hb dX7_file_22 rfl (lv_at hl 4 rfl) ?_
        refine cr_call (As := [.int set]) (rest := []) hC hI (qX6_knowsAll l D cy g S e0 hV (ix t) (okI_l (N := 8) c_1 (by decide) (by decide)) set) (cwV 1 hts gX7_file_X6_knowsAll rfl rfl rfl (by decide +kernel) ⟨Nat.le_of_ble_eq_true rfl, Nat.le_of_ble_eq_true rfl⟩) (cr_prev (ci := 7) hC hI 4 (ix t) (okI_l (N := 8) c_1 (by decide) (by decide)) rfl rfl) rfl hl.1 rfl (Nat.le_of_ble_eq_true rfl) dX7_file_23 ⟨Nat.le_of_ble_eq_true rfl, Nat.le_of_ble_eq_true rfl⟩ (fun H locs hI => ?_)
        by_cases c_4 : ¬ (fX6_knowsAll S (ix t) set) = 0
        · have hG := hG.trans (if_pos c_4)
          refine cr_pass (As := [.int (fX6_knowsAll S (ix t) set)]) (rest := []) hC hI (qX7_checkState l (fX6_knowsAll S (ix t) set) c_4) (va_cwS 1 hts gX7_file_X7_checkState rfl rfl rfl (by decide +kernel) ⟨Nat.le_of_ble_eq_true rfl, Nat.le_of_ble_eq_true rfl⟩) rfl hl.1 rfl (Nat.le_of_ble_eq_true rfl) dX7_file_26 ⟨Nat.le_of_ble_eq_true rfl, Nat.le_of_ble_eq_true rfl⟩ (fun H locs hI => ?_)
          refine lv_aload_n hx hb dX7_file_29 rfl (lv_at hl 1 rfl) ?_
          refine cr_get (ci := 8) hC hI 18 0 rfl rfl rfl hinX7 6 (by decide) k_38 (fun _ h => h) (v := .ref (ga g 12 3)) rfl dX7_file_30 ?_
          refine cr_size (rest := []) hC hI 12 3 (show 3 < 4 by decide) rfl (cwV 0 hts gX7_file_Jx4a65c_size_8abf5 rfl rfl rfl (by decide +kernel) ⟨Nat.le_of_ble_eq_true rfl, Nat.le_of_ble_eq_true rfl⟩) (qAL_size0 l D cy (ga g 12 3) (ga g 13 3) (gm g 12 3) _) hl.1 (Nat.le_of_ble_eq_true rfl) dX7_file_33 ⟨Nat.le_of_ble_eq_true rfl, Nat.le_of_ble_eq_true rfl⟩ (w := (S 28 0)) rfl (fun H locs hI => ?_)
          refine lv_bipush (v := 12) hx hb dX7_file_36 (by decide) ?_
          refine lv_icmp_ge (tgt := 45) hx hb dX7_file_38 (by decide) (fun c_5 => ?_) (fun c_5 => ?_)
          · have hG := hG.trans (if_pos c_5)
            refine lv_iconst (v := 0) hx hb dX7_file_45 (by decide) ?_
            exact ct_s (As := [.int 0]) (rest := []) hC.1 hI.2 hJ (tX7_checkState l hfl 0 (by decide)) (va_cwS 1 hts gX7_file_X7_checkState rfl rfl rfl (by decide +kernel) ⟨Nat.le_of_ble_eq_true rfl, Nat.le_of_ble_eq_true rfl⟩) rfl hl.1 rfl (Nat.le_of_ble_eq_true rfl) dX7_file_46 ⟨Nat.le_of_ble_eq_true rfl, Nat.le_of_ble_eq_true rfl⟩ hno hlocks (xf_of hI (by decide) (congrArg (fun z => z.2.1) hG)) (fun _ h => h) (Nat.le_of_ble_eq_true rfl) (Nat.le_of_ble_eq_true rfl)
          · have hG := hG.trans (if_neg c_5)
            refine lv_iconst (v := 1) hx hb dX7_file_41 (by decide) ?_
            refine lv_goto (tgt := 46) hx hb dX7_file_42 (by decide) ?_
            refine cr_pass (As := [.int 1]) (rest := []) hC hI (qX7_checkState l 1 (by decide)) (va_cwS 1 hts gX7_file_X7_checkState rfl rfl rfl (by decide +kernel) ⟨Nat.le_of_ble_eq_true rfl, Nat.le_of_ble_eq_true rfl⟩) rfl hl.1 rfl (Nat.le_of_ble_eq_true rfl) dX7_file_46 ⟨Nat.le_of_ble_eq_true rfl, Nat.le_of_ble_eq_true rfl⟩ (fun H locs hI => ?_)
            refine lv_aload_n hx hb dX7_file_49 rfl (lv_at hl 1 rfl) ?_
            refine cr_get (ci := 8) hC hI 18 0 rfl rfl rfl hinX7 6 (by decide) k_38 (fun _ h => h) (v := .ref (ga g 12 3)) rfl dX7_file_50 ?_
            obtain ⟨qn, a_qn⟩ : ∃ z, z = H.size := ⟨_, rfl⟩
            have hfr : ∀ k i, cval g k i → ga g k i ≠ qn := fun k i hv h => absurd (hI.1 k i hv).lt (by show ¬ ga g k i < H.size; rw [h, a_qn]; exact Nat.lt_irrefl _)
            have hAq : A qn := by rw [a_qn]; exact hA _ (Nat.le_trans hn0 hI.2.1)
            refine oi_new (ci := 6) (fs := [.int 0, .int 0, .int 0, .int 0, .int 0, .null, .int 0, .int 0, .int 0, .int 0, .int 0, .int 0, .int 0, .int 0, .int 0]) hC hI.2 hinX5 tyX5 tyX5_ok (hts (.classLink RX7 163 RX5) (List.mem_cons_of_mem _ (List.mem_append_left _ (List.mem_append_left _ (List.mem_append_left _ (List.mem_append_left _ (List.mem_append_left _ (List.mem_append_left _ (List.mem_append_left _ (List.mem_append_left _ (List.mem_append_left _ (List.mem_of_getElem? (i := 2) rfl)))))))))))) (hts (.instantiable RX5 15) (List.mem_cons_of_mem _ (List.mem_append_left _ (List.mem_append_left _ (List.mem_append_left _ (List.mem_append_left _ (List.mem_append_left _ (List.mem_append_left _ (List.mem_append_left _ (List.mem_append_left _ (List.mem_append_left _ (List.mem_of_getElem? (i := 3) rfl)))))))))))) (hts (.initialized RX5) (List.mem_cons_of_mem _ (List.mem_append_left _ (List.mem_append_left _ (List.mem_append_left _ (List.mem_append_left _ (List.mem_append_left _ (List.mem_append_left _ (List.mem_append_left _ (List.mem_append_left _ (List.mem_append_left _ (List.mem_of_getElem? (i := 4) rfl)))))))))))) rfl (by decide +kernel) (Nat.le_of_ble_eq_true rfl) (Nat.le_of_ble_eq_true rfl) dX7_file_53 (fun H2 hO hq hz hS => ?_)
            have hI : CI A D cy g s S H2 locs := ⟨hI.1.keep hq, hS⟩
            rw [← a_qn] at hO ⊢
            refine lv_dup hx hb dX7_file_56 rfl ?_
            refine lv_aload_n hx hb dX7_file_57 rfl (lv_at hl 1 rfl) ?_
            refine cr_get (ci := 8) hC hI 18 0 rfl rfl rfl hinX7 6 (by decide) k_38 (fun _ h => h) (v := .ref (ga g 12 3)) rfl dX7_file_58 ?_
            refine cr_sizeK (rest := [.ref qn, .ref qn, .ref (ga g 12 3)]) hC hI 12 3 (show 3 < 4 by decide) rfl (cwV 0 hts gX7_file_Jx4a65c_size_8abf5 rfl rfl rfl (by decide +kernel) ⟨Nat.le_of_ble_eq_true rfl, Nat.le_of_ble_eq_true rfl⟩) (qAL_size0 l D cy (ga g 12 3) (ga g 13 3) (gm g 12 3) _) hl.1 (Nat.le_of_ble_eq_true rfl) dX7_file_61 ⟨Nat.le_of_ble_eq_true rfl, Nat.le_of_ble_eq_true rfl⟩ (w := (S 28 0)) rfl (fun H locs hk hI => ?_)
            have hO := at_keep hO hk
            refine lv_iload_n hx hb dX7_file_64 rfl (lv_at hl 2 rfl) ?_
            refine lv_iload_n hx hb dX7_file_65 rfl (lv_at hl 3 rfl) ?_
            refine lv_iload_n hx hb dX7_file_66 rfl (lv_at hl 4 rfl) ?_
            refine lv_aload_n hx hb dX7_file_67 rfl (lv_at hl 1 rfl) ?_
            refine cr_get (ci := 8) hC hI 18 0 rfl rfl rfl hinX7 10 (by decide) k_51 (fun _ h => h) (v := .int (S 1 0)) rfl dX7_file_68 ?_
            have hlt0 : ∀ k i, cval g k i → ga g k i < H.size := fun k i hv => (hI.1 k i hv).lt
            have hz0 : s.heap.size ≤ H.size := hI.2.1
            refine oi_suit (rest := [.ref qn, .ref (ga g 12 3)]) hC hJX hW hO hI.2 (fun z h => hA z (Nat.le_trans hn0 h)) hAq (cwI 5 hts gX7_file_X5_init rfl rfl rfl (hts (.initialized RX5) (List.mem_cons_of_mem _ (List.mem_append_left _ (List.mem_append_left _ (List.mem_append_left _ (List.mem_append_left _ (List.mem_append_left _ (List.mem_append_left _ (List.mem_append_left _ (List.mem_append_left _ (List.mem_append_left _ (List.mem_of_getElem? (i := 4) rfl)))))))))))) (hts (.methodLink RX7 165 yX5_init) (List.mem_cons_of_mem _ (List.mem_append_left _ (List.mem_append_left _ (List.mem_append_left _ (List.mem_append_left _ (List.mem_append_left _ (List.mem_append_left _ (List.mem_append_left _ (List.mem_append_left _ (List.mem_append_right _ (List.mem_append_left _ (List.mem_of_getElem? (i := 18) rfl))))))))))))) (hts (.instanceMethod yX5_init) (List.mem_cons_of_mem _ (List.mem_append_left _ (List.mem_append_left _ (List.mem_append_left _ (List.mem_append_left _ (List.mem_append_left _ (List.mem_append_left _ (List.mem_append_left _ (List.mem_append_left _ (List.mem_append_right _ (List.mem_append_left _ (List.mem_of_getElem? (i := 19) rfl))))))))))))) rfl (by decide +kernel) ⟨Nat.le_of_ble_eq_true rfl, Nat.le_of_ble_eq_true rfl⟩) hl.1 (Nat.le_of_ble_eq_true rfl) dX7_file_71 ⟨(Nat.le_of_ble_eq_true rfl), (Nat.le_of_ble_eq_true rfl)⟩ (fun u H locs hu hB hq hz hS => ?_)
            obtain ⟨la, ra2, pq, md2, cap2, f2⟩ := u
            obtain ⟨⟨z1, z2, z3, d1, d2, d3, d4, d5, d6⟩, hc2, hf2⟩ := hu
            obtain ⟨hO, hL2, hR2, hP⟩ := hB
            dsimp only at z1 z2 z3 d1 d2 d3 d4 d5 d6 hc2 hf2 hO hL2 hR2 hP
            have hfr2 : ∀ z, Array.size _ ≤ z → ∀ k i, cval g k i → ga g k i ≠ z := fun z hz k i hv h => absurd (Nat.lt_of_lt_of_le (hlt0 k i hv) hz) (by rw [h]; exact Nat.lt_irrefl _)
            have hAA : ∀ z, Array.size _ ≤ z → A z := fun z hz => hA z (Nat.le_trans hn0 (Nat.le_trans hz0 hz))
            have hI : CI A D cy g s S H locs := ⟨fun k i hv => (hI.1 k i hv).kept (hq _ (hlt0 k i hv) (hfr k i hv)), hS⟩
            have hinv := inv_file hN hQ t f set c_1 c_2 (by assumption)
            refine fa_add3 (rest := []) hC hV hL hI hJX hW (fun q h => hA q (Nat.le_trans hn0 h)) (n := nsu S) hT.1.2.2.2 hO hL2 hR2 hP hfr (hfr2 la z1) (hfr2 ra2 z2) (hfr2 pq z3) hAq (hAA la z1) (hAA ra2 z2) (hAA pq z3) d4 d5 d6 d1 d2 d3 hc2 hf2 (S' := (up (up (up (up (up (up (up (up (up (up S 29 (nsu S) t) 30 (nsu S) f) 31 (nsu S) set) 32 (nsu S) set) 33 (nsu S) (S 1 0)) 36 (nsu S) ((S 1 0) + 60)) 65 (64 * (nsu S)) set) 66 (64 * (nsu S)) (S 1 0)) 67 (nsu S) 1) 28 0 ((S 28 0) + 1))) (ss_file hT t f set) (fun md ra cap f_ => new8_file hN hZ t f set) (by show up _ 67 _ _ 67 _ = _; simp [up_app]; decide) (new11_file t f set) (by show S 28 0 + 1 = _; rw [hN.n28]; exact nI_1 _) ⟨rfl, rfl, rfl⟩ (fun k hk => by simp [up_app, show ¬ k = ix (S 28 0) from hk]) (cwV 1 hts gX7_file_Jx4a65c_add_9ea2d rfl rfl rfl (by decide +kernel) ⟨Nat.le_of_ble_eq_true rfl, Nat.le_of_ble_eq_true rfl⟩) (cwV 1 hts gX7_file_Jx4a65c_add_9ea2d rfl rfl rfl (by decide +kernel) ⟨Nat.le_of_ble_eq_true rfl, Nat.le_of_ble_eq_true rfl⟩) (cwV 1 hts gX7_file_Jx4a65c_add_9ea2d rfl rfl rfl (by decide +kernel) ⟨Nat.le_of_ble_eq_true rfl, Nat.le_of_ble_eq_true rfl⟩) hl.1 (Nat.le_of_ble_eq_true rfl) dX7_file_74 ⟨(Nat.le_of_ble_eq_true rfl), (Nat.le_of_ble_eq_true rfl)⟩ (fun md ra cap f_ H locs hgv hL hG1 hT1 hI => ?_)
            refine lv_pop hx hb dX7_file_77 rfl ?_
            refine lv_aload_n hx hb dX7_file_78 rfl (lv_at hl 1 rfl) ?_
            refine cr_callMV (As := []) (rest := []) hC hI (qX7_notePaperDay l A D cy (gx3 g (nsu S) qn la ra2 pq md2 cap2 f2 md ra cap f_) hL (up (up (up (up (up (up (up (up (up (up S 29 (nsu S) t) 30 (nsu S) f) 31 (nsu S) set) 32 (nsu S) set) 33 (nsu S) (S 1 0)) 36 (nsu S) ((S 1 0) + 60)) 65 (64 * (nsu S)) set) 66 (64 * (nsu S)) (S 1 0)) 67 (nsu S) 1) 28 0 ((S 28 0) + 1)) e0 ⟨hG1, hT1, hinv.1, hinv.2⟩) (cwV 0 hts gX7_file_X7_notePaperDay rfl rfl rfl (by decide +kernel) ⟨Nat.le_of_ble_eq_true rfl, Nat.le_of_ble_eq_true rfl⟩) (cr_prev (ci := 8) hC hI 18 0 rfl rfl rfl) rfl hl.1 rfl (Nat.le_of_ble_eq_true rfl) dX7_file_79 ⟨Nat.le_of_ble_eq_true rfl, Nat.le_of_ble_eq_true rfl⟩ (fun H locs hI => ?_)
            have hT1 := note_CT hT1
            refine lv_aload_n hx hb dX7_file_82 rfl (lv_at hl 1 rfl) ?_
            refine cr_get (ci := 8) hC hI 18 0 rfl rfl rfl hinX7 6 (by decide) k_38 (fun _ h => h) (v := .ref (ga (gx3 g (nsu S) qn la ra2 pq md2 cap2 f2 md ra cap f_) 12 3)) rfl dX7_file_83 ?_
            refine cr_size (rest := []) hC hI 12 3 (show 3 < 4 by decide) rfl (cwV 0 hts gX7_file_Jx4a65c_size_8abf5 rfl rfl rfl (by decide +kernel) ⟨Nat.le_of_ble_eq_true rfl, Nat.le_of_ble_eq_true rfl⟩) (qAL_size0 l D cy (ga (gx3 g (nsu S) qn la ra2 pq md2 cap2 f2 md ra cap f_) 12 3) (ga (gx3 g (nsu S) qn la ra2 pq md2 cap2 f2 md ra cap f_) 13 3) (gm (gx3 g (nsu S) qn la ra2 pq md2 cap2 f2 md ra cap f_) 12 3) _) hl.1 (Nat.le_of_ble_eq_true rfl) dX7_file_86 ⟨Nat.le_of_ble_eq_true rfl, Nat.le_of_ble_eq_true rfl⟩ (w := ((fX7_notePaperDay (up (up (up (up (up (up (up (up (up (up S 29 (nsu S) t) 30 (nsu S) f) 31 (nsu S) set) 32 (nsu S) set) 33 (nsu S) (S 1 0)) 36 (nsu S) ((S 1 0) + 60)) 65 (64 * (nsu S)) set) 66 (64 * (nsu S)) (S 1 0)) 67 (nsu S) 1) 28 0 ((S 28 0) + 1))) 28 0)) rfl (fun H locs hI => ?_)
            refine lv_iconst (v := 1) hx hb dX7_file_89 (by decide) ?_
            refine lv_isub hx hb dX7_file_90 ?_
            refine vx_ret ?_
            refine W.widen (k := 6) (n := 326) (Nat.le_of_ble_eq_true rfl) (Nat.le_of_ble_eq_true rfl) ?_
            exact W.iret (v := (((fX7_notePaperDay (up (up (up (up (up (up (up (up (up (up S 29 (nsu S) t) 30 (nsu S) f) 31 (nsu S) set) 32 (nsu S) set) 33 (nsu S) (S 1 0)) 36 (nsu S) ((S 1 0) + 60)) 65 (64 * (nsu S)) set) 66 (64 * (nsu S)) (S 1 0)) 67 (nsu S) 1) 28 0 ((S 28 0) + 1))) 28 0) - 1)) hx hb hr (fun t9 ht9 hW9 => ⟨⟨(((fX7_notePaperDay (up (up (up (up (up (up (up (up (up (up S 29 (nsu S) t) 30 (nsu S) f) 31 (nsu S) set) 32 (nsu S) set) 33 (nsu S) (S 1 0)) 36 (nsu S) ((S 1 0) + 60)) 65 (64 * (nsu S)) set) 66 (64 * (nsu S)) (S 1 0)) 67 (nsu S) 1) 28 0 ((S 28 0) + 1))) 28 0) - 1), (gx3 g (nsu S) qn la ra2 pq md2 cap2 f2 md ra cap f_), rfl, ⟨congrArg (fun z => z.2.1) hG, (congrArg Prod.fst hG).symm, hL, hG1, (by rw [hG]; exact hT1), rfl⟩, by show CH D cy _ _ t9.heap; rw [ht9, hG]; exact hI.1⟩, hI.2.F ht9⟩) hI.2.2.2 dX7_file_91
        · have hG := hG.trans (if_neg c_4)
          exact ct_s (As := [.int (fX6_knowsAll S (ix t) set)]) (rest := []) hC.1 hI.2 hJ (tX7_checkState l hfl (fX6_knowsAll S (ix t) set) (Decidable.not_not.mp c_4)) (va_cwS 1 hts gX7_file_X7_checkState rfl rfl rfl (by decide +kernel) ⟨Nat.le_of_ble_eq_true rfl, Nat.le_of_ble_eq_true rfl⟩) rfl hl.1 rfl (Nat.le_of_ble_eq_true rfl) dX7_file_26 ⟨Nat.le_of_ble_eq_true rfl, Nat.le_of_ble_eq_true rfl⟩ hno hlocks (xf_of hI (by decide) (congrArg (fun z => z.2.1) hG)) (fun _ h => h) (Nat.le_of_ble_eq_true rfl) (Nat.le_of_ble_eq_true rfl)
      · have hG := hG.trans (if_neg c_3)
        exact ct_s (As := [.int set, .int 1, .int 65535]) (rest := []) hC.1 hI.2 hJ (tX7_checkRange l hfl set 1 65535 c_3) (va_cwS 3 hts gX7_file_X7_checkRange rfl rfl rfl (by decide +kernel) ⟨Nat.le_of_ble_eq_true rfl, Nat.le_of_ble_eq_true rfl⟩) rfl hl.1 rfl (Nat.le_of_ble_eq_true rfl) dX7_file_17 ⟨Nat.le_of_ble_eq_true rfl, Nat.le_of_ble_eq_true rfl⟩ hno hlocks (xf_of hI (by decide) (congrArg (fun z => z.2.1) hG)) (fun _ h => h) (Nat.le_of_ble_eq_true rfl) (Nat.le_of_ble_eq_true rfl)
    · have hG := hG.trans (if_neg c_2)
      exact ct_s (As := [.int f, .int 6]) (rest := []) hC.1 hI.2 hJ (tX7_checkIndex l hfl f 6 c_2) (va_cwS 2 hts gX7_file_X7_checkIndex rfl rfl rfl (by decide +kernel) ⟨Nat.le_of_ble_eq_true rfl, Nat.le_of_ble_eq_true rfl⟩) rfl hl.1 rfl (Nat.le_of_ble_eq_true rfl) dX7_file_10 ⟨Nat.le_of_ble_eq_true rfl, Nat.le_of_ble_eq_true rfl⟩ hno hlocks (xf_of hI (by decide) (congrArg (fun z => z.2.1) hG)) (fun _ h => h) (Nat.le_of_ble_eq_true rfl) (Nat.le_of_ble_eq_true rfl)
  · have hG := hG.trans (if_neg c_1)
    exact ct_v (As := [.int t]) (rest := []) hC hI hJ (tX7_tellerAt l hfl D cy g S e0 hV t c_1) (cwV 1 hts gX7_file_X7_tellerAt rfl rfl rfl (by decide +kernel) ⟨Nat.le_of_ble_eq_true rfl, Nat.le_of_ble_eq_true rfl⟩) rfl hl.1 rfl (Nat.le_of_ble_eq_true rfl) dX7_file_2 ⟨Nat.le_of_ble_eq_true rfl, Nat.le_of_ble_eq_true rfl⟩ hno hlocks (xf_of hI (by decide) (congrArg (fun z => z.2.1) hG)) (fun _ h => h) (Nat.le_of_ble_eq_true rfl) (Nat.le_of_ble_eq_true rfl)
