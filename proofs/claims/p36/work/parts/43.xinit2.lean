/-! RelatorsBench.<init>, walked -/
def JF (U : State) : Prop := va_AO "RelatorsBench$Firm" U ∧ va_AO "RelatorsBench$Teller" U
theorem JF.moved {u U : State} (hvm : u.vm.Alike U.vm) (h : JF u) : JF U := ⟨h.1.moved hvm, h.2.moved hvm⟩
section OIQ
variable {p : Program} {l : Launch} {e : Env} {R : Room} {s : State} {m : MethodId} {args : Array Value} {below : List Frame} {meth : Method} {c : Code} {H : Heap} {locs : List Loc} {cells slots : Nat} {Q : State → Prop}
variable {cc : ByteArray} {pc nL : Nat} {ls : Array Slot} {rest : List Value} {D : va_G} {cy : Nat → ClassId} {A : Nat → Prop} {Ts : List Cond} {own C : String} {bytes : ByteArray} {maxL index e0 mi q t0 : Nat} {cA : ClassId}
theorem oi_newq (hC : CC p s m args c cc nL own D cy Ts) (hS : va_S A s.heap H locs) (hover : va_AO C s) (ht : (tysOf cy)[t0]? = some (cA, .object C)) (hclink : (Cond.classLink own index C).before args s = true) {n : Int32} {N : Nat} (hn : ¬ n < 0) (hN : n.toNatClampNeg = N) (hbytes : N * 4 ≤ 536870912) (hcells : cells + 1 ≤ R.cells) (hslots : slots + N ≤ R.slots) (hdg : decode cc pc = .ok (.anewarray index, 3))
    (kk : ∀ (H1 : Heap), at1 D H.size (.inl (cA, N, .inr (.inr (.inr (.inr (fun _ => none)))))) H1 → (∀ z : Nat, z < H.size → H1[z]? = H[z]?) → H1.size = H.size + 1 → va_S A s.heap H1 locs → W p l e R s m args below meth c H1 locs (cells + 1) (slots + N) Q (F0 m (pc + 3) ls (.ref H.size :: rest))) : W p l e R s m args below meth c H locs cells slots Q (F0 m pc ls (.int n :: rest)) := by
  subst hN
  refine W.anew hC.1.1 hC.1.2.1 hC.1.2.2.2.1 hclink (va_AO.use hover) rfl hdg rfl hn hbytes hcells hslots fun cB kA comp f1 f2 f3 f4 => ?_
  obtain ⟨-, -, -, -, -, f5⟩ := (hC.2.2 t0 _ ht).2
  obtain rfl : cB = cA := Option.some.inj (f1.symm.trans f5)
  have o1 : ∀ z : Nat, z < H.size → (H.push ({ cls := cB, slots := Array.replicate n.toNatClampNeg .null, vm := .none } : Cell))[z]? = H[z]? := fun z hz => by rw [Array.getElem?_push, if_neg (Nat.ne_of_lt hz)]
  refine kk _ ?_ o1 (Array.size_push _) (S_new hS (Array.size_push _) o1)
  show (H.push _)[H.size]? = some (vp_cell _ _)
  rw [vp_cell_q, Array.getElem?_push_size]
  exact congrArg some (arrV_new ..)
theorem oi_firm (hC : CC p s m args c cc nL own D cy Ts) (hJ : JX A D cy e0 mi s s.heap) (hW : JO s) (hO : at1 D q (.inr (3, [.int 0, .int 0, .int 0, .int 0, .null, .null, .null])) H) (hS : va_S A s.heap H locs) (hA : ∀ z, s.heap.size ≤ z → A z) (hAq : A q) (cw : CallB R s args own index yX2_init bytes maxL none wsX2_init ({ frames := 1, cells := 3, slots := 24, locals := 23 } : Room) 3 24 0 ∧ yX2_init.name = "<init>" ∧ (Cond.instanceMethod yX2_init).before args s = true) (hsize : ls.size = nL) (hr : (rest.map fun v => v.category).sum ≤ 8) (hdg : decode cc pc = .ok (.invokespecial index, 3)) (hf : cells + 3 ≤ R.cells ∧ slots + 24 ≤ R.slots)
    (kk : ∀ (u : Nat × Nat × Nat) (H1 : Heap) (locs1 : List Loc), (H.size ≤ u.1 ∧ H.size ≤ u.2.1 ∧ H.size ≤ u.2.2 ∧ u.1 ≠ u.2.1 ∧ u.1 ≠ u.2.2 ∧ u.2.1 ≠ u.2.2 ∧ q ≠ u.1 ∧ q ≠ u.2.1 ∧ q ≠ u.2.2) → (at1 D q (.inr (3, [.int 0, .int 0, .int 0, .int 0, .ref u.1, .ref u.2.1, .ref u.2.2])) H1 ∧ at1 D u.1 (arI cy 8 (fun _ => -1)) H1 ∧ at1 D u.2.1 (arI cy 8 (fun _ => -1)) H1 ∧ at1 D u.2.2 (arI cy 8 (fun _ => 0)) H1) → (∀ z : Nat, z < H.size → z ≠ q → H1[z]? = H[z]?) → H.size ≤ H1.size → va_S A s.heap H1 locs1 → W p l e R s m args below meth c H1 locs1 (cells + 3) (slots + 24) Q (F0 m (pc + 3) ls rest)) : W p l e R s m args below meth c H locs cells slots Q (F0 m pc ls (.ref q :: rest)) := by
  have hB : ∀ z, (z = q ∨ H.size ≤ z) → A z := fun z h => h.elim (fun h => by rw [h]; exact hAq) (fun h => hA z (Nat.le_trans hS.1 h))
  refine va_callv (va_runI (As := []) (rest := rest) hC.1 (qX2_init l D cy e0 mi q H.size) cw ⟨fun x U g mk h => ⟨h.1, h.2.1, h.2.2.1, JX.blind h.2.2.2.1, JO.blind h.2.2.2.2⟩, fun U hU hWm => ⟨rfl, by rw [hU], by rw [hU]; exact hO, JX_now hJ hS hB hU hWm, JO.warm hWm hW⟩⟩ rfl rfl hsize rfl (lv_room hr) hdg hf) hS (fun z _ h => hB z h) hB (fun u t H1 locs1 ht hvm hw hBB hz1 hk1 hS1 => ?_)
  rw [ht] at hBB
  exact kk u H1 locs1 hw hBB (fun z hz hzq => hk1 z hz (fun h => h.elim hzq (fun h => absurd hz (Nat.not_lt.mpr h)))) hz1 hS1
theorem w_loopC {σ : Type} (N pc2 : Nat) (cs ss : Nat → Nat) (Φ : Nat → σ → Heap → List Loc → Array Slot → Prop)
    (hs : ∀ (i : Nat) (z : σ) (H1 : Heap) (locs1 : List Loc) (ls1 : Array Slot), Φ i z H1 locs1 ls1 → i ≤ N → (∀ (z2 : σ) (H2 : Heap) (locs2 : List Loc) (ls2 : Array Slot), i < N → Φ (i + 1) z2 H2 locs2 ls2 → W p l e R s m args below meth c H2 locs2 (cs (i + 1)) (ss (i + 1)) Q (F0 m pc2 ls2 [])) → W p l e R s m args below meth c H1 locs1 (cs i) (ss i) Q (F0 m pc2 ls1 []))
    {ls : Array Slot} (z0 : σ) (h0 : Φ 0 z0 H locs ls) : W p l e R s m args below meth c H locs (cs 0) (ss 0) Q (F0 m pc2 ls []) := by
  have key : ∀ (r i : Nat) (z : σ) (H1 : Heap) (locs1 : List Loc) (ls1 : Array Slot), i + r = N → Φ i z H1 locs1 ls1 → W p l e R s m args below meth c H1 locs1 (cs i) (ss i) Q (F0 m pc2 ls1 []) := by
    intro r
    induction r with
    | zero => exact fun i z H1 locs1 ls1 hi h => hs i z H1 locs1 ls1 h (by omega) (fun z2 H2 locs2 ls2 hlt _ => absurd hlt (by omega))
    | succ r ih => exact fun i z H1 locs1 ls1 hi h => hs i z H1 locs1 ls1 h (by omega) (fun z2 H2 locs2 ls2 hlt h2 => ih (i + 1) z2 H2 locs2 ls2 (by omega) h2)
  exact key N 0 z0 H locs ls (by omega) h0
end OIQ
def gX (q e0 b1 b2 b3 b4 a1 a2 a3 a4 : Nat) : CWt := fun k i => match k with
  | 12 => ((match i with | 0 => a1 | 1 => a2 | 2 => a3 | _ => a4), 0, 0, fun _ => none)
  | 13 => (e0, 0, 0, fun _ => none)
  | 14 => (b1, 0, 0, fun _ => none)
  | 15 => (b2, 0, 0, fun _ => none)
  | 16 => (b3, 0, 0, fun _ => none)
  | 17 => (b4, 0, 0, fun _ => none)
  | 18 => (q, 0, 0, fun _ => none)
  | _ => (0, 0, 0, fun _ => none)
theorem pval0 {k i : Nat} (h : pval 0 0 k i) : (k = 18 ∧ i = 0) ∨ (k = 14 ∧ i = 0) ∨ (k = 15 ∧ i = 0) ∨ (k = 16 ∧ i = 0) ∨ (k = 17 ∧ i = 0) ∨ (k = 12 ∧ i = 0) ∨ (k = 12 ∧ i = 1) ∨ (k = 12 ∧ i = 2) ∨ (k = 12 ∧ i = 3) := by
  match k, h with
  | 0, h => exact absurd h (Nat.not_lt_zero _)
  | 1, h => exact absurd h (Nat.not_lt_zero _)
  | 2, h => exact absurd h (Nat.not_lt_zero _)
  | 3, h => exact absurd h (Nat.not_lt_zero _)
  | 4, h => exact absurd h (Nat.not_lt_zero _)
  | 12, h => have h : i < 4 := h; omega
  | 14, h => have h : i = 0 := h; omega
  | 15, h => have h : i = 0 := h; omega
  | 16, h => have h : i = 0 := h; omega
  | 17, h => have h : i = 0 := h; omega
  | 18, h => have h : i = 0 := h; omega
  | 5, h => exact h.elim
  | 6, h => exact h.elim
  | 7, h => exact h.elim
  | 8, h => exact h.elim
  | 9, h => exact h.elim
  | 10, h => exact h.elim
  | 11, h => exact h.elim
  | 13, h => exact h.elim
  | x + 19, h => exact h.elim
theorem PM_0 {A : Nat → Prop} {D : va_G} {cy : Nat → ClassId} {H : Heap} {q e0 b1 b2 b3 b4 la1 la2 la3 la4 : Nat} (hO : at1 D q (.inr (8, [.ref b1, .ref b2, .ref b3, .ref la1, .ref la2, .ref la3, .ref la4, .ref b4, .int 0, .int 0, .int 0, .int 0])) H) (h1 : at1 D b1 (.inl (cy 2, 6, .inr (.inr (.inr (.inr (fun _ => none)))))) H) (h2 : at1 D b2 (.inl (cy 3, 8, .inr (.inr (.inr (.inr (fun _ => none)))))) H) (h3 : at1 D b3 (arI cy 16 (fun _ => 0)) H) (h4 : at1 D b4 (arI cy 52 (fun _ => 0)) H) (l1 : at1 D la1 (alC 0 e0 0) H) (l2 : at1 D la2 (alC 0 e0 0) H) (l3 : at1 D la3 (alC 0 e0 0) H) (l4 : at1 D la4 (alC 0 e0 0) H) (hA : A q ∧ A b1 ∧ A b2 ∧ A b3 ∧ A b4 ∧ A la1 ∧ A la2 ∧ A la3 ∧ A la4)
    (hd : (q ≠ b1 ∧ q ≠ b2 ∧ q ≠ b3 ∧ q ≠ b4 ∧ q ≠ la1 ∧ q ≠ la2 ∧ q ≠ la3 ∧ q ≠ la4) ∧ (b1 ≠ b2 ∧ b1 ≠ b3 ∧ b1 ≠ b4 ∧ b1 ≠ la1 ∧ b1 ≠ la2 ∧ b1 ≠ la3 ∧ b1 ≠ la4) ∧ (b2 ≠ b3 ∧ b2 ≠ b4 ∧ b2 ≠ la1 ∧ b2 ≠ la2 ∧ b2 ≠ la3 ∧ b2 ≠ la4) ∧ (b3 ≠ b4 ∧ b3 ≠ la1 ∧ b3 ≠ la2 ∧ b3 ≠ la3 ∧ b3 ≠ la4) ∧ (b4 ≠ la1 ∧ b4 ≠ la2 ∧ b4 ≠ la3 ∧ b4 ≠ la4) ∧ (la1 ≠ la2 ∧ la1 ≠ la3 ∧ la1 ≠ la4) ∧ (la2 ≠ la3 ∧ la2 ≠ la4) ∧ la3 ≠ la4) : PM A D cy (gX q e0 b1 b2 b3 b4 la1 la2 la3 la4) 0 0 H := by
  obtain ⟨⟨d1, d2, d3, d4, d5, d6, d7, d8⟩, ⟨d9, d10, d11, d12, d13, d14, d15⟩, ⟨d16, d17, d18, d19, d20, d21⟩, ⟨d22, d23, d24, d25, d26⟩, ⟨d27, d28, d29, d30⟩, ⟨d31, d32, d33⟩, ⟨d34, d35⟩, d36⟩ := hd
  obtain ⟨A1, A2, A3, A4, A5, A6, A7, A8, A9⟩ := hA
  refine ⟨fun k i hv => ?_, fun k i hv => ?_, fun k i k' i' hv hv' he => ?_⟩
  · rcases pval0 hv with ⟨rfl, rfl⟩ | ⟨rfl, rfl⟩ | ⟨rfl, rfl⟩ | ⟨rfl, rfl⟩ | ⟨rfl, rfl⟩ | ⟨rfl, rfl⟩ | ⟨rfl, rfl⟩ | ⟨rfl, rfl⟩ | ⟨rfl, rfl⟩
    · exact hO
    · exact at_qc (fun j _ => by simp) h1
    · exact at_qc (fun j _ => by simp) h2
    · exact h3
    · exact arI_congr (fun j _ => by simp [S0]) h4
    · exact l1
    · exact l2
    · exact l3
    · exact l4
  · rcases pval0 hv with ⟨rfl, rfl⟩ | ⟨rfl, rfl⟩ | ⟨rfl, rfl⟩ | ⟨rfl, rfl⟩ | ⟨rfl, rfl⟩ | ⟨rfl, rfl⟩ | ⟨rfl, rfl⟩ | ⟨rfl, rfl⟩ | ⟨rfl, rfl⟩ <;> assumption
  · rcases pval0 hv with ⟨rfl, rfl⟩ | ⟨rfl, rfl⟩ | ⟨rfl, rfl⟩ | ⟨rfl, rfl⟩ | ⟨rfl, rfl⟩ | ⟨rfl, rfl⟩ | ⟨rfl, rfl⟩ | ⟨rfl, rfl⟩ | ⟨rfl, rfl⟩ <;> rcases pval0 hv' with ⟨rfl, rfl⟩ | ⟨rfl, rfl⟩ | ⟨rfl, rfl⟩ | ⟨rfl, rfl⟩ | ⟨rfl, rfl⟩ | ⟨rfl, rfl⟩ | ⟨rfl, rfl⟩ | ⟨rfl, rfl⟩ | ⟨rfl, rfl⟩ <;> first | exact ⟨rfl, rfl⟩ | (exfalso; simp only [ga, gX] at he; first | exact absurd he (by assumption) | exact absurd he.symm (by assumption))

theorem PM_end {A : Nat → Prop} {D : va_G} {cy : Nat → ClassId} {g : CWt} {H H5 : Heap} {q e0 b1 b2 b3 b4 la1 la2 la3 la4 : Nat} (hP : PM A D cy g 6 8 H) (hfix : ∀ k i, 12 ≤ k → g k i = gX q e0 b1 b2 b3 b4 la1 la2 la3 la4 k i) (hk5 : ∀ z : Nat, z < H.size → z ≠ ga g 16 0 → H5[z]? = H[z]?) (h5 : at1 D (ga g 16 0) (arI cy 16 (fun _ => -1)) H5) : CL A g ∧ CG e0 g ∧ CT g S0 ∧ CH D cy g S0 H5 := by
  have c12 : ∀ j, gc g 12 j = 0 := fun j => congrArg (fun z => z.2.2.1) (hfix 12 j (by decide))
  have hval : ∀ k i, cval g k i → pval 6 8 k i := by
    intro k i hv
    match k, hv with
    | 0, hv => exact hv
    | 1, hv => exact hv
    | 2, hv => exact hv
    | 3, hv => exact hv
    | 4, hv => exact hv
    | 5, hv => exact absurd (show i < gc g 12 0 from hv) (by rw [c12]; exact Nat.not_lt_zero _)
    | 6, hv => exact absurd (show i < gc g 12 1 from hv) (by rw [c12]; exact Nat.not_lt_zero _)
    | 7, hv => exact absurd (show i < gc g 12 2 from hv) (by rw [c12]; exact Nat.not_lt_zero _)
    | 8, hv => exact absurd (show i < gc g 12 3 from hv) (by rw [c12]; exact Nat.not_lt_zero _)
    | 9, hv => exact absurd (show i < gc g 12 3 from hv) (by rw [c12]; exact Nat.not_lt_zero _)
    | 10, hv => exact absurd (show i < gc g 12 3 from hv) (by rw [c12]; exact Nat.not_lt_zero _)
    | 11, hv => exact absurd hv.1 (by rw [c12]; exact Nat.not_lt_zero _)
    | 12, hv => exact hv
    | 13, hv => exact absurd hv.2 (by rw [c12]; decide)
    | 14, hv => exact hv
    | 15, hv => exact hv
    | 16, hv => exact hv
    | 17, hv => exact hv
    | 18, hv => exact hv
    | x + 19, hv => exact hv.elim
  have z0 : ∀ k j, k < 13 → S0 k j = 0 := by
    intro k j hk
    unfold S0
    rw [if_neg (by omega)]
  refine ⟨⟨fun k i hv => hP.2.1 k i (hval k i hv), fun k i k' i' hv hv' he => hP.2.2 k i k' i' (hval k i hv) (hval k' i' hv') he⟩, ⟨fun j hj _ => congrArg Prod.fst (hfix 13 j (by decide)), fun j hj hp => absurd hp (by rw [c12]; decide), fun k hk => absurd hk (by rw [c12]; exact Nat.not_lt_zero _)⟩, ⟨⟨c12 0, c12 1, c12 2, c12 3⟩, fun k hk => absurd hk (by show ¬ k < ix (S0 28 0); exact Nat.not_lt_zero _)⟩, ?_⟩
  intro k i hv
  have hv2 := hval k i hv
  have hkeep : k ≠ 16 → at1 D (ga g k i) (pcell cy g 6 8 k i) H5 := fun hn => (hP.1 k i hv2).kept (hk5 _ (hP.1 k i hv2).lt (fun h => hn (hP.2.2 k i 16 0 hv2 rfl h).1))
  match k, hv, hv2, hkeep with
  | 0, _, _, hkeep => exact hkeep (by decide)
  | 1, _, _, hkeep => exact hkeep (by decide)
  | 2, _, _, hkeep => exact hkeep (by decide)
  | 3, _, _, hkeep => exact hkeep (by decide)
  | 4, _, _, hkeep => exact hkeep (by decide)
  | 5, _, hv2, _ => exact hv2.elim
  | 6, _, hv2, _ => exact hv2.elim
  | 7, _, hv2, _ => exact hv2.elim
  | 8, _, hv2, _ => exact hv2.elim
  | 9, _, hv2, _ => exact hv2.elim
  | 10, _, hv2, _ => exact hv2.elim
  | 11, _, hv2, _ => exact hv2.elim
  | 12, _, _, hkeep => exact hkeep (by decide)
  | 13, _, hv2, _ => exact hv2.elim
  | 14, hv, hv2, hkeep => obtain rfl : i = 0 := hv; exact at_qc (fun j hj => if_pos hj) (hkeep (by decide))
  | 15, hv, hv2, hkeep => obtain rfl : i = 0 := hv; exact at_qc (fun j hj => if_pos hj) (hkeep (by decide))
  | 16, hv, hv2, hkeep => obtain rfl : i = 0 := hv; exact arI_congr (fun j _ => by simp [S0]) h5
  | 17, _, _, hkeep => exact hkeep (by decide)
  | 18, _, _, hkeep => exact hkeep (by decide)
  | x + 19, _, hv2, _ => exact hv2.elim

