/-! THE LAW's rows of numbers: L k i is place i of its row k: 0 h, 1 c, 2 p, 3 b, 4 t, 5 d, 6 u, 7 e, 8 w, 9 m, 10 r, 11 q; 12, 13 what 'due' makes for itself -/
def lLen (k : Nat) : Nat := match k with
  | 0 => 64
  | 1 => 40
  | 2 => 40
  | 3 => 8
  | 4 => 40
  | 5 => 20
  | 6 => 64
  | 7 => 64
  | 8 => 16
  | 9 => 12
  | 10 => 60
  | 11 => 7
  | _ => 8
def LH (N : Nat) (D : va_G) (cy : Nat → ClassId) (la : Nat → Nat) (L : St) (H : Heap) : Prop := ∀ k, k < N → at1 D (la k) (arI cy (lLen k) (L k)) H
/-- the rows are apart, and may be written -/
def LL (N : Nat) (A : Nat → Prop) (la : Nat → Nat) : Prop := (∀ k, k < N → A (la k)) ∧ ∀ k k', k < N → k' < N → la k = la k' → k = k'
def LI (A : Nat → Prop) (N : Nat) (D : va_G) (cy : Nat → ClassId) (la : Nat → Nat) (s : State) (L : St) (H : Heap) (locs : List Loc) : Prop := LH N D cy la L H ∧ va_S A s.heap H locs
theorem LH.keep {N : Nat} {D : va_G} {cy : Nat → ClassId} {la : Nat → Nat} {L : St} {H H1 : Heap} (h : LH N D cy la L H) (hk : ∀ q : Nat, q < H.size → H1[q]? = H[q]?) : LH N D cy la L H1 := fun k hk1 => at_keep (h k hk1) hk
theorem LH.keptA {N : Nat} {B : Nat → Prop} {D : va_G} {cy : Nat → ClassId} {la : Nat → Nat} {L : St} {H H1 : Heap} (h : LH N D cy la L H) (hL : LL N B la) (hk : ∀ q : Nat, q < H.size → B q → H1[q]? = H[q]?) : LH N D cy la L H1 := fun k hk1 => (h k hk1).kept (hk _ (h k hk1).lt (hL.1 k hk1))
theorem LH.rows {N M : Nat} {D : va_G} {cy : Nat → ClassId} {la : Nat → Nat} {L L0 : St} {H : Heap} (h : LH N D cy la L H) (hNM : M ≤ N) (e : ∀ k, k < M → L k = L0 k) : LH M D cy la L0 H := fun k hk => by
  rw [← e k hk]
  exact h k (Nat.lt_of_lt_of_le hk hNM)
theorem LI_eq {A : Nat → Prop} {N : Nat} {D : va_G} {cy : Nat → ClassId} {la : Nat → Nat} {s : State} {L L' : St} {H : Heap} {locs : List Loc} (h : LI A N D cy la s L H locs) (e : L = L') : LI A N D cy la s L' H locs := e ▸ h
theorem LI_upr {A : Nat → Prop} {N : Nat} {D : va_G} {cy : Nat → ClassId} {la : Nat → Nat} {s : State} {L : St} {H : Heap} {locs : List Loc} (h : LI A N D cy la s L H locs) (k : Nat) {r : Nat → Int32} (e : L k = r) : LI A N D cy la s (upr L k r) H locs := LI_eq h (upr_self e).symm
theorem LL.mono {N M : Nat} {A : Nat → Prop} {la : Nat → Nat} (h : LL N A la) (hM : M ≤ N) : LL M A la := ⟨fun k hk => h.1 k (Nat.lt_of_lt_of_le hk hM), fun k k' hk hk' => h.2 k k' (Nat.lt_of_lt_of_le hk hM) (Nat.lt_of_lt_of_le hk' hM)⟩
theorem LL.at {N : Nat} {A : Nat → Prop} {la : Nat → Nat} (h : LL N A la) (k : Nat) (hk : k < N) : A (la k) ∧ ∀ k', k' < N → la k' = la k → k' = k := ⟨h.1 k hk, fun k' hk' e => h.2 k' k hk' hk e⟩
theorem LH_row {N : Nat} {A : Nat → Prop} {D : va_G} {cy : Nat → ClassId} {la : Nat → Nat} {L : St} {H H1 : Heap} {k i : Nat} {v : Int32} (hL : A (la k) ∧ ∀ k', k' < N → la k' = la k → k' = k) (hM : LH N D cy la L H) (hk : k < N) (h1 : at1 D (la k) (arI cy (lLen k) (upd (L k) i v)) H1) (oq : ∀ q : Nat, q ≠ la k → H1[q]? = H[q]?) : LH N D cy la (up L k i v) H1 := by
  intro k' hk'
  by_cases hkk : k' = k
  · subst hkk
    rw [up_row]
    exact h1
  · rw [up_ne hkk]
    exact (hM k' hk').kept (oq _ (fun h => hkk (hL.2 k' hk' h)))
theorem nx_add {x y : Int32} {a b : Nat} (hx : x = nI a) (hy : y = nI b) : x + y = nI (a + b) := by rw [hx, hy, nI_add]
theorem nx_mul {x y : Int32} {a b : Nat} (hx : x = nI a) (hy : y = nI b) : x * y = nI (a * b) := by rw [hx, hy, pk_mul]
theorem nx_in {x : Int32} {n N : Nat} (hx : x = nI n) (h : n < N) (hN : N < 2 ^ 31) : vp_in x N := by
  rw [hx]
  exact vp_in_nI h hN
theorem nx_ix {x : Int32} {n : Nat} (hx : x = nI n) (h : n < 2 ^ 31) : ix x = n := by
  rw [hx]
  exact nI_clamp h
/-- a method that reads the law's rows alone -/
abbrev LPure (l : Launch) (D : va_G) (cy : Nat → ClassId) (la : Nat → Nat) (L : St) (y : MethodName) (ws : List Cond) (rm : Room) (mc ms : Nat) (As : List Value) (v : Int32) : Prop := Met l y ws rm (va_Pc As (fun U => LH 12 D cy la L U.heap ∧ KK D cy U)) (va_Qi (fun (r : Int32) (_ : Unit) => r = v) (fun _ _ => True) (fun _ => False)) mc ms (fun _ => False)
abbrev LMutV (l : Launch) (A : Nat → Prop) (D : va_G) (cy : Nat → ClassId) (la : Nat → Nat) (L : St) (y : MethodName) (ws : List Cond) (rm : Room) (As : List Value) (L' : St) : Prop := Met l y ws rm (va_Pc As (fun U => LH 12 D cy la L U.heap ∧ KK D cy U)) (va_Qv (fun (_ : Unit) => True) (fun _ t => LH 12 D cy la L' t.heap) A) 0 0 A
theorem LP_blindL {D : va_G} {cy : Nat → ClassId} {la : Nat → Nat} {L : St} {av : List Value} : FrameBlind (va_Pc av (fun U => LH 12 D cy la L U.heap ∧ KK D cy U)) := fun a U g mk q => ⟨q.1, q.2.1, va_K.moved (u := U) (U := U.calling g mk a) (Vm.Alike.refl U.vm) q.2.2⟩
section LR
variable {p : Program} {l : Launch} {e : Env} {R : Room} {s : State} {m : MethodId} {args : Array Value} {below : List Frame} {meth : Method} {c : Code} {H : Heap} {locs : List Loc} {cells slots : Nat} {Q : State → Prop}
variable {cc : ByteArray} {pc nL : Nat} {ls : Array Slot} {rest : List Value} {D : va_G} {cy : Nat → ClassId} {la : Nat → Nat} {L : St} {A : Nat → Prop} {Ts : List Cond} {N : Nat}
theorem lr_ld (hC : CC p s m args c cc nL RL D cy Ts) (hI : LI A N D cy la s L H locs) (k : Nat) (hk : k < N) {i : Int32} (hin : vp_in i (lLen k)) {v : Int32} (hv : L k (ix i) = v) (hdg : decode cc pc = .ok (.iaload, 1))
    (kk : W p l e R s m args below meth c H locs cells slots Q (F0 m (pc + 1) ls (.int v :: rest))) : W p l e R s m args below meth c H locs cells slots Q (F0 m pc ls (.int i :: .ref (la k) :: rest)) :=
  ww_iald hC.1.1 hC.1.2.1 hC.2 0 (hI.1 k hk) rfl hin hv hdg kk
theorem lr_st (hC : CC p s m args c cc nL RL D cy Ts) (k : Nat) (hk : k < N) (hL : A (la k) ∧ ∀ k', k' < N → la k' = la k → k' = k) (hI : LI A N D cy la s L H locs) {i v : Int32} (hin : vp_in i (lLen k)) {n : Nat} (hn : ix i = n) (hdg : decode cc pc = .ok (.iastore, 1))
    (kk : ∀ (H1 : Heap) (locs1 : List Loc), LI A N D cy la s (up L k n v) H1 locs1 → W p l e R s m args below meth c H1 locs1 cells slots Q (F0 m (pc + 1) ls rest)) : W p l e R s m args below meth c H locs cells slots Q (F0 m pc ls (.int v :: .int i :: .ref (la k) :: rest)) := by
  subst hn
  refine ww_iast hC.1.1 hC.1.2.1 hC.2 0 (hI.1 k hk) rfl hin hdg (fun H1 j h1 z oq => ?_)
  exact kk H1 _ ⟨LH_row hL hI.1 hk h1 oq, S_put j hI.2 z oq hL.1⟩
/-- a new row -/
theorem lr_new (hC : CC p s m args c cc nL RL D cy Ts) (harr : (Cond.arrayClass .int).before args s = true) (hI : LI A N D cy la s L H locs) (hla : la N = H.size) {n : Int32} {k : Nat} (hn : n = nI k) (hk : k = lLen N) (hk2 : k < 2 ^ 20) (hcells : cells + 1 ≤ R.cells) (hslots : slots + k ≤ R.slots) (hdg : decode cc pc = .ok (.newarray .int, 2))
    (kk : ∀ (H1 : Heap), LI A (N + 1) D cy la s (upr L N (fun _ => 0)) H1 locs → H1.size = H.size + 1 → W p l e R s m args below meth c H1 locs (cells + 1) (slots + k) Q (F0 m (pc + 2) ls (.ref (la N) :: rest))) : W p l e R s m args below meth c H locs cells slots Q (F0 m pc ls (.int n :: rest)) := by
  subst hn
  refine va_newaK hC.1.1 hC.1.2.1 (atype := .int) harr (g := F0 m pc ls (.int (nI k) :: rest)) (N := k) rfl hdg rfl (fun q => vp_in_nI (n := k) (N := k + 1) (Nat.lt_succ_self k) (by omega) (Or.inl q)) (nI_clamp (by omega)) (by show k * 4 ≤ _; omega) hcells hslots rfl (fun H1 cA e1 z1 o1 hAr hNm => ?_)
  have h4 := (hC.2.2 0 _ rfl).2
  obtain rfl : cA = cy 0 := Option.some.inj (hNm.symm.trans h4)
  have hLI : LI A (N + 1) D cy la s (upr L N (fun _ => 0)) H1 locs := ⟨fun k' hk' => by
    by_cases hkk : k' = N
    · subst hkk
      rw [upr_at, hla, ← hk]
      exact e1
    · rw [upr_ne hkk]
      exact at_keep (hI.1 k' (by omega)) o1, S_new hI.2 z1 o1⟩
  have k2 := kk H1 hLI z1
  rw [hla] at k2
  exact k2
variable {y : MethodName} {ws : List Cond} {rm : Room} {As st0 : List Value} {bytes : ByteArray} {maxL n index mc ms : Nat} {ret : Option FieldType} {v : Int32}
theorem lr_call (hC : CC p s m args c cc nL RL D cy Ts) (hI : LI A N D cy la s L H locs) (hN : 12 ≤ N) {L0 : St} (hL0 : ∀ k, k < 12 → L k = L0 k) (hM : LPure l D cy la L0 y ws rm mc ms As v) (cw : CallB R s args RL index y bytes maxL ret ws rm mc ms n ∧ (Cond.static y).before args s = true) (hn : As.length = n) (hsize : ls.size = nL) (hst : st0 = As.reverse ++ rest) (hr : (rest.map fun v => v.category).sum ≤ 8) (hdg : decode cc pc = .ok (.invokestatic index, 3)) (hf : cells + mc ≤ R.cells ∧ slots + ms ≤ R.slots)
    (kk : ∀ (H1 : Heap) (locs1 : List Loc), (∀ q : Nat, q < H.size → H1[q]? = H[q]?) → H.size ≤ H1.size → LI A N D cy la s L H1 locs1 → W p l e R s m args below meth c H1 locs1 (cells + mc) (slots + ms) Q (F0 m (pc + 3) ls (.int v :: rest))) : W p l e R s m args below meth c H locs cells slots Q (F0 m pc ls st0) := by
  refine va_calli (va_runS (As := As) (rest := rest) hC.1 hM cw ⟨LP_blindL, fun U hU hW => ⟨rfl, by rw [hU]; exact hI.1.rows hN hL0, va_K.moved hW.alike hC.2⟩⟩ rfl hn hsize hst (lv_room hr) hdg hf) hI.2 (fun q _ h => h.elim) (fun q h => h.elim) (fun r u t H1 locs1 ht hvm hw hB hz1 hk1 hS1 => ?_)
  subst hw
  exact kk H1 locs1 (fun q hq => hk1 q hq (fun h => h)) hz1 ⟨hI.1.keep (fun q hq => hk1 q hq (fun h => h)), hS1⟩
theorem lr_callV (hC : CC p s m args c cc nL RL D cy Ts) (hI : LI A 12 D cy la s L H locs) {L' : St} {B : Nat → Prop} (hBA : ∀ q, B q → A q) (hM : LMutV l B D cy la L y ws rm As L') (cw : CallB R s args RL index y bytes maxL ret ws rm 0 0 n ∧ (Cond.static y).before args s = true) (hn : As.length = n) (hsize : ls.size = nL) (hst : st0 = As.reverse ++ rest) (hr : (rest.map fun v => v.category).sum ≤ 8) (hdg : decode cc pc = .ok (.invokestatic index, 3)) (hf : cells ≤ R.cells ∧ slots ≤ R.slots)
    (kk : ∀ (H1 : Heap) (locs1 : List Loc), (∀ q : Nat, q < H.size → ¬ B q → H1[q]? = H[q]?) → H.size ≤ H1.size → LI A 12 D cy la s L' H1 locs1 → W p l e R s m args below meth c H1 locs1 cells slots Q (F0 m (pc + 3) ls rest)) : W p l e R s m args below meth c H locs cells slots Q (F0 m pc ls st0) := by
  refine va_callv (va_runS (As := As) (rest := rest) hC.1 hM cw ⟨LP_blindL, fun U hU hW => ⟨rfl, by rw [hU]; exact hI.1, va_K.moved hW.alike hC.2⟩⟩ rfl hn hsize hst (lv_room hr) hdg hf) hI.2 (fun q _ h => hBA q h) (fun q h => hBA q h) (fun u t H1 locs1 ht hvm hw hB hz1 hk1 hS1 => ?_)
  rw [ht] at hB
  exact kk H1 locs1 hk1 hz1 ⟨hB, hS1⟩
theorem lr_callS (hC : CC p s m args c cc nL RL D cy Ts) (hI : LI A N D cy la s L H locs) (hM : SPure l y ws rm As v) (cw : CallB R s args RL index y bytes maxL ret ws rm 0 0 n ∧ (Cond.static y).before args s = true) (hn : As.length = n) (hsize : ls.size = nL) (hst : st0 = As.reverse ++ rest) (hr : (rest.map fun v => v.category).sum ≤ 8) (hdg : decode cc pc = .ok (.invokestatic index, 3)) (hf : cells ≤ R.cells ∧ slots ≤ R.slots)
    (kk : ∀ (H1 : Heap) (locs1 : List Loc), (∀ q : Nat, q < H.size → H1[q]? = H[q]?) → H.size ≤ H1.size → LI A N D cy la s L H1 locs1 → W p l e R s m args below meth c H1 locs1 cells slots Q (F0 m (pc + 3) ls (.int v :: rest))) : W p l e R s m args below meth c H locs cells slots Q (F0 m pc ls st0) :=
  sr_call hC.1 hI.2 hM cw hn hsize hst hr hdg hf (fun H1 locs1 hk hz hS => kk H1 locs1 hk hz ⟨hI.1.keep hk, hS⟩)
end LR
/-- what is known of the law's numbers -/
abbrev q1 (L : St) : Nat := ix (L 11 1)
abbrev q2 (L : St) : Nat := ix (L 11 2)
abbrev q3 (L : St) : Nat := ix (L 11 3)
abbrev q4 (L : St) : Nat := ix (L 11 4)
def LV (L : St) : Prop := (L 11 1 = nI (q1 L) ∧ q1 L ≤ 8) ∧ (L 11 2 = nI (q2 L) ∧ q2 L ≤ 40) ∧ (L 11 3 = nI (q3 L) ∧ q3 L ≤ 20) ∧ (L 11 4 = nI (q4 L) ∧ q4 L ≤ 8) ∧ (∀ k, k < 8 → vp_in (L 6 (8 * k)) 5 ∧ vp_in (L 6 (8 * k + 1)) 3) ∧ (∀ i, vp_in (L 1 i - L 1 i / 8 * 8) 8) ∧ (∀ i, vp_in (L 5 i / 8 - L 5 i / 8 / 8 * 8) 5) ∧ ∀ a, a < q1 L → ¬ L 0 (8 * a + 3) = 0
theorem LV.n1 {L : St} (h : LV L) : L 11 1 = nI (q1 L) := h.1.1
theorem LV.b1 {L : St} (h : LV L) : q1 L ≤ 8 := h.1.2
theorem LV.n2 {L : St} (h : LV L) : L 11 2 = nI (q2 L) := h.2.1.1
theorem LV.b2 {L : St} (h : LV L) : q2 L ≤ 40 := h.2.1.2
theorem LV.n3 {L : St} (h : LV L) : L 11 3 = nI (q3 L) := h.2.2.1.1
theorem LV.b3 {L : St} (h : LV L) : q3 L ≤ 20 := h.2.2.1.2
theorem LV.n4 {L : St} (h : LV L) : L 11 4 = nI (q4 L) := h.2.2.2.1.1
theorem LV.b4 {L : St} (h : LV L) : q4 L ≤ 8 := h.2.2.2.1.2
theorem LV.u0 {L : St} (h : LV L) {k : Nat} (hk : k < 8) : vp_in (L 6 (8 * k)) 5 := (h.2.2.2.2.1 k hk).1
theorem LV.u1 {L : St} (h : LV L) {k : Nat} (hk : k < 8) : vp_in (L 6 (8 * k + 1)) 3 := (h.2.2.2.2.1 k hk).2
theorem LV.c8 {L : St} (h : LV L) (i : Nat) : vp_in (L 1 i - L 1 i / 8 * 8) 8 := h.2.2.2.2.2.1 i
theorem LV.d8 {L : St} (h : LV L) (i : Nat) : vp_in (L 5 i / 8 - L 5 i / 8 / 8 * 8) 5 := h.2.2.2.2.2.2.1 i
theorem LV.h3 {L : St} (h : LV L) {a : Nat} (ha : a < q1 L) : ¬ L 0 (8 * a + 3) = 0 := h.2.2.2.2.2.2.2 a ha
theorem LV.congr {L L' : St} (h : LV L) (e : L' 0 = L 0 ∧ L' 1 = L 1 ∧ L' 5 = L 5 ∧ L' 6 = L 6) (e1 : L' 11 1 = L 11 1) (e2 : L' 11 2 = L 11 2) (e3 : L' 11 3 = L 11 3) (e4 : L' 11 4 = L 11 4) : LV L' := by
  obtain ⟨a0, a1, a5, a6⟩ := e
  unfold LV q1 q2 q3 q4
  rw [a0, a1, a5, a6, e1, e2, e3, e4]
  exact h
