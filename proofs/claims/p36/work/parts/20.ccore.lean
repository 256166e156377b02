/-! THE CLASS's cells: kind k, number i; g holds the addresses (ga), the lists' modCount (gm), the arrays' lengths and the lists' counts (gc), the arrays' elements (gf) -/
abbrev CWt : Type := Nat → Nat → Nat × Int32 × Nat × (Nat → Option Nat)
abbrev ga (g : CWt) (k i : Nat) : Nat := (g k i).1
abbrev gm (g : CWt) (k i : Nat) : Int32 := (g k i).2.1
abbrev gc (g : CWt) (k i : Nat) : Nat := (g k i).2.2.1
abbrev gf (g : CWt) (k i : Nat) : Nat → Option Nat := (g k i).2.2.2
abbrev npp (S : St) (k : Nat) : Nat := ix (S 67 k)
abbrev npd (S : St) : Nat := ix (S 64 0)
abbrev arI (cy : Nat → ClassId) (n : Nat) (f : Nat → Int32) : va_E := .inl (cy 0, n, .inl f)
def cid (j : Nat) : Nat := match j with | 0 => 7 | 1 => 15 | 2 => 23 | _ => 28
def ccell (cy : Nat → ClassId) (g : CWt) (S : St) (k i : Nat) : va_E := match k with
  | 0 => .inr (3, [.int (S 2 i), .int (S 3 i), .int (S 4 i), .int (S 5 i), .ref (ga g 1 i), .ref (ga g 2 i), .ref (ga g 3 i)])
  | 1 => arI cy 8 (fun t => S 51 (8 * i + t))
  | 2 => arI cy 8 (fun t => S 62 (8 * i + t))
  | 3 => arI cy 8 (fun t => S 53 (8 * i + t))
  | 4 => .inr (7, [.int (S 21 i), .int (S 60 i), .int (S 49 i), .int (S 50 i), .int (S 46 i), .int (S 47 i), .int (S 48 i)])
  | 5 => .inr (5, [.int (nI i), .int (S 8 i), .int (S 9 i), .int (S 10 i), .int (S 11 i), .int (S 12 i), .int (S 13 i), .int (S 14 i), .int (S 61 i)])
  | 6 => .inr (1, [.int (S 16 i), .int (S 17 i), .int (S 18 i), .int (S 19 i)])
  | 7 => .inr (2, [.int (S 24 i), .int (S 25 i), .int (S 26 i), .int (S 27 i)])
  | 8 => .inr (6, [.int (nI i), .int (S 29 i), .int (S 30 i), .int (S 31 i), .int (S 33 i), .ref (ga g 9 i), .int (S 32 i), .int (S 34 i), .int (S 35 i), .int (S 37 i), .int (S 36 i), .int (S 38 i), .int (S 39 i), .int (S 40 i), .int (S 41 i)])
  | 9 => alC (gm g 9 i) (ga g 10 i) (S 67 i)
  | 10 => arO cy (gc g 10 i) (gf g 10 i)
  | 11 => .inr (4, [.int (S 65 i), .int (S 66 i)])
  | 12 => alC (gm g 12 i) (ga g 13 i) (S (cid i) 0)
  | 13 => arO cy (gc g 13 i) (gf g 13 i)
  | 14 => .inl (cy 2, 6, .inr (.inr (.inr (.inr (fun j => some (ga g 0 j))))))
  | 15 => .inl (cy 3, 8, .inr (.inr (.inr (.inr (fun j => some (ga g 4 j))))))
  | 16 => arI cy 16 (S 20)
  | 17 => arI cy 52 (S 63)
  | _ => .inr (8, [.ref (ga g 14 0), .ref (ga g 15 0), .ref (ga g 16 0), .ref (ga g 12 0), .ref (ga g 12 1), .ref (ga g 12 2), .ref (ga g 12 3), .ref (ga g 17 0), .int (S 64 0), .int (S 42 0), .int (S 1 0), .int (S 6 0)])
/-- which cells there are -/
def cval (g : CWt) (k i : Nat) : Prop := match k with
  | 0 => i < 6
  | 1 => i < 6
  | 2 => i < 6
  | 3 => i < 6
  | 4 => i < 8
  | 5 => i < gc g 12 0
  | 6 => i < gc g 12 1
  | 7 => i < gc g 12 2
  | 8 => i < gc g 12 3
  | 9 => i < gc g 12 3
  | 10 => i < gc g 12 3
  | 11 => i / 64 < gc g 12 3 ∧ i % 64 < gc g 9 (i / 64)
  | 12 => i < 4
  | 13 => i < 4 ∧ 0 < gc g 12 i
  | 14 => i = 0
  | 15 => i = 0
  | 16 => i = 0
  | 17 => i = 0
  | 18 => i = 0
  | _ => False
def CH (D : va_G) (cy : Nat → ClassId) (g : CWt) (S : St) (H : Heap) : Prop := ∀ k i, cval g k i → at1 D (ga g k i) (ccell cy g S k i) H
/-- the cells are apart, and may be written -/
def CL (A : Nat → Prop) (g : CWt) : Prop := (∀ k i, cval g k i → A (ga g k i)) ∧ ∀ k i k' i', cval g k i → cval g k' i' → ga g k i = ga g k' i' → k = k' ∧ i = i'
/-- the lists' arrays hold their elements -/
def CG (e0 : Nat) (g : CWt) : Prop := (∀ j, j < 4 → gc g 12 j = 0 → ga g 13 j = e0) ∧
  (∀ j, j < 4 → 0 < gc g 12 j → gc g 12 j ≤ gc g 13 j ∧ (2 ≤ gc g 13 j ∧ gc g 13 j ≤ 150) ∧ ∀ i, i < gc g 12 j → gf g 13 j i = some (ga g (5 + j) i)) ∧
  (∀ k, k < gc g 12 3 → 0 < gc g 9 k ∧ gc g 9 k ≤ gc g 10 k ∧ (2 ≤ gc g 10 k ∧ gc g 10 k ≤ 150) ∧ ∀ j, j < gc g 9 k → gf g 10 k j = some (ga g 11 (64 * k + j)))
/-- counts of the lists -/
def CT (g : CWt) (S : St) : Prop := (gc g 12 0 = nsc S ∧ gc g 12 1 = ncl S ∧ gc g 12 2 = ndl S ∧ gc g 12 3 = nsu S) ∧ (∀ k, k < nsu S → gc g 9 k = npp S k)
/-- the class's own numbers -/
def KInv (S : St) : Prop := (∀ k, S 67 k = nI (npp S k) ∧ npp S k ≤ 41) ∧ S 64 0 = nI (npd S) ∧ npd S ≤ 52
theorem KInv.n67 {S : St} (h : KInv S) (k : Nat) : S 67 k = nI (npp S k) := (h.1 k).1
theorem KInv.b67 {S : St} (h : KInv S) (k : Nat) : npp S k ≤ 41 := (h.1 k).2
theorem KInv.n64 {S : St} (h : KInv S) : S 64 0 = nI (npd S) := h.2.1
theorem KInv.b64 {S : St} (h : KInv S) : npd S ≤ 52 := h.2.2
theorem CT.v5 {g : CWt} {S : St} (h : CT g S) {i : Nat} (hi : i < nsc S) : cval g 5 i := by show i < gc g 12 0; rw [h.1.1]; exact hi
theorem CT.v6 {g : CWt} {S : St} (h : CT g S) {i : Nat} (hi : i < ncl S) : cval g 6 i := by show i < gc g 12 1; rw [h.1.2.1]; exact hi
theorem CT.v7 {g : CWt} {S : St} (h : CT g S) {i : Nat} (hi : i < ndl S) : cval g 7 i := by show i < gc g 12 2; rw [h.1.2.2.1]; exact hi
theorem CT.v8 {g : CWt} {S : St} (h : CT g S) {i : Nat} (hi : i < nsu S) : cval g 8 i := by show i < gc g 12 3; rw [h.1.2.2.2]; exact hi
theorem CT.v9 {g : CWt} {S : St} (h : CT g S) {i : Nat} (hi : i < nsu S) : cval g 9 i := h.v8 hi
theorem CT.v10 {g : CWt} {S : St} (h : CT g S) {i : Nat} (hi : i < nsu S) : cval g 10 i := h.v8 hi
theorem CT.v11 {g : CWt} {S : St} (h : CT g S) {k j : Nat} (hk : k < nsu S) (hj : j < npp S k) (hb : npp S k ≤ 41) : cval g 11 (64 * k + j) := by
  show (64 * k + j) / 64 < gc g 12 3 ∧ (64 * k + j) % 64 < gc g 9 ((64 * k + j) / 64)
  rw [show (64 * k + j) / 64 = k by omega, show (64 * k + j) % 64 = j by omega, h.1.2.2.2, h.2 k hk]
  exact ⟨hk, hj⟩
def CI (A : Nat → Prop) (D : va_G) (cy : Nat → ClassId) (g : CWt) (s : State) (S : St) (H : Heap) (locs : List Loc) : Prop := CH D cy g S H ∧ va_S A s.heap H locs
def CP (D : va_G) (cy : Nat → ClassId) (g : CWt) (S : St) : State → Prop := fun U => CH D cy g S U.heap ∧ KK D cy U
theorem CI_eq {A : Nat → Prop} {D : va_G} {cy : Nat → ClassId} {g : CWt} {s : State} {S S' : St} {H : Heap} {locs : List Loc} (h : CI A D cy g s S H locs) (e : S = S') : CI A D cy g s S' H locs := e ▸ h
theorem CI_upr {A : Nat → Prop} {D : va_G} {cy : Nat → ClassId} {g : CWt} {s : State} {S : St} {H : Heap} {locs : List Loc} (h : CI A D cy g s S H locs) (k : Nat) {r : Nat → Int32} (e : S k = r) : CI A D cy g s (upr S k r) H locs := CI_eq h (upr_self e).symm
theorem CH.keep {D : va_G} {cy : Nat → ClassId} {g : CWt} {S : St} {H H1 : Heap} (h : CH D cy g S H) (hk : ∀ q : Nat, q < H.size → H1[q]? = H[q]?) : CH D cy g S H1 := fun k i hv => at_keep (h k i hv) hk
/-- the other cells say the same of both states -/
def CU (cy : Nat → ClassId) (g : CWt) (S S' : St) (k n : Nat) : Prop := ∀ k' i', ¬ (k' = k ∧ i' = n) → cval g k' i' → ∀ (D : va_G) (a : Nat) (H : Heap), at1 D a (ccell cy g S k' i') H → at1 D a (ccell cy g S' k' i') H
theorem arrV_congr {cA : ClassId} {n : Nat} {f f' : Nat → Value} (h : ∀ t, t < n → f t = f' t) : arrV cA n f = arrV cA n f' := by
  unfold arrV
  congr 1
  apply Array.ext
  · simp
  · intro i h1 h2
    simp at h1
    simp [h i h1]
theorem arI_congr {D : va_G} {cy : Nat → ClassId} {n a : Nat} {f f' : Nat → Int32} {H : Heap} (h : ∀ t, t < n → f t = f' t) (h1 : at1 D a (arI cy n f) H) : at1 D a (arI cy n f') H := by
  have h2 : H[a]? = some (vp_cell (cy 0) (n, .inl f)) := h1
  show H[a]? = some (vp_cell (cy 0) (n, .inl f'))
  rw [h2, vp_cell_i, vp_cell_i, arrV_congr (fun t ht => by rw [h t ht])]
section CR
variable {p : Program} {l : Launch} {e : Env} {R : Room} {s : State} {m : MethodId} {args : Array Value} {below : List Frame} {meth : Method} {c : Code} {H : Heap} {locs : List Loc} {cells slots : Nat} {Q : State → Prop}
variable {cc : ByteArray} {pc nL : Nat} {ls : Array Slot} {rest : List Value} {D : va_G} {cy : Nat → ClassId} {g : CWt} {S S' : St} {A : Nat → Prop} {Ts : List Cond} {own : String}
/-- what a body of the class has at hand -/
def CC (p : Program) (s : State) (m : MethodId) (args : Array Value) (c : Code) (cc : ByteArray) (nL : Nat) (own : String) (D : va_G) (cy : Nat → ClassId) (Ts : List Cond) : Prop := (p.tables.exec = Jvm.exec ∧ c.code = cc ∧ c.maxLocals = nL ∧ s.vm.findClass own = some m.cls ∧ ∀ w ∈ Ts, w.before args s = true) ∧ KK D cy s
theorem cr_get (hC : CC p s m args c cc nL own D cy Ts) (hI : CI A D cy g s S H locs) (k n : Nat) (hv : cval g k n) {ci : Nat} {fs : List Value} (he : ccell cy g S k n = .inr (ci, fs)) {C : String} {T : u_T} {N : Nat} (hc : vwCl[ci]? = some (C, T, N)) (hin : ∀ w ∈ u_ws C T N, w ∈ Ts) (j : Nat) (hj : j < N) {index : Nat} {ref : String} (hlink : (Cond.fieldLink own index ref (T j).2.1 (T j).2.2.1).before args s = true) (hsame : ∀ x, s.fieldFound? (T j).1 (T j).2.1 (T j).2.2.1 = some x → s.fieldFound? ref (T j).2.1 (T j).2.2.1 = some x) {v : Value} (hfv : fs[j]? = some v) (hdg : decode cc pc = .ok (.getfield index, 3))
    (kk : W p l e R s m args below meth c H locs cells slots Q (F0 m (pc + 3) ls (v :: rest))) : W p l e R s m args below meth c H locs cells slots Q (F0 m pc ls (.ref (ga g k n) :: rest)) :=
  ww_get hC.1.1 hC.1.2.1 hC.1.2.2.2.2 hin hC.1.2.2.2.1 hC.2 (he ▸ hI.1 k n hv) hc j hj hlink hsame hfv hdg kk
theorem CH_upd {k n : Nat} {H1 : Heap} (hL : CL A g) (hM : CH D cy g S H) (hv : cval g k n) (hnew : at1 D (ga g k n) (ccell cy g S' k n) H1) (oq : ∀ q : Nat, q ≠ ga g k n → H1[q]? = H[q]?) (hu : CU cy g S S' k n) : CH D cy g S' H1 := by
  intro k' i' hv'
  by_cases h : k' = k ∧ i' = n
  · obtain ⟨rfl, rfl⟩ := h
    exact hnew
  · refine (hu k' i' h hv' D _ H (hM k' i' hv')).kept (oq _ (fun hq => h (hL.2 k' i' k n hv' hv hq)))
theorem cr_put (hC : CC p s m args c cc nL own D cy Ts) (hL : CL A g) (hI : CI A D cy g s S H locs) (k n : Nat) (hv : cval g k n) {ci : Nat} {fs : List Value} (he : ccell cy g S k n = .inr (ci, fs)) {C : String} {T : u_T} {N : Nat} (hc : vwCl[ci]? = some (C, T, N)) (hin : ∀ w ∈ u_ws C T N, w ∈ Ts) (ty0 : Nat → FieldType) (hty : ∀ k, k < N → parseFieldDescriptor (T k).2.2.1 = some (ty0 k)) (hnm : ∀ a, a < N → ∀ b, b < N → a ≠ b → (T a).2.1 ≠ (T b).2.1) (j : Nat) (hj : j < N) {index : Nat} {ref : String} (hlink : (Cond.fieldLink own index ref (T j).2.1 (T j).2.2.1).before args s = true) (hsame : ∀ x, s.fieldFound? (T j).1 (T j).2.1 (T j).2.2.1 = some x → s.fieldFound? ref (T j).2.1 (T j).2.2.1 = some x) (hfin : (T j).2.2.2 = false) {ty : FieldType} {v : Value} (hd : parseFieldDescriptor (T j).2.2.1 = some ty) (hn : narrow ty v = v) (hfit : fits ty v = true) (hl : j < fs.length) (hnew : ccell cy g S' k n = .inr (ci, fs.set j v)) (hu : CU cy g S S' k n) (hdg : decode cc pc = .ok (.putfield index, 3))
    (kk : ∀ (H1 : Heap) (locs1 : List Loc), CI A D cy g s S' H1 locs1 → W p l e R s m args below meth c H1 locs1 cells slots Q (F0 m (pc + 3) ls rest)) : W p l e R s m args below meth c H locs cells slots Q (F0 m pc ls (v :: .ref (ga g k n) :: rest)) := by
  refine ww_put hC.1.1 hC.1.2.1 hC.1.2.2.2.2 hin ty0 hty hnm hC.1.2.2.2.1 hC.2 (he ▸ hI.1 k n hv) hc j hj hlink hsame hfin hd hn hfit hl hdg (fun H1 q h1 z oq => ?_)
  exact kk H1 _ ⟨CH_upd hL hI.1 hv (by rw [hnew]; exact h1) oq hu, S_put q hI.2 z oq (hL.1 k n hv)⟩
theorem cr_iald (hC : CC p s m args c cc nL own D cy Ts) (hI : CI A D cy g s S H locs) (k n : Nat) (hv : cval g k n) {N : Nat} {f : Nat → Int32} (he : ccell cy g S k n = arI cy N f) {i : Int32} (hin : vp_in i N) {v : Int32} (hf : f (ix i) = v) (hdg : decode cc pc = .ok (.iaload, 1))
    (kk : W p l e R s m args below meth c H locs cells slots Q (F0 m (pc + 1) ls (.int v :: rest))) : W p l e R s m args below meth c H locs cells slots Q (F0 m pc ls (.int i :: .ref (ga g k n) :: rest)) :=
  ww_iald hC.1.1 hC.1.2.1 hC.2 0 (show at1 D (ga g k n) (arI cy N f) H from he ▸ hI.1 k n hv) rfl hin hf hdg kk
theorem cr_iast (hC : CC p s m args c cc nL own D cy Ts) (hL : CL A g) (hI : CI A D cy g s S H locs) (k n : Nat) (hv : cval g k n) {N : Nat} {f f' : Nat → Int32} (he : ccell cy g S k n = arI cy N f) {i x : Int32} (hin : vp_in i N) (hnew : ccell cy g S' k n = arI cy N f') (hff : ∀ t, t < N → upd f (ix i) x t = f' t) (hu : CU cy g S S' k n) (hdg : decode cc pc = .ok (.iastore, 1))
    (kk : ∀ (H1 : Heap) (locs1 : List Loc), CI A D cy g s S' H1 locs1 → W p l e R s m args below meth c H1 locs1 cells slots Q (F0 m (pc + 1) ls rest)) : W p l e R s m args below meth c H locs cells slots Q (F0 m pc ls (.int x :: .int i :: .ref (ga g k n) :: rest)) := by
  refine ww_iast hC.1.1 hC.1.2.1 hC.2 0 (he ▸ hI.1 k n hv) rfl hin hdg (fun H1 q h1 z oq => ?_)
  exact kk H1 _ ⟨CH_upd hL hI.1 hv (by rw [hnew]; exact arI_congr hff h1) oq hu, S_put q hI.2 z oq (hL.1 k n hv)⟩
theorem cr_alen (hC : CC p s m args c cc nL own D cy Ts) (hI : CI A D cy g s S H locs) (k n : Nat) (hv : cval g k n) {N : Nat} {f : Nat → Int32} (he : ccell cy g S k n = arI cy N f) {v : Int32} (hf : Int32.ofNat N = v) (hdg : decode cc pc = .ok (.arraylength, 1))
    (kk : W p l e R s m args below meth c H locs cells slots Q (F0 m (pc + 1) ls (.int v :: rest))) : W p l e R s m args below meth c H locs cells slots Q (F0 m pc ls (.ref (ga g k n) :: rest)) :=
  ww_alen hC.1.1 hC.1.2.1 hC.2 0 (he ▸ hI.1 k n hv) rfl hf hdg kk
theorem cr_aaldF (hC : CC p s m args c cc nL own D cy Ts) (hI : CI A D cy g s S H locs) {i : Int32} (hin : vp_in i 6) {n : Nat} (hn : ix i = n) (hdg : decode cc pc = .ok (.aaload, 1))
    (kk : W p l e R s m args below meth c H locs cells slots Q (F0 m (pc + 1) ls (.ref (ga g 0 n) :: rest))) : W p l e R s m args below meth c H locs cells slots Q (F0 m pc ls (.int i :: .ref (ga g 14 0) :: rest)) :=
  ww_qald hC.1.1 hC.1.2.1 hC.2 2 (hI.1 14 0 rfl) rfl hin (by show some (ga g 0 (ix i)) = _; rw [hn]) hdg kk
theorem cr_aaldT (hC : CC p s m args c cc nL own D cy Ts) (hI : CI A D cy g s S H locs) {i : Int32} (hin : vp_in i 8) {n : Nat} (hn : ix i = n) (hdg : decode cc pc = .ok (.aaload, 1))
    (kk : W p l e R s m args below meth c H locs cells slots Q (F0 m (pc + 1) ls (.ref (ga g 4 n) :: rest))) : W p l e R s m args below meth c H locs cells slots Q (F0 m pc ls (.int i :: .ref (ga g 15 0) :: rest)) :=
  ww_qald hC.1.1 hC.1.2.1 hC.2 3 (hI.1 15 0 rfl) rfl hin (by show some (ga g 4 (ix i)) = _; rw [hn]) hdg kk
theorem cr_recv (hK : KK D cy s) (hI : CI A D cy g s S H locs) (k n : Nat) (hv : cval g k n) {ci : Nat} {fs : List Value} (he : ccell cy g S k n = .inr (ci, fs)) {q : vw_C} (hc : vwCl[ci]? = some q) : ∃ cell : Cell, H[ga g k n]? = some cell ∧ cell.vm.isStatics = false ∧ s.vm.findClass q.1 = some cell.cls :=
  va_recv hK (p1 (he ▸ hI.1 k n hv)) hc (q0 := 0) rfl
theorem cr_cast (hC : CC p s m args c cc nL own D cy Ts) (hI : CI A D cy g s S H locs) (k n : Nat) (hv : cval g k n) {ci : Nat} {fs : List Value} (he : ccell cy g S k n = .inr (ci, fs)) {q : vw_C} (hc : vwCl[ci]? = some q) {index : Nat} (hlink : (Cond.classLink own index q.1).before args s = true) (hdg : decode cc pc = .ok (.checkcast index, 3))
    (kk : W p l e R s m args below meth c H locs cells slots Q (F0 m (pc + 3) ls (.ref (ga g k n) :: rest))) : W p l e R s m args below meth c H locs cells slots Q (F0 m pc ls (.ref (ga g k n) :: rest)) :=
  va_castS hC.1.1 hC.1.2.1 hC.1.2.2.2.1 hlink (hC.2.1 ci q hc).2 (cr_recv hC.2 hI k n hv he hc) hdg kk
variable {y : MethodName} {ws : List Cond} {rm : Room} {As st0 : List Value} {bytes : ByteArray} {maxL n index b : Nat} {ret : Option FieldType} {v : Int32} {C : String}
/-- a list's size -/
theorem cr_size (hC : CC p s m args c cc nL own D cy Ts) (hI : CI A D cy g s S H locs) (k i : Nat) (hv : cval g k i) {md sz : Int32} {ea : Nat} (he : ccell cy g S k i = alC md ea sz) (cw : CallW R s args own RJx4a65c index yJx4a65c_size_8abf5 bytes maxL ret wsJx4a65c_size_8abf5 rm 0 0 0) (hM : PInt l (fun U => va_P D vwCl [(ga g k i, alC md ea sz)] U.heap ∧ KK D cy U) yJx4a65c_size_8abf5 wsJx4a65c_size_8abf5 rm [.ref (ga g k i)] sz) (hsize : ls.size = nL) (hr : (rest.map fun v => v.category).sum ≤ 8) (hdg : decode cc pc = .ok (.invokevirtual index, 3)) (hf : cells ≤ R.cells ∧ slots ≤ R.slots) {w : Int32} (hw : sz = w)
    (kk : ∀ (H1 : Heap) (locs1 : List Loc), CI A D cy g s S H1 locs1 → W p l e R s m args below meth c H1 locs1 cells slots Q (F0 m (pc + 3) ls (.int w :: rest))) : W p l e R s m args below meth c H locs cells slots Q (F0 m pc ls (.ref (ga g k i) :: rest)) := by
  subst hw
  have h := he ▸ hI.1 k i hv
  refine pr_calli (As := []) (rest := rest) hC.1 hI.2 hM cw ⟨fun x U g mk q => ⟨q.1, q.2.1, va_K.moved (u := U) (U := U.calling g mk x) (Vm.Alike.refl U.vm) q.2.2⟩, va_recv hC.2 (p1 h) (ci := 0) (q0 := 0) rfl rfl, fun U hU hW => ⟨rfl, by rw [hU]; exact p1 h, va_K.moved hW.alike hC.2⟩⟩ rfl hsize rfl hr hdg hf (fun H1 locs1 hk hz hS => kk H1 locs1 ⟨hI.1.keep hk, hS⟩)
/-- an element of a list -/
theorem cr_lget (hC : CC p s m args c cc nL own D cy Ts) (hI : CI A D cy g s S H locs) (k i k2 i2 : Nat) (hv : cval g k i) {md sz : Int32} (he : ccell cy g S k i = alC md (ga g k2 i2) sz) (hv2 : cval g k2 i2) {cap : Nat} {f : Nat → Option Nat} (he2 : ccell cy g S k2 i2 = arO cy cap f) (cw : CallW R s args own RJx4a65c index yJx4a65c_get_915e3 bytes maxL ret wsJx4a65c_get_915e3 rm 0 0 1) {x : Int32} {a : Nat} (hM : PRef l (ALp D cy (ga g k i) (ga g k2 i2) md sz cap f) yJx4a65c_get_915e3 wsJx4a65c_get_915e3 rm [.ref (ga g k i), .int x] a) (hsize : ls.size = nL) (hr : (rest.map fun v => v.category).sum ≤ 8) (hdg : decode cc pc = .ok (.invokevirtual index, 3)) (hf : cells ≤ R.cells ∧ slots ≤ R.slots)
    (kk : ∀ (H1 : Heap) (locs1 : List Loc), CI A D cy g s S H1 locs1 → W p l e R s m args below meth c H1 locs1 cells slots Q (F0 m (pc + 3) ls (.ref a :: rest))) : W p l e R s m args below meth c H locs cells slots Q (F0 m pc ls (.int x :: .ref (ga g k i) :: rest)) := by
  have h := he ▸ hI.1 k i hv
  have h2 := he2 ▸ hI.1 k2 i2 hv2
  refine pr_callr (As := [.int x]) (rest := rest) hC.1 hI.2 hM cw (AL_prev hC.2 (p2 h h2)) rfl hsize rfl hr hdg hf (fun H1 locs1 hk hz hS => kk H1 locs1 ⟨hI.1.keep hk, hS⟩)
/-! contracts: readers (int, reference, nothing), writers -/
abbrev CPure (l : Launch) (D : va_G) (cy : Nat → ClassId) (g : CWt) (S : St) (y : MethodName) (ws : List Cond) (rm : Room) (av : List Value) (v : Int32) : Prop := Met l y ws rm (va_Pc av (CP D cy g S)) (va_Qi (fun (r : Int32) (_ : Unit) => r = v) (fun _ _ => True) (fun _ => False)) 0 0 (fun _ => False)
abbrev CRef (l : Launch) (D : va_G) (cy : Nat → ClassId) (g : CWt) (S : St) (y : MethodName) (ws : List Cond) (rm : Room) (av : List Value) (a : Nat) : Prop := Met l y ws rm (va_Pc av (CP D cy g S)) (va_Qr (fun (_ : Unit) => True) (fun _ ra _ => ra = a) (fun _ => False)) 0 0 (fun _ => False)
abbrev SVoid (l : Launch) (y : MethodName) (ws : List Cond) (rm : Room) (av : List Value) : Prop := Met l y ws rm (va_Pc av (fun _ => True)) (va_Qv (fun (_ : Unit) => True) (fun _ _ => True) (fun _ => False)) 0 0 (fun _ => False)
abbrev CMutV (l : Launch) (A : Nat → Prop) (D : va_G) (cy : Nat → ClassId) (g : CWt) (S : St) (y : MethodName) (ws : List Cond) (rm : Room) (av : List Value) (S' : St) : Prop := Met l y ws rm (va_Pc av (CP D cy g S)) (va_Qv (fun (_ : Unit) => True) (fun _ t => CH D cy g S' t.heap) A) 0 0 A
theorem CP_blind {av : List Value} : FrameBlind (va_Pc av (CP D cy g S)) := fun x U g' mk q => ⟨q.1, q.2.1, va_K.moved (u := U) (U := U.calling g' mk x) (Vm.Alike.refl U.vm) q.2.2⟩
theorem cr_prev (hC : CC p s m args c cc nL own D cy Ts) (hI : CI A D cy g s S H locs) (k i : Nat) (hv : cval g k i) {ci : Nat} {fs : List Value} (he : ccell cy g S k i = .inr (ci, fs)) {q : vw_C} (hc : vwCl[ci]? = some q) : PreV s H q.1 (ga g k i) (va_Pc (.ref (ga g k i) :: As) (CP D cy g S)) As := ⟨CP_blind, cr_recv hC.2 hI k i hv he hc, fun U hU hW => ⟨rfl, by rw [hU]; exact hI.1, va_K.moved hW.alike hC.2⟩⟩
theorem cr_call (hC : CC p s m args c cc nL own D cy Ts) (hI : CI A D cy g s S H locs) (hM : CPure l D cy g S y ws rm (.ref b :: As) v) (cw : CallW R s args own C index y bytes maxL ret ws rm 0 0 n) (hp : PreV s H C b (va_Pc (.ref b :: As) (CP D cy g S)) As) (hn : As.length = n) (hsize : ls.size = nL) (hst : st0 = As.reverse ++ .ref b :: rest) (hr : (rest.map fun v => v.category).sum ≤ 8) (hdg : decode cc pc = .ok (.invokevirtual index, 3)) (hf : cells ≤ R.cells ∧ slots ≤ R.slots)
    (kk : ∀ (H1 : Heap) (locs1 : List Loc), CI A D cy g s S H1 locs1 → W p l e R s m args below meth c H1 locs1 cells slots Q (F0 m (pc + 3) ls (.int v :: rest))) : W p l e R s m args below meth c H locs cells slots Q (F0 m pc ls st0) := by
  refine va_calli (va_runV (As := As) (rest := rest) hC.1 hM cw hp rfl hn hsize hst (lv_room hr) hdg hf) hI.2 (fun q _ h => h.elim) (fun q h => h.elim) (fun r u t H1 locs1 ht hvm hw hB hz1 hk1 hS => ?_)
  subst hw
  exact kk H1 locs1 ⟨hI.1.keep (fun q hq => hk1 q hq (fun h => h)), hS⟩
theorem cr_callR (hC : CC p s m args c cc nL own D cy Ts) (hI : CI A D cy g s S H locs) {a : Nat} (hM : CRef l D cy g S y ws rm (.ref b :: As) a) (cw : CallW R s args own C index y bytes maxL ret ws rm 0 0 n) (hp : PreV s H C b (va_Pc (.ref b :: As) (CP D cy g S)) As) (hn : As.length = n) (hsize : ls.size = nL) (hst : st0 = As.reverse ++ .ref b :: rest) (hr : (rest.map fun v => v.category).sum ≤ 8) (hdg : decode cc pc = .ok (.invokevirtual index, 3)) (hf : cells ≤ R.cells ∧ slots ≤ R.slots)
    (kk : ∀ (H1 : Heap) (locs1 : List Loc), CI A D cy g s S H1 locs1 → W p l e R s m args below meth c H1 locs1 cells slots Q (F0 m (pc + 3) ls (.ref a :: rest))) : W p l e R s m args below meth c H locs cells slots Q (F0 m pc ls st0) := by
  refine va_callr (va_runV (As := As) (rest := rest) hC.1 hM cw hp rfl hn hsize hst (lv_room hr) hdg hf) hI.2 (fun q _ h => h.elim) (fun q h => h.elim) (fun u ra t H1 locs1 ht hvm hw hB hz1 hk1 hS => ?_)
  subst hB
  exact kk H1 locs1 ⟨hI.1.keep (fun q hq => hk1 q hq (fun h => h)), hS⟩
theorem cr_callMV (hC : CC p s m args c cc nL own D cy Ts) (hI : CI A D cy g s S H locs) (hM : CMutV l A D cy g S y ws rm (.ref b :: As) S') (cw : CallW R s args own C index y bytes maxL ret ws rm 0 0 n) (hp : PreV s H C b (va_Pc (.ref b :: As) (CP D cy g S)) As) (hn : As.length = n) (hsize : ls.size = nL) (hst : st0 = As.reverse ++ .ref b :: rest) (hr : (rest.map fun v => v.category).sum ≤ 8) (hdg : decode cc pc = .ok (.invokevirtual index, 3)) (hf : cells ≤ R.cells ∧ slots ≤ R.slots)
    (kk : ∀ (H1 : Heap) (locs1 : List Loc), CI A D cy g s S' H1 locs1 → W p l e R s m args below meth c H1 locs1 cells slots Q (F0 m (pc + 3) ls rest)) : W p l e R s m args below meth c H locs cells slots Q (F0 m pc ls st0) := by
  refine va_callv (va_runV (As := As) (rest := rest) hC.1 hM cw hp rfl hn hsize hst (lv_room hr) hdg hf) hI.2 (fun q _ h => h) (fun q h => h) (fun u t H1 locs1 ht hvm hw hB hz1 hk1 hS => ?_)
  rw [ht] at hB
  exact kk H1 locs1 ⟨hB, hS⟩
/-- a static call of numbers -/
theorem cr_callS (hC : CC p s m args c cc nL own D cy Ts) (hI : CI A D cy g s S H locs) (hM : SPure l y ws rm As v) (cw : CallB R s args own index y bytes maxL ret ws rm 0 0 n ∧ (Cond.static y).before args s = true) (hn : As.length = n) (hsize : ls.size = nL) (hst : st0 = As.reverse ++ rest) (hr : (rest.map fun v => v.category).sum ≤ 8) (hdg : decode cc pc = .ok (.invokestatic index, 3)) (hf : cells ≤ R.cells ∧ slots ≤ R.slots)
    (kk : ∀ (H1 : Heap) (locs1 : List Loc), CI A D cy g s S H1 locs1 → W p l e R s m args below meth c H1 locs1 cells slots Q (F0 m (pc + 3) ls (.int v :: rest))) : W p l e R s m args below meth c H locs cells slots Q (F0 m pc ls st0) :=
  sr_call hC.1 hI.2 hM cw hn hsize hst hr hdg hf (fun H1 locs1 hk _ hS => kk H1 locs1 ⟨hI.1.keep hk, hS⟩)
/-- a static call that reads the world -/
theorem cr_callSP (hC : CC p s m args c cc nL own D cy Ts) (hI : CI A D cy g s S H locs) (hM : CPure l D cy g S y ws rm As v) (cw : CallB R s args own index y bytes maxL ret ws rm 0 0 n ∧ (Cond.static y).before args s = true) (hn : As.length = n) (hsize : ls.size = nL) (hst : st0 = As.reverse ++ rest) (hr : (rest.map fun v => v.category).sum ≤ 8) (hdg : decode cc pc = .ok (.invokestatic index, 3)) (hf : cells ≤ R.cells ∧ slots ≤ R.slots)
    (kk : ∀ (H1 : Heap) (locs1 : List Loc), CI A D cy g s S H1 locs1 → W p l e R s m args below meth c H1 locs1 cells slots Q (F0 m (pc + 3) ls (.int v :: rest))) : W p l e R s m args below meth c H locs cells slots Q (F0 m pc ls st0) := by
  refine va_calli (va_runS (As := As) (rest := rest) hC.1 hM cw ⟨CP_blind, fun U hU hW => ⟨rfl, by rw [hU]; exact hI.1, va_K.moved hW.alike hC.2⟩⟩ rfl hn hsize hst (lv_room hr) hdg hf) hI.2 (fun q _ h => h.elim) (fun q h => h.elim) (fun r u t H1 locs1 ht hvm hw hB hz1 hk1 hS1 => ?_)
  subst hw
  exact kk H1 locs1 ⟨hI.1.keep (fun q hq => hk1 q hq (fun h => h)), hS1⟩
/-- a check that is passed -/
theorem cr_pass (hC : CC p s m args c cc nL own D cy Ts) (hI : CI A D cy g s S H locs) (hM : SVoid l y ws rm As) (cw : CallB R s args own index y bytes maxL ret ws rm 0 0 n ∧ (Cond.static y).before args s = true) (hn : As.length = n) (hsize : ls.size = nL) (hst : st0 = As.reverse ++ rest) (hr : (rest.map fun v => v.category).sum ≤ 8) (hdg : decode cc pc = .ok (.invokestatic index, 3)) (hf : cells ≤ R.cells ∧ slots ≤ R.slots)
    (kk : ∀ (H1 : Heap) (locs1 : List Loc), CI A D cy g s S H1 locs1 → W p l e R s m args below meth c H1 locs1 cells slots Q (F0 m (pc + 3) ls rest)) : W p l e R s m args below meth c H locs cells slots Q (F0 m pc ls st0) := by
  refine va_callv (va_runS (As := As) (rest := rest) hC.1 hM cw ⟨SP_blind, fun U hU hW => ⟨rfl, trivial⟩⟩ rfl hn hsize hst (lv_room hr) hdg hf) hI.2 (fun q _ h => h.elim) (fun q h => h.elim) (fun u t H1 locs1 ht hvm hw hB hz1 hk1 hS1 => ?_)
  exact kk H1 locs1 ⟨hI.1.keep (fun q hq => hk1 q hq (fun h => h)), hS1⟩
end CR
