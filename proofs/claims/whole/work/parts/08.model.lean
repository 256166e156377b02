/-! THE REFERENCE's objects: S k i is place i of its field k (a scalar's place is 0); th its field thrown -/
def mScal (k : Nat) : Bool := decide (k = 0) || decide (k = 1) || decide (k = 6) || decide (k = 7) || decide (k = 15) || decide (k = 23) || decide (k = 28) || decide (k = 42)
def mArr (k : Nat) : Bool := decide (k < 55) && !mScal k
def mZ (k : Nat) : Bool := decide (k = 14) || decide (k = 35) || decide (k = 54)
def mLen (k : Nat) : Nat := if k < 6 then 6 else if k < 15 then 8 else if k < 20 then 40 else if k < 21 then 16 else if k < 23 then 8 else if k < 28 then 20 else if k < 42 then 12 else if k < 46 then 40 else if k < 51 then 8 else 48
def mV (S : St) (th : Int32) (ad : Nat → Nat) (k : Nat) : Value := if k = 0 then .int th else if mArr k then .ref (ad k) else .int (S k 0)
def mF (S : St) (th : Int32) (ad : Nat → Nat) : List Value := (List.range 55).map (mV S th ad)
def mTy (cy : Nat → ClassId) (k : Nat) : ClassId := if mZ k then cy 1 else cy 0
def MH (D : va_G) (cy : Nat → ClassId) (o : Nat) (ad : Nat → Nat) (S : St) (th : Int32) (H : Heap) : Prop := at1 D o (.inr (9, mF S th ad)) H ∧ ∀ k, mArr k = true → at1 D (ad k) (.inl (mTy cy k, mLen k, .inl (S k))) H
/-- the cells are apart, and may be written -/
def ML (A : Nat → Prop) (o : Nat) (ad : Nat → Nat) : Prop := A o ∧ ∀ k, mArr k = true → A (ad k) ∧ ad k ≠ o ∧ ∀ k', mArr k' = true → ad k = ad k' → k = k'
def MI (A : Nat → Prop) (D : va_G) (cy : Nat → ClassId) (o : Nat) (ad : Nat → Nat) (s : State) (S : St) (th : Int32) (H : Heap) (locs : List Loc) : Prop := MH D cy o ad S th H ∧ va_S A s.heap H locs
/-- what a method of the reference finds -/
def MP (D : va_G) (cy : Nat → ClassId) (o : Nat) (ad : Nat → Nat) (S : St) (th : Int32) : State → Prop := fun U => MH D cy o ad S th U.heap ∧ KK D cy U
theorem mF_get {S : St} {th : Int32} {ad : Nat → Nat} {k : Nat} (h : k < 55) : (mF S th ad)[k]? = some (mV S th ad k) := by
  simp [mF, List.getElem?_map, List.getElem?_range h]
theorem mF_len {S : St} {th : Int32} {ad : Nat → Nat} : (mF S th ad).length = 55 := by simp [mF]
theorem mArr_lt {k : Nat} (h : mArr k = true) : k < 55 := by
  simp only [mArr, Bool.and_eq_true, decide_eq_true_eq] at h
  exact h.1
theorem mArr_0 {k : Nat} (h : mArr k = true) : k ≠ 0 := by
  rintro rfl
  exact absurd h (by decide)
theorem mV_arr {S : St} {th : Int32} {ad : Nat → Nat} {k : Nat} (h : mArr k = true) : mV S th ad k = .ref (ad k) := by
  unfold mV
  rw [if_neg (mArr_0 h), if_pos h]
theorem mV_scal {S : St} {th : Int32} {ad : Nat → Nat} {k : Nat} (h : mArr k = false) (h0 : k ≠ 0) : mV S th ad k = .int (S k 0) := by
  unfold mV
  rw [if_neg h0, if_neg (by rw [h]; decide)]
theorem TX8_own : ∀ k, k < 55 → (TX8 k).1 = "RelatorsBenchModel" := by decide +kernel
theorem TX8_scal : ∀ k, k < 55 → mArr k = false → parseFieldDescriptor (TX8 k).2.2.1 = some .int ∧ (TX8 k).2.2.2 = false := by decide +kernel
/-- a scalar is set -/
theorem mF_set {S : St} {th v : Int32} {ad : Nat → Nat} {k : Nat} (h : mArr k = false) (h0 : k ≠ 0) : (mF S th ad).set k (.int v) = mF (up S k 0 v) th ad := by
  apply List.ext_getElem?
  intro j
  by_cases hj : j < 55
  · rw [mF_get hj, List.getElem?_set]
    by_cases hkj : k = j
    · subst hkj
      rw [if_pos rfl, if_pos (by rw [mF_len]; exact hj), mV_scal h h0, up_at]
    · rw [if_neg hkj, mF_get hj]
      unfold mV
      rw [up_ne (Ne.symm hkj)]
  · rw [List.getElem?_eq_none (by rw [List.length_set, mF_len]; omega), List.getElem?_eq_none (by rw [mF_len]; omega)]
theorem mF_setT {S : St} {th v : Int32} {ad : Nat → Nat} : (mF S th ad).set 0 (.int v) = mF S v ad := by
  apply List.ext_getElem?
  intro j
  by_cases hj : j < 55
  · rw [mF_get hj, List.getElem?_set]
    by_cases hkj : 0 = j
    · subst hkj
      rw [if_pos rfl, if_pos (by rw [mF_len]; exact hj)]
      rfl
    · rw [if_neg hkj, mF_get hj]
      unfold mV
      rw [if_neg (Ne.symm hkj), if_neg (Ne.symm hkj)]
  · rw [List.getElem?_eq_none (by rw [List.length_set, mF_len]; omega), List.getElem?_eq_none (by rw [mF_len]; omega)]
theorem mF_arr {S : St} {th v : Int32} {ad : Nat → Nat} {k i : Nat} (h : mArr k = true) : mF (up S k i v) th ad = mF S th ad := by
  apply List.ext_getElem?
  intro j
  by_cases hj : j < 55
  · rw [mF_get hj, mF_get hj]
    unfold mV
    by_cases hkj : j = k
    · subst hkj
      rw [if_pos h, if_pos h]
    · rw [up_ne hkj]
  · rw [List.getElem?_eq_none (by rw [mF_len]; omega), List.getElem?_eq_none (by rw [mF_len]; omega)]
theorem MH.keep {D : va_G} {cy : Nat → ClassId} {o : Nat} {ad : Nat → Nat} {S : St} {th : Int32} {H H1 : Heap} (h : MH D cy o ad S th H) (hk : ∀ q : Nat, q < H.size → H1[q]? = H[q]?) : MH D cy o ad S th H1 := ⟨at_keep h.1 hk, fun k hk1 => at_keep (h.2 k hk1) hk⟩
/-- only what the reference's fields say counts -/
theorem MH.congr {D : va_G} {cy : Nat → ClassId} {o : Nat} {ad : Nat → Nat} {S S' : St} {th : Int32} {H : Heap} (h : MH D cy o ad S th H) (hS : ∀ k, k < 55 → S' k = S k) : MH D cy o ad S' th H := by
  have e : mF S' th ad = mF S th ad := by
    apply List.ext_getElem?
    intro j
    by_cases hj : j < 55
    · rw [mF_get hj, mF_get hj]
      unfold mV
      rw [hS j hj]
    · rw [List.getElem?_eq_none (by rw [mF_len]; omega), List.getElem?_eq_none (by rw [mF_len]; omega)]
  refine ⟨by rw [e]; exact h.1, fun k hk => ?_⟩
  rw [hS k (mArr_lt hk)]
  exact h.2 k hk
theorem MP_blind {D : va_G} {cy : Nat → ClassId} {o : Nat} {ad : Nat → Nat} {S : St} {th : Int32} {av : List Value} : FrameBlind (va_Pc av (MP D cy o ad S th)) := fun a U g mk q => ⟨q.1, q.2.1, va_K.moved (u := U) (U := U.calling g mk a) (Vm.Alike.refl U.vm) q.2.2⟩
section MR
variable {p : Program} {l : Launch} {e : Env} {R : Room} {s : State} {m : MethodId} {args : Array Value} {below : List Frame} {meth : Method} {c : Code} {H : Heap} {locs : List Loc} {cells slots : Nat} {Q : State → Prop}
variable {cc : ByteArray} {pc : Nat} {ls : Array Slot} {rest : List Value} {D : va_G} {cy : Nat → ClassId} {o : Nat} {ad : Nat → Nat} {S : St} {th : Int32} {A : Nat → Prop} {Ts : List Cond}
/-- what a body of the reference has at hand -/
def MC (p : Program) (s : State) (m : MethodId) (args : Array Value) (c : Code) (cc : ByteArray) (nL : Nat) (D : va_G) (cy : Nat → ClassId) (Ts : List Cond) : Prop := (p.tables.exec = Jvm.exec ∧ c.code = cc ∧ c.maxLocals = nL ∧ s.vm.findClass RX8 = some m.cls ∧ ∀ w ∈ Ts, w.before args s = true) ∧ KK D cy s
theorem mr_ga {nL : Nat} (hC : MC p s m args c cc nL D cy Ts) (hin : ∀ w ∈ wsX80, w ∈ Ts) (hI : MI A D cy o ad s S th H locs) (k : Nat) (hk : mArr k = true) {index : Nat} (hlink : (Cond.fieldLink RX8 index "RelatorsBenchModel" (TX8 k).2.1 (TX8 k).2.2.1).before args s = true) (hdg : decode cc pc = .ok (.getfield index, 3))
    (kk : W p l e R s m args below meth c H locs cells slots Q (F0 m (pc + 3) ls (.ref (ad k) :: rest))) : W p l e R s m args below meth c H locs cells slots Q (F0 m pc ls (.ref o :: rest)) :=
  ww_get hC.1.1 hC.1.2.1 hC.1.2.2.2.2 hin hC.1.2.2.2.1 hC.2 hI.1.1 rfl k (mArr_lt hk) hlink (fun x h => by rw [TX8_own k (mArr_lt hk)] at h; exact h) (by rw [mF_get (mArr_lt hk), mV_arr hk]) hdg kk
theorem mr_gi {nL : Nat} (hC : MC p s m args c cc nL D cy Ts) (hin : ∀ w ∈ wsX80, w ∈ Ts) (hI : MI A D cy o ad s S th H locs) (k : Nat) (hk : k < 55) (hk0 : mArr k = false) (hk1 : k ≠ 0) {index : Nat} (hlink : (Cond.fieldLink RX8 index "RelatorsBenchModel" (TX8 k).2.1 (TX8 k).2.2.1).before args s = true) {v : Int32} (hv : S k 0 = v) (hdg : decode cc pc = .ok (.getfield index, 3))
    (kk : W p l e R s m args below meth c H locs cells slots Q (F0 m (pc + 3) ls (.int v :: rest))) : W p l e R s m args below meth c H locs cells slots Q (F0 m pc ls (.ref o :: rest)) :=
  ww_get hC.1.1 hC.1.2.1 hC.1.2.2.2.2 hin hC.1.2.2.2.1 hC.2 hI.1.1 rfl k hk hlink (fun x h => by rw [TX8_own k hk] at h; exact h) (by rw [mF_get hk, mV_scal hk0 hk1, hv]) hdg kk
theorem mr_gt {nL : Nat} (hC : MC p s m args c cc nL D cy Ts) (hin : ∀ w ∈ wsX80, w ∈ Ts) (hI : MI A D cy o ad s S th H locs) {index : Nat} (hlink : (Cond.fieldLink RX8 index "RelatorsBenchModel" "thrown" "I").before args s = true) (hdg : decode cc pc = .ok (.getfield index, 3))
    (kk : W p l e R s m args below meth c H locs cells slots Q (F0 m (pc + 3) ls (.int th :: rest))) : W p l e R s m args below meth c H locs cells slots Q (F0 m pc ls (.ref o :: rest)) :=
  ww_get (v := .int th) hC.1.1 hC.1.2.1 hC.1.2.2.2.2 hin hC.1.2.2.2.1 hC.2 hI.1.1 rfl 0 (by decide) hlink (fun x h => h) (by rw [mF_get (by decide)]; rfl) hdg kk
theorem mr_pi {nL : Nat} (hC : MC p s m args c cc nL D cy Ts) (hin : ∀ w ∈ wsX80, w ∈ Ts) (hL : ML A o ad) (hI : MI A D cy o ad s S th H locs) (k : Nat) (hk : k < 55) (hk0 : mArr k = false) (hk1 : k ≠ 0) {v : Int32} {index : Nat} (hlink : (Cond.fieldLink RX8 index "RelatorsBenchModel" (TX8 k).2.1 (TX8 k).2.2.1).before args s = true) (hdg : decode cc pc = .ok (.putfield index, 3))
    (kk : ∀ (H1 : Heap) (locs1 : List Loc), MI A D cy o ad s (up S k 0 v) th H1 locs1 → W p l e R s m args below meth c H1 locs1 cells slots Q (F0 m (pc + 3) ls rest)) : W p l e R s m args below meth c H locs cells slots Q (F0 m pc ls (.int v :: .ref o :: rest)) := by
  refine ww_put (v := .int v) (ty := .int) hC.1.1 hC.1.2.1 hC.1.2.2.2.2 hin tyX8 tyX8_ok nmX8 hC.1.2.2.2.1 hC.2 hI.1.1 rfl k hk hlink (fun x h => by rw [TX8_own k hk] at h; exact h) (TX8_scal k hk hk0).2 (TX8_scal k hk hk0).1 rfl rfl (by rw [mF_len]; exact hk) hdg (fun H1 j h1 z oq => ?_)
  refine kk H1 _ ⟨⟨by rw [← mF_set hk0 hk1]; exact h1, fun k' hk' => ?_⟩, S_put j hI.2 z oq hL.1⟩
  have hne : k' ≠ k := fun h => by subst h; rw [hk0] at hk'; cases hk'
  rw [up_ne hne]
  exact (hI.1.2 k' hk').kept (oq _ (hL.2 k' hk').2.1)
theorem mr_pt {nL : Nat} (hC : MC p s m args c cc nL D cy Ts) (hin : ∀ w ∈ wsX80, w ∈ Ts) (hL : ML A o ad) (hI : MI A D cy o ad s S th H locs) {v : Int32} {index : Nat} (hlink : (Cond.fieldLink RX8 index "RelatorsBenchModel" "thrown" "I").before args s = true) (hdg : decode cc pc = .ok (.putfield index, 3))
    (kk : ∀ (H1 : Heap) (locs1 : List Loc), MI A D cy o ad s S v H1 locs1 → W p l e R s m args below meth c H1 locs1 cells slots Q (F0 m (pc + 3) ls rest)) : W p l e R s m args below meth c H locs cells slots Q (F0 m pc ls (.int v :: .ref o :: rest)) := by
  refine ww_put (v := .int v) (ty := .int) hC.1.1 hC.1.2.1 hC.1.2.2.2.2 hin tyX8 tyX8_ok nmX8 hC.1.2.2.2.1 hC.2 hI.1.1 rfl 0 (by decide) hlink (fun x h => h) rfl (by decide +kernel) rfl rfl (by rw [mF_len]; decide) hdg (fun H1 j h1 z oq => ?_)
  refine kk H1 _ ⟨⟨by rw [← mF_setT (th := th)]; exact h1, fun k' hk' => ?_⟩, S_put j hI.2 z oq hL.1⟩
  exact (hI.1.2 k' hk').kept (oq _ (hL.2 k' hk').2.1)
theorem mr_ld {nL : Nat} (hC : MC p s m args c cc nL D cy Ts) (hI : MI A D cy o ad s S th H locs) (k : Nat) (hk : mArr k = true) (hz : mZ k = false) {i : Int32} (hin : vp_in i (mLen k)) {v : Int32} (hv : S k (ix i) = v) (hdg : decode cc pc = .ok (.iaload, 1))
    (kk : W p l e R s m args below meth c H locs cells slots Q (F0 m (pc + 1) ls (.int v :: rest))) : W p l e R s m args below meth c H locs cells slots Q (F0 m pc ls (.int i :: .ref (ad k) :: rest)) := by
  have h := hI.1.2 k hk
  rw [show mTy cy k = cy 0 by unfold mTy; rw [hz]; rfl] at h
  exact ww_iald hC.1.1 hC.1.2.1 hC.2 0 h rfl hin hv hdg kk
theorem mr_ldz {nL : Nat} (hC : MC p s m args c cc nL D cy Ts) (hI : MI A D cy o ad s S th H locs) (k : Nat) (hk : mArr k = true) (hz : mZ k = true) {i : Int32} (hin : vp_in i (mLen k)) {v : Int32} (hv : S k (ix i) = v) (hdg : decode cc pc = .ok (.baload, 1))
    (kk : W p l e R s m args below meth c H locs cells slots Q (F0 m (pc + 1) ls (.int v :: rest))) : W p l e R s m args below meth c H locs cells slots Q (F0 m pc ls (.int i :: .ref (ad k) :: rest)) := by
  have h := hI.1.2 k hk
  rw [show mTy cy k = cy 1 by unfold mTy; rw [hz]; rfl] at h
  exact ww_zald hC.1.1 hC.1.2.1 hC.2 1 h rfl hin hv hdg kk
/-- row k after a store -/
theorem MH_row {H1 : Heap} {k i : Nat} {v : Int32} (hL : ML A o ad) (hM : MH D cy o ad S th H) (hk : mArr k = true) (h1 : at1 D (ad k) (.inl (mTy cy k, mLen k, .inl (upd (S k) i v))) H1) (oq : ∀ q : Nat, q ≠ ad k → H1[q]? = H[q]?) : MH D cy o ad (up S k i v) th H1 := by
  refine ⟨by rw [mF_arr hk]; exact hM.1.kept (oq _ (Ne.symm (hL.2 k hk).2.1)), fun k' hk' => ?_⟩
  by_cases hkk : k' = k
  · subst hkk
    rw [up_row]
    exact h1
  · rw [up_ne hkk]
    exact (hM.2 k' hk').kept (oq _ (fun h => hkk ((hL.2 k' hk').2.2 k hk h)))
theorem mr_st {nL : Nat} (hC : MC p s m args c cc nL D cy Ts) (hL : ML A o ad) (hI : MI A D cy o ad s S th H locs) (k : Nat) (hk : mArr k = true) (hz : mZ k = false) {i v : Int32} (hin : vp_in i (mLen k)) {n : Nat} (hn : ix i = n) (hdg : decode cc pc = .ok (.iastore, 1))
    (kk : ∀ (H1 : Heap) (locs1 : List Loc), MI A D cy o ad s (up S k n v) th H1 locs1 → W p l e R s m args below meth c H1 locs1 cells slots Q (F0 m (pc + 1) ls rest)) : W p l e R s m args below meth c H locs cells slots Q (F0 m pc ls (.int v :: .int i :: .ref (ad k) :: rest)) := by
  subst hn
  have h := hI.1.2 k hk
  have et : mTy cy k = cy 0 := by unfold mTy; rw [hz]; rfl
  rw [et] at h
  refine ww_iast hC.1.1 hC.1.2.1 hC.2 0 h rfl hin hdg (fun H1 j h1 z oq => ?_)
  exact kk H1 _ ⟨MH_row hL hI.1 hk (by rw [et]; exact h1) oq, S_put j hI.2 z oq (hL.2 k hk).1⟩
theorem mr_stz {nL : Nat} (hC : MC p s m args c cc nL D cy Ts) (hL : ML A o ad) (hI : MI A D cy o ad s S th H locs) (k : Nat) (hk : mArr k = true) (hz : mZ k = true) {i v : Int32} (hin : vp_in i (mLen k)) {n : Nat} (hn : ix i = n) (hb : vp_nar .boolean v = v) (hdg : decode cc pc = .ok (.bastore, 1))
    (kk : ∀ (H1 : Heap) (locs1 : List Loc), MI A D cy o ad s (up S k n v) th H1 locs1 → W p l e R s m args below meth c H1 locs1 cells slots Q (F0 m (pc + 1) ls rest)) : W p l e R s m args below meth c H locs cells slots Q (F0 m pc ls (.int v :: .int i :: .ref (ad k) :: rest)) := by
  subst hn
  have h := hI.1.2 k hk
  have et : mTy cy k = cy 1 := by unfold mTy; rw [hz]; rfl
  rw [et] at h
  refine ww_zast hC.1.1 hC.1.2.1 hC.2 1 h rfl hin hdg (fun H1 j h1 z oq => ?_)
  rw [hb] at h1
  exact kk H1 _ ⟨MH_row hL hI.1 hk (by rw [et]; exact h1) oq, S_put j hI.2 z oq (hL.2 k hk).1⟩
/-- a method that reads alone -/
abbrev MPure (l : Launch) (D : va_G) (cy : Nat → ClassId) (o : Nat) (ad : Nat → Nat) (S : St) (th : Int32) (y : MethodName) (ws : List Cond) (rm : Room) (As : List Value) (v : Int32) : Prop := Met l y ws rm (va_Pc (.ref o :: As) (MP D cy o ad S th)) (va_Qi (fun (r : Int32) (_ : Unit) => r = v) (fun _ _ => True) (fun _ => False)) 0 0 (fun _ => False)
/-- a method that writes: the answer and the state behind it -/
abbrev MMut (l : Launch) (A : Nat → Prop) (D : va_G) (cy : Nat → ClassId) (o : Nat) (ad : Nat → Nat) (S : St) (th : Int32) (y : MethodName) (ws : List Cond) (rm : Room) (As : List Value) (v : Int32) (S' : St) (th' : Int32) : Prop := Met l y ws rm (va_Pc (.ref o :: As) (MP D cy o ad S th)) (va_Qi (fun (r : Int32) (_ : Unit) => r = v) (fun _ t => MH D cy o ad S' th' t.heap) A) 0 0 A
abbrev MMutV (l : Launch) (A : Nat → Prop) (D : va_G) (cy : Nat → ClassId) (o : Nat) (ad : Nat → Nat) (S : St) (th : Int32) (y : MethodName) (ws : List Cond) (rm : Room) (As : List Value) (S' : St) (th' : Int32) : Prop := Met l y ws rm (va_Pc (.ref o :: As) (MP D cy o ad S th)) (va_Qv (fun (_ : Unit) => True) (fun _ t => MH D cy o ad S' th' t.heap) A) 0 0 A
/-- a static method of numbers -/
abbrev SPure (l : Launch) (y : MethodName) (ws : List Cond) (rm : Room) (As : List Value) (v : Int32) : Prop := Met l y ws rm (va_Pc As (fun _ => True)) (va_Qi (fun (r : Int32) (_ : Unit) => r = v) (fun _ _ => True) (fun _ => False)) 0 0 (fun _ => False)
variable {y : MethodName} {ws : List Cond} {rm : Room} {As st0 : List Value} {bytes : ByteArray} {maxL nL n index : Nat} {ret : Option FieldType} {v : Int32}
theorem mr_recv (hC : MC p s m args c cc nL D cy Ts) (hI : MI A D cy o ad s S th H locs) : ∃ cell : Cell, H[o]? = some cell ∧ cell.vm.isStatics = false ∧ s.vm.findClass RX8 = some cell.cls := va_recv hC.2 (p1 hI.1.1) (ci := 9) (q0 := 0) rfl rfl
theorem mr_prev (hC : MC p s m args c cc nL D cy Ts) (hI : MI A D cy o ad s S th H locs) : PreV s H RX8 o (va_Pc (.ref o :: As) (MP D cy o ad S th)) As := ⟨MP_blind, mr_recv hC hI, fun U hU hW => ⟨rfl, by rw [hU]; exact hI.1, va_K.moved hW.alike hC.2⟩⟩
theorem mr_call (hC : MC p s m args c cc nL D cy Ts) (hI : MI A D cy o ad s S th H locs) (hM : MPure l D cy o ad S th y ws rm As v) (cw : CallW R s args RX8 RX8 index y bytes maxL ret ws rm 0 0 n) (hn : As.length = n) (hsize : ls.size = nL) (hst : st0 = As.reverse ++ .ref o :: rest) (hr : (rest.map fun v => v.category).sum ≤ 8) (hdg : decode cc pc = .ok (.invokevirtual index, 3)) (hf : cells ≤ R.cells ∧ slots ≤ R.slots)
    (kk : ∀ (H1 : Heap) (locs1 : List Loc), MI A D cy o ad s S th H1 locs1 → W p l e R s m args below meth c H1 locs1 cells slots Q (F0 m (pc + 3) ls (.int v :: rest))) : W p l e R s m args below meth c H locs cells slots Q (F0 m pc ls st0) := by
  refine va_calli (va_runV (As := As) (rest := rest) hC.1 hM cw (mr_prev hC hI) rfl hn hsize hst (lv_room hr) hdg hf) hI.2 (fun q _ h => h.elim) (fun q h => h.elim) (fun r u t H1 locs1 ht hvm hw hB hz1 hk1 hS => ?_)
  subst hw
  exact kk H1 locs1 ⟨hI.1.keep (fun q hq => hk1 q hq (fun h => h)), hS⟩
theorem mr_callM (hC : MC p s m args c cc nL D cy Ts) (hI : MI A D cy o ad s S th H locs) {S' : St} {th' : Int32} (hM : MMut l A D cy o ad S th y ws rm As v S' th') (cw : CallW R s args RX8 RX8 index y bytes maxL ret ws rm 0 0 n) (hn : As.length = n) (hsize : ls.size = nL) (hst : st0 = As.reverse ++ .ref o :: rest) (hr : (rest.map fun v => v.category).sum ≤ 8) (hdg : decode cc pc = .ok (.invokevirtual index, 3)) (hf : cells ≤ R.cells ∧ slots ≤ R.slots)
    (kk : ∀ (H1 : Heap) (locs1 : List Loc), MI A D cy o ad s S' th' H1 locs1 → W p l e R s m args below meth c H1 locs1 cells slots Q (F0 m (pc + 3) ls (.int v :: rest))) : W p l e R s m args below meth c H locs cells slots Q (F0 m pc ls st0) := by
  refine va_calli (va_runV (As := As) (rest := rest) hC.1 hM cw (mr_prev hC hI) rfl hn hsize hst (lv_room hr) hdg hf) hI.2 (fun q _ h => h) (fun q h => h) (fun r u t H1 locs1 ht hvm hw hB hz1 hk1 hS => ?_)
  subst hw
  rw [ht] at hB
  exact kk H1 locs1 ⟨hB, hS⟩
theorem mr_callMV (hC : MC p s m args c cc nL D cy Ts) (hI : MI A D cy o ad s S th H locs) {S' : St} {th' : Int32} (hM : MMutV l A D cy o ad S th y ws rm As S' th') (cw : CallW R s args RX8 RX8 index y bytes maxL ret ws rm 0 0 n) (hn : As.length = n) (hsize : ls.size = nL) (hst : st0 = As.reverse ++ .ref o :: rest) (hr : (rest.map fun v => v.category).sum ≤ 8) (hdg : decode cc pc = .ok (.invokevirtual index, 3)) (hf : cells ≤ R.cells ∧ slots ≤ R.slots)
    (kk : ∀ (H1 : Heap) (locs1 : List Loc), MI A D cy o ad s S' th' H1 locs1 → W p l e R s m args below meth c H1 locs1 cells slots Q (F0 m (pc + 3) ls rest)) : W p l e R s m args below meth c H locs cells slots Q (F0 m pc ls st0) := by
  refine va_callv (va_runV (As := As) (rest := rest) hC.1 hM cw (mr_prev hC hI) rfl hn hsize hst (lv_room hr) hdg hf) hI.2 (fun q _ h => h) (fun q h => h) (fun u t H1 locs1 ht hvm hw hB hz1 hk1 hS => ?_)
  rw [ht] at hB
  exact kk H1 locs1 ⟨hB, hS⟩
theorem SP_blind {av : List Value} : FrameBlind (va_Pc av (fun _ => True)) := fun a U g mk q => ⟨q.1, trivial⟩
/-- a static call of numbers, whatever the caller holds of the heap -/
theorem sr_call {own : String} (hC : p.tables.exec = Jvm.exec ∧ c.code = cc ∧ c.maxLocals = nL ∧ s.vm.findClass own = some m.cls ∧ ∀ w ∈ Ts, w.before args s = true) (hS : va_S A s.heap H locs) (hM : SPure l y ws rm As v) (cw : CallB R s args own index y bytes maxL ret ws rm 0 0 n ∧ (Cond.static y).before args s = true) (hn : As.length = n) (hsize : ls.size = nL) (hst : st0 = As.reverse ++ rest) (hr : (rest.map fun v => v.category).sum ≤ 8) (hdg : decode cc pc = .ok (.invokestatic index, 3)) (hf : cells ≤ R.cells ∧ slots ≤ R.slots)
    (kk : ∀ (H1 : Heap) (locs1 : List Loc), (∀ q : Nat, q < H.size → H1[q]? = H[q]?) → H.size ≤ H1.size → va_S A s.heap H1 locs1 → W p l e R s m args below meth c H1 locs1 cells slots Q (F0 m (pc + 3) ls (.int v :: rest))) : W p l e R s m args below meth c H locs cells slots Q (F0 m pc ls st0) := by
  refine va_calli (va_runS (As := As) (rest := rest) hC hM cw ⟨SP_blind, fun U hU hW => ⟨rfl, trivial⟩⟩ rfl hn hsize hst (lv_room hr) hdg hf) hS (fun q _ h => h.elim) (fun q h => h.elim) (fun r u t H1 locs1 ht hvm hw hB hz1 hk1 hS1 => ?_)
  subst hw
  exact kk H1 locs1 (fun q hq => hk1 q hq (fun h => h)) hz1 hS1
theorem mr_callS (hC : MC p s m args c cc nL D cy Ts) (hI : MI A D cy o ad s S th H locs) (hM : SPure l y ws rm As v) (cw : CallB R s args RX8 index y bytes maxL ret ws rm 0 0 n ∧ (Cond.static y).before args s = true) (hn : As.length = n) (hsize : ls.size = nL) (hst : st0 = As.reverse ++ rest) (hr : (rest.map fun v => v.category).sum ≤ 8) (hdg : decode cc pc = .ok (.invokestatic index, 3)) (hf : cells ≤ R.cells ∧ slots ≤ R.slots)
    (kk : ∀ (H1 : Heap) (locs1 : List Loc), MI A D cy o ad s S th H1 locs1 → W p l e R s m args below meth c H1 locs1 cells slots Q (F0 m (pc + 3) ls (.int v :: rest))) : W p l e R s m args below meth c H locs cells slots Q (F0 m pc ls st0) :=
  sr_call hC.1 hI.2 hM cw hn hsize hst hr hdg hf (fun H1 locs1 hk _ hS => kk H1 locs1 ⟨hI.1.keep hk, hS⟩)
end MR
