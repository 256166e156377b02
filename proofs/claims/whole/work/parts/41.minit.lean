/-! the reference is made -/
def mord (k : Nat) : Nat := (List.range k).countP mArr
def S0 : St := fun k _ => if k = 13 ∨ k = 20 ∨ k = 49 ∨ k = 51 ∨ k = 52 ∨ k = 62 then -1 else 0
def Si (i : Nat) : St := fun k j => if (k = 13 ∨ k = 20 ∨ k = 49 ∨ k = 51 ∨ k = 52) ∧ j < i then -1 else 0
def mpV (sz r k : Nat) : Value := if mArr k = true then (if mord k < r then .ref (sz + mord k) else .null) else .int 0
def mpF (sz r : Nat) : List Value := (List.range 55).map (mpV sz r)
def MZ (D : va_G) (cy : Nat → ClassId) (q sz r : Nat) (H : Heap) : Prop := at1 D q (.inr (9, mpF sz r)) H ∧ (∀ k, mArr k = true → mord k < r → at1 D (sz + mord k) (.inl (mTy cy k, mLen k, .inl (fun _ => 0))) H) ∧ H.size = sz + r
theorem mpF_get {sz r k : Nat} (h : k < 55) : (mpF sz r)[k]? = some (mpV sz r k) := by simp [mpF, List.getElem?_map, List.getElem?_range h]
theorem mpF_len {sz r : Nat} : (mpF sz r).length = 55 := by simp [mpF]
theorem mord_inj : ∀ k, k < 55 → mArr k = true → ∀ k', k' < 55 → mArr k' = true → mord k = mord k' → k = k' := by decide +kernel
theorem mpF_set {sz r k : Nat} (hk : mArr k = true) (ho : mord k = r) : (mpF sz r).set k (.ref (sz + r)) = mpF sz (r + 1) := by
  apply List.ext_getElem?
  intro j
  by_cases hj : j < 55
  · rw [mpF_get hj, List.getElem?_set]
    by_cases hkj : k = j
    · subst hkj
      rw [if_pos rfl, if_pos (by rw [mpF_len]; exact hj)]
      unfold mpV
      rw [if_pos hk, if_pos (by omega), ho]
    · rw [if_neg hkj, mpF_get hj]
      unfold mpV
      by_cases ha : mArr j = true
      · rw [if_pos ha, if_pos ha]
        have hne : mord j ≠ r := fun h => hkj (mord_inj k (mArr_lt hk) hk j hj ha (ho.trans h.symm))
        by_cases hl : mord j < r
        · rw [if_pos hl, if_pos (by omega)]
        · rw [if_neg hl, if_neg (by omega)]
      · rw [if_neg ha, if_neg ha]
  · rw [List.getElem?_eq_none (by rw [List.length_set, mpF_len]; omega), List.getElem?_eq_none (by rw [mpF_len]; omega)]
theorem TX8_arr : ∀ k, k < 55 → mArr k = true → mZ k = false → parseFieldDescriptor (TX8 k).2.2.1 = some (.array .int) ∧ (TX8 k).2.2.2 = true := by decide +kernel
theorem TX8_arrZ : ∀ k, k < 55 → mArr k = true → mZ k = true → parseFieldDescriptor (TX8 k).2.2.1 = some (.array .boolean) ∧ (TX8 k).2.2.2 = true := by decide +kernel
section MZS
variable {p : Program} {l : Launch} {e : Env} {R : Room} {s : State} {m : MethodId} {args : Array Value} {below : List Frame} {meth : Method} {c : Code} {H : Heap} {locs : List Loc} {cells slots : Nat} {Q : State → Prop}
variable {cc : ByteArray} {pc nL : Nat} {ls : Array Slot} {D : va_G} {cy : Nat → ClassId} {A : Nat → Prop} {Ts : List Cond} {q sz : Nat}
theorem MZ_next {k r : Nat} {H1 H2 : Heap} (hZ : MZ D cy q sz r H) (hk : mArr k = true) (ho : mord k = r) (hq : q < sz) (h1 : at1 D H.size (.inl (mTy cy k, mLen k, .inl (fun _ => 0))) H1) (o1 : ∀ z : Nat, z < H.size → H1[z]? = H[z]?) (z1 : H1.size = H.size + 1) (h2 : at1 D q (.inr (9, (mpF sz r).set k (.ref H.size))) H2) (o2 : ∀ z : Nat, z ≠ q → H2[z]? = H1[z]?) (z2 : H2.size = H1.size) : MZ D cy q sz (r + 1) H2 := by
  obtain ⟨a1, a2, a3⟩ := hZ
  refine ⟨?_, fun k' hk' ho' => ?_, by omega⟩
  · rw [a3, mpF_set hk ho] at h2
    exact h2
  · by_cases hkk : k' = k
    · subst hkk
      rw [a3] at h1
      rw [ho]
      exact h1.kept (o2 _ (by omega))
    · have hne : mord k' ≠ r := fun h => hkk (mord_inj k' (mArr_lt hk') hk' k (mArr_lt hk) hk (h.trans ho.symm))
      have h := a2 k' hk' (by omega)
      have hlt := h.lt
      exact (h.kept (o1 _ hlt)).kept (o2 _ (by omega))
theorem mi_new (hC : CC p s m args c cc nL RX8 D cy Ts) (hin : ∀ w ∈ wsX80, w ∈ Ts) (hini : meth.name = "<init>") (harr : (Cond.arrayClass .int).before args s = true) {r : Nat} (hZ : MZ D cy q sz r H) (hS : va_S A s.heap H locs) (hq : q < sz) (hAq : A q) (k : Nat) (hk : mArr k = true) (hz : mZ k = false) (ho : mord k = r) {n : Int32} (hn : ¬ n < 0) (hN : n.toNatClampNeg = mLen k) {index : Nat} (hlink : (Cond.fieldLink RX8 index "RelatorsBenchModel" (TX8 k).2.1 (TX8 k).2.2.1).before args s = true) (hcells : cells + 1 ≤ R.cells) (hslots : slots + mLen k ≤ R.slots) (hdg : decode cc pc = .ok (.newarray .int, 2)) (hdg2 : decode cc (pc + 2) = .ok (.putfield index, 3))
    (kk : ∀ (H1 : Heap) (locs1 : List Loc), MZ D cy q sz (r + 1) H1 → va_S A s.heap H1 locs1 → W p l e R s m args below meth c H1 locs1 (cells + 1) (slots + mLen k) Q (F0 m (pc + 2 + 3) ls [])) : W p l e R s m args below meth c H locs cells slots Q (F0 m pc ls [.int n, .ref q]) := by
  have hb : mLen k ≤ 48 := by
    unfold mLen
    repeat' split
    all_goals omega
  refine oi_newa hC hS harr hn hN (by omega) hcells hslots hdg (fun H1 h1 o1 z1 hS => ?_)
  refine oi_put (v := .ref H.size) (ty := .array .int) hC (at_keep hZ.1 o1) hS hAq rfl hin tyX8 tyX8_ok nmX8 k (mArr_lt hk) hlink (fun x h => by rw [TX8_own k (mArr_lt hk)] at h; exact h) (Or.inr ⟨(TX8_arr k (mArr_lt hk) hk hz).2, hini, TX8_own k (mArr_lt hk)⟩) (TX8_arr k (mArr_lt hk) hk hz).1 rfl rfl (by rw [mpF_len]; exact mArr_lt hk) hdg2 (fun H2 locs2 h2 o2 z2 hS => ?_)
  exact kk H2 _ (MZ_next hZ hk ho hq (by rw [show mTy cy k = cy 0 by unfold mTy; rw [hz]; rfl]; exact h1) o1 z1 h2 o2 z2) hS
theorem mi_newz (hC : CC p s m args c cc nL RX8 D cy Ts) (hin : ∀ w ∈ wsX80, w ∈ Ts) (hini : meth.name = "<init>") (harr : (Cond.arrayClass .boolean).before args s = true) {r : Nat} (hZ : MZ D cy q sz r H) (hS : va_S A s.heap H locs) (hq : q < sz) (hAq : A q) (k : Nat) (hk : mArr k = true) (hz : mZ k = true) (ho : mord k = r) {n : Int32} (hn : ¬ n < 0) (hN : n.toNatClampNeg = mLen k) {index : Nat} (hlink : (Cond.fieldLink RX8 index "RelatorsBenchModel" (TX8 k).2.1 (TX8 k).2.2.1).before args s = true) (hcells : cells + 1 ≤ R.cells) (hslots : slots + mLen k ≤ R.slots) (hdg : decode cc pc = .ok (.newarray .boolean, 2)) (hdg2 : decode cc (pc + 2) = .ok (.putfield index, 3))
    (kk : ∀ (H1 : Heap) (locs1 : List Loc), MZ D cy q sz (r + 1) H1 → va_S A s.heap H1 locs1 → W p l e R s m args below meth c H1 locs1 (cells + 1) (slots + mLen k) Q (F0 m (pc + 2 + 3) ls [])) : W p l e R s m args below meth c H locs cells slots Q (F0 m pc ls [.int n, .ref q]) := by
  have hb : mLen k ≤ 48 := by
    unfold mLen
    repeat' split
    all_goals omega
  refine oi_newz hC hS harr hn hN (by omega) hcells hslots hdg (fun H1 h1 o1 z1 hS => ?_)
  refine oi_put (v := .ref H.size) (ty := .array .boolean) hC (at_keep hZ.1 o1) hS hAq rfl hin tyX8 tyX8_ok nmX8 k (mArr_lt hk) hlink (fun x h => by rw [TX8_own k (mArr_lt hk)] at h; exact h) (Or.inr ⟨(TX8_arrZ k (mArr_lt hk) hk hz).2, hini, TX8_own k (mArr_lt hk)⟩) (TX8_arrZ k (mArr_lt hk) hk hz).1 rfl rfl (by rw [mpF_len]; exact mArr_lt hk) hdg2 (fun H2 locs2 h2 o2 z2 hS => ?_)
  exact kk H2 _ (MZ_next hZ hk ho hq (by rw [show mTy cy k = cy 1 by unfold mTy; rw [hz]; rfl]; exact h1) o1 z1 h2 o2 z2) hS
end MZS
theorem at_zc {D : va_G} {cA : ClassId} {n a : Nat} {f f' : Nat → Int32} {H : Heap} (h : ∀ t, t < n → f t = f' t) (h1 : at1 D a (.inl (cA, n, .inl f)) H) : at1 D a (.inl (cA, n, .inl f')) H := by
  have h2 : H[a]? = some (vp_cell cA (n, .inl f)) := h1
  show H[a]? = some (vp_cell cA (n, .inl f'))
  rw [h2, vp_cell_i, vp_cell_i, arrV_congr (fun t ht => by rw [h t ht])]
/-- what lies behind the arrays' ends does not count -/
theorem MH_ext {D : va_G} {cy : Nat → ClassId} {o : Nat} {ad : Nat → Nat} {S S' : St} {th : Int32} {H : Heap} (h : MH D cy o ad S th H) (ha : ∀ k, mArr k = true → ∀ j, j < mLen k → S k j = S' k j) (hs : ∀ k, k < 55 → mArr k = false → k ≠ 0 → S k 0 = S' k 0) : MH D cy o ad S' th H := by
  have e : mF S' th ad = mF S th ad := by
    apply List.ext_getElem?
    intro j
    by_cases hj : j < 55
    · rw [mF_get hj, mF_get hj]
      by_cases ha : mArr j = true
      · rw [mV_arr ha, mV_arr ha]
      · by_cases h0 : j = 0
        · subst h0; rfl
        · have ha : mArr j = false := by simpa using ha
          rw [mV_scal ha h0, mV_scal ha h0, hs j hj ha h0]
    · rw [List.getElem?_eq_none (by rw [mF_len]; omega), List.getElem?_eq_none (by rw [mF_len]; omega)]
  exact ⟨by rw [e]; exact h.1, fun k hk => at_zc (fun t ht => ha k hk t ht) (h.2 k hk)⟩
theorem mpF_end {sz : Nat} : mpF sz 47 = mF (Si 0) 0 (fun k => sz + mord k) := by
  apply List.ext_getElem?
  intro j
  by_cases hj : j < 55
  · rw [mF_get hj, mpF_get hj]
    congr 1
    unfold mpV
    by_cases ha : mArr j = true
    · have hl : ∀ j, j < 55 → mArr j = true → mord j < 47 := by decide +kernel
      rw [if_pos ha, if_pos (hl j hj ha), mV_arr ha]
    · rw [if_neg ha]
      by_cases h0 : j = 0
      · subst h0; rfl
      · rw [mV_scal (by simpa using ha) h0]
        simp [Si]
  · rw [List.getElem?_eq_none (by rw [mpF_len]; omega), List.getElem?_eq_none (by rw [mF_len]; omega)]
theorem irem16 : ∀ i, i < 48 → (nI i - nI i / 16 * 16 : Int32) = nI (i % 16) := by decide +kernel
theorem irem8 : ∀ i, i < 48 → (nI i - nI i / 8 * 8 : Int32) = nI (i % 8) := by decide +kernel

set_option maxHeartbeats 8000000 in
set_option maxRecDepth 100000 in
theorem qX8_init (l : Launch) (D : va_G) (cy : Nat → ClassId) (q sz : Nat) (hq : q < sz) : Met l yX8_init wsX8_init ({ frames := 1, cells := 47, slots := 860, locals := 12 } : Room) (va_Pc [.ref q] (fun U => U.heap.size = sz ∧ at1 D q (.inr (9, mpF sz 0)) U.heap ∧ KK D cy U)) (va_Qv (fun _ : Unit => True) (fun _ t => MH D cy q (fun k => sz + mord k) S0 0 t.heap) (fun z => z = q ∨ sz ≤ z)) 47 860 (fun z => z = q ∨ sz ≤ z) := by
  refine Met.ofW (cc := cX8_init) (maxL := 2) (ret := none) (by decide) rfl ?_
  intro p e s m args below meth c s₁ B hml hv
  obtain ⟨rfl, hsz, hO, hK⟩ := hv
  have hx := B.exec
  have hb := B.bytes
  have hr := B.returns
  have hts := atoms_spec (ws := wsX8_init) B.pre
  have hown : s.vm.findClass RX8 = some m.cls := findClass_of_methodNamed B.named
  have hlocks := B.notSynchronized
  have hini : meth.name = "<init>" := (name_of_methodNamed B.named B.method).1
  have hC : CC p s m _ c cX8_init 2 RX8 D cy wsX8_init := ⟨⟨hx, hb, hml, hown, hts⟩, hK⟩
  have hS : va_S (fun z => z = q ∨ sz ≤ z) s.heap s.heap [] := va_S.rf
  have hin : ∀ w ∈ wsX80, w ∈ wsX8_init := fun _ h => List.mem_cons_of_mem _ (List.mem_append_right _ (h))
  have ko1 := hts (.methodLink RX8 1 objectInit) (List.mem_cons_of_mem _ (List.mem_append_left _ (List.mem_append_left _ (List.mem_of_getElem? (i := 0) rfl))))
  have ko2 := hts (.instanceMethod objectInit) (List.mem_cons_of_mem _ (List.mem_append_left _ (List.mem_append_left _ (List.mem_of_getElem? (i := 1) rfl))))
  have ko3 := hts (.code objectInit ⟨#[0xb1]⟩ 1 none) (List.mem_cons_of_mem _ (List.mem_append_left _ (List.mem_append_left _ (List.mem_of_getElem? (i := 2) rfl))))
  have harr := hts (.arrayClass .int) (List.mem_cons_of_mem _ (List.mem_append_left _ (List.mem_append_left _ (List.mem_of_getElem? (i := 3) rfl))))
  have harrz := hts (.arrayClass .boolean) (List.mem_cons_of_mem _ (List.mem_append_left _ (List.mem_append_left _ (List.mem_of_getElem? (i := 14) rfl))))
  have k_7 := hts (.fieldLink RX8 7 "RelatorsBenchModel" "money" "[I") (List.mem_cons_of_mem _ (List.mem_append_left _ (List.mem_append_left _ (List.mem_of_getElem? (i := 4) rfl))))
  have k_13 := hts (.fieldLink RX8 13 "RelatorsBenchModel" "given" "[I") (List.mem_cons_of_mem _ (List.mem_append_left _ (List.mem_append_left _ (List.mem_of_getElem? (i := 5) rfl))))
  have k_16 := hts (.fieldLink RX8 16 "RelatorsBenchModel" "bySuits" "[I") (List.mem_cons_of_mem _ (List.mem_append_left _ (List.mem_append_left _ (List.mem_of_getElem? (i := 6) rfl))))
  have k_19 := hts (.fieldLink RX8 19 "RelatorsBenchModel" "byAwards" "[I") (List.mem_cons_of_mem _ (List.mem_append_left _ (List.mem_append_left _ (List.mem_of_getElem? (i := 7) rfl))))
  have k_22 := hts (.fieldLink RX8 22 "RelatorsBenchModel" "firmOf" "[I") (List.mem_cons_of_mem _ (List.mem_append_left _ (List.mem_append_left _ (List.mem_of_getElem? (i := 8) rfl))))
  have k_25 := hts (.fieldLink RX8 25 "RelatorsBenchModel" "factsOf" "[I") (List.mem_cons_of_mem _ (List.mem_append_left _ (List.mem_append_left _ (List.mem_of_getElem? (i := 9) rfl))))
  have k_28 := hts (.fieldLink RX8 28 "RelatorsBenchModel" "ground" "[I") (List.mem_cons_of_mem _ (List.mem_append_left _ (List.mem_append_left _ (List.mem_of_getElem? (i := 10) rfl))))
  have k_31 := hts (.fieldLink RX8 31 "RelatorsBenchModel" "looked" "[I") (List.mem_cons_of_mem _ (List.mem_append_left _ (List.mem_append_left _ (List.mem_of_getElem? (i := 11) rfl))))
  have k_34 := hts (.fieldLink RX8 34 "RelatorsBenchModel" "wrong" "[I") (List.mem_cons_of_mem _ (List.mem_append_left _ (List.mem_append_left _ (List.mem_of_getElem? (i := 12) rfl))))
  have k_37 := hts (.fieldLink RX8 37 "RelatorsBenchModel" "knownFrom" "[I") (List.mem_cons_of_mem _ (List.mem_append_left _ (List.mem_append_left _ (List.mem_of_getElem? (i := 13) rfl))))
  have k_40 := hts (.fieldLink RX8 40 "RelatorsBenchModel" "isAdmitted" "[Z") (List.mem_cons_of_mem _ (List.mem_append_left _ (List.mem_append_left _ (List.mem_of_getElem? (i := 15) rfl))))
  have k_44 := hts (.fieldLink RX8 44 "RelatorsBenchModel" "schemeOf" "[I") (List.mem_cons_of_mem _ (List.mem_append_left _ (List.mem_append_left _ (List.mem_of_getElem? (i := 16) rfl))))
  have k_47 := hts (.fieldLink RX8 47 "RelatorsBenchModel" "amount" "[I") (List.mem_cons_of_mem _ (List.mem_append_left _ (List.mem_append_left _ (List.mem_of_getElem? (i := 17) rfl))))
  have k_50 := hts (.fieldLink RX8 50 "RelatorsBenchModel" "made" "[I") (List.mem_cons_of_mem _ (List.mem_append_left _ (List.mem_append_left _ (List.mem_of_getElem? (i := 18) rfl))))
  have k_53 := hts (.fieldLink RX8 53 "RelatorsBenchModel" "paidBy" "[I") (List.mem_cons_of_mem _ (List.mem_append_left _ (List.mem_append_left _ (List.mem_of_getElem? (i := 19) rfl))))
  have k_56 := hts (.fieldLink RX8 56 "RelatorsBenchModel" "published" "[I") (List.mem_cons_of_mem _ (List.mem_append_left _ (List.mem_append_left _ (List.mem_of_getElem? (i := 20) rfl))))
  have k_59 := hts (.fieldLink RX8 59 "RelatorsBenchModel" "learned" "[I") (List.mem_cons_of_mem _ (List.mem_append_left _ (List.mem_append_left _ (List.mem_of_getElem? (i := 21) rfl))))
  have k_62 := hts (.fieldLink RX8 62 "RelatorsBenchModel" "planned" "[I") (List.mem_cons_of_mem _ (List.mem_append_left _ (List.mem_append_left _ (List.mem_of_getElem? (i := 22) rfl))))
  have k_65 := hts (.fieldLink RX8 65 "RelatorsBenchModel" "giver" "[I") (List.mem_cons_of_mem _ (List.mem_append_left _ (List.mem_append_left _ (List.mem_of_getElem? (i := 23) rfl))))
  have k_68 := hts (.fieldLink RX8 68 "RelatorsBenchModel" "taker" "[I") (List.mem_cons_of_mem _ (List.mem_append_left _ (List.mem_append_right _ (List.mem_append_left _ (List.mem_of_getElem? (i := 0) rfl)))))
  have k_71 := hts (.fieldLink RX8 71 "RelatorsBenchModel" "part" "[I") (List.mem_cons_of_mem _ (List.mem_append_left _ (List.mem_append_right _ (List.mem_append_left _ (List.mem_of_getElem? (i := 1) rfl)))))
  have k_74 := hts (.fieldLink RX8 74 "RelatorsBenchModel" "dealt" "[I") (List.mem_cons_of_mem _ (List.mem_append_left _ (List.mem_append_right _ (List.mem_append_left _ (List.mem_of_getElem? (i := 2) rfl)))))
  have k_77 := hts (.fieldLink RX8 77 "RelatorsBenchModel" "teller" "[I") (List.mem_cons_of_mem _ (List.mem_append_left _ (List.mem_append_right _ (List.mem_append_left _ (List.mem_of_getElem? (i := 3) rfl)))))
  have k_80 := hts (.fieldLink RX8 80 "RelatorsBenchModel" "against" "[I") (List.mem_cons_of_mem _ (List.mem_append_left _ (List.mem_append_right _ (List.mem_append_left _ (List.mem_of_getElem? (i := 4) rfl)))))
  have k_83 := hts (.fieldLink RX8 83 "RelatorsBenchModel" "firstFacts" "[I") (List.mem_cons_of_mem _ (List.mem_append_left _ (List.mem_append_right _ (List.mem_append_left _ (List.mem_of_getElem? (i := 5) rfl)))))
  have k_86 := hts (.fieldLink RX8 86 "RelatorsBenchModel" "facts" "[I") (List.mem_cons_of_mem _ (List.mem_append_left _ (List.mem_append_right _ (List.mem_append_left _ (List.mem_of_getElem? (i := 6) rfl)))))
  have k_89 := hts (.fieldLink RX8 89 "RelatorsBenchModel" "filed" "[I") (List.mem_cons_of_mem _ (List.mem_append_left _ (List.mem_append_right _ (List.mem_append_left _ (List.mem_of_getElem? (i := 7) rfl)))))
  have k_92 := hts (.fieldLink RX8 92 "RelatorsBenchModel" "how" "[I") (List.mem_cons_of_mem _ (List.mem_append_left _ (List.mem_append_right _ (List.mem_append_left _ (List.mem_of_getElem? (i := 8) rfl)))))
  have k_95 := hts (.fieldLink RX8 95 "RelatorsBenchModel" "wasJoined" "[Z") (List.mem_cons_of_mem _ (List.mem_append_left _ (List.mem_append_right _ (List.mem_append_left _ (List.mem_of_getElem? (i := 9) rfl)))))
  have k_98 := hts (.fieldLink RX8 98 "RelatorsBenchModel" "opens" "[I") (List.mem_cons_of_mem _ (List.mem_append_left _ (List.mem_append_right _ (List.mem_append_left _ (List.mem_of_getElem? (i := 10) rfl)))))
  have k_101 := hts (.fieldLink RX8 101 "RelatorsBenchModel" "extended" "[I") (List.mem_cons_of_mem _ (List.mem_append_left _ (List.mem_append_right _ (List.mem_append_left _ (List.mem_of_getElem? (i := 11) rfl)))))
  have k_104 := hts (.fieldLink RX8 104 "RelatorsBenchModel" "help" "[I") (List.mem_cons_of_mem _ (List.mem_append_left _ (List.mem_append_right _ (List.mem_append_left _ (List.mem_of_getElem? (i := 12) rfl)))))
  have k_107 := hts (.fieldLink RX8 107 "RelatorsBenchModel" "paid" "[I") (List.mem_cons_of_mem _ (List.mem_append_left _ (List.mem_append_right _ (List.mem_append_left _ (List.mem_of_getElem? (i := 13) rfl)))))
  have k_110 := hts (.fieldLink RX8 110 "RelatorsBenchModel" "share" "[I") (List.mem_cons_of_mem _ (List.mem_append_left _ (List.mem_append_right _ (List.mem_append_left _ (List.mem_of_getElem? (i := 14) rfl)))))
  have k_113 := hts (.fieldLink RX8 113 "RelatorsBenchModel" "hundredths" "[I") (List.mem_cons_of_mem _ (List.mem_append_left _ (List.mem_append_right _ (List.mem_append_left _ (List.mem_of_getElem? (i := 15) rfl)))))
  have k_116 := hts (.fieldLink RX8 116 "RelatorsBenchModel" "amended" "[I") (List.mem_cons_of_mem _ (List.mem_append_left _ (List.mem_append_right _ (List.mem_append_left _ (List.mem_of_getElem? (i := 16) rfl)))))
  have k_119 := hts (.fieldLink RX8 119 "RelatorsBenchModel" "amendedTo" "[I") (List.mem_cons_of_mem _ (List.mem_append_left _ (List.mem_append_right _ (List.mem_append_left _ (List.mem_of_getElem? (i := 17) rfl)))))
  have k_122 := hts (.fieldLink RX8 122 "RelatorsBenchModel" "amendedOn" "[I") (List.mem_cons_of_mem _ (List.mem_append_left _ (List.mem_append_right _ (List.mem_append_left _ (List.mem_of_getElem? (i := 18) rfl)))))
  have k_125 := hts (.fieldLink RX8 125 "RelatorsBenchModel" "own" "[I") (List.mem_cons_of_mem _ (List.mem_append_left _ (List.mem_append_right _ (List.mem_append_left _ (List.mem_of_getElem? (i := 19) rfl)))))
  have k_128 := hts (.fieldLink RX8 128 "RelatorsBenchModel" "ofOthers" "[I") (List.mem_cons_of_mem _ (List.mem_append_left _ (List.mem_append_right _ (List.mem_append_left _ (List.mem_of_getElem? (i := 20) rfl)))))
  have k_131 := hts (.fieldLink RX8 131 "RelatorsBenchModel" "awards" "[I") (List.mem_cons_of_mem _ (List.mem_append_left _ (List.mem_append_right _ (List.mem_append_left _ (List.mem_of_getElem? (i := 21) rfl)))))
  have k_134 := hts (.fieldLink RX8 134 "RelatorsBenchModel" "worksFor" "[I") (List.mem_cons_of_mem _ (List.mem_append_left _ (List.mem_append_right _ (List.mem_append_left _ (List.mem_of_getElem? (i := 22) rfl)))))
  have k_137 := hts (.fieldLink RX8 137 "RelatorsBenchModel" "wage" "[I") (List.mem_cons_of_mem _ (List.mem_append_left _ (List.mem_append_right _ (List.mem_append_left _ (List.mem_of_getElem? (i := 23) rfl)))))
  have k_140 := hts (.fieldLink RX8 140 "RelatorsBenchModel" "toldOn" "[I") (List.mem_cons_of_mem _ (List.mem_append_left _ (List.mem_append_right _ (List.mem_append_right _ (List.mem_of_getElem? (i := 0) rfl)))))
  have k_143 := hts (.fieldLink RX8 143 "RelatorsBenchModel" "firedOn" "[I") (List.mem_cons_of_mem _ (List.mem_append_left _ (List.mem_append_right _ (List.mem_append_right _ (List.mem_of_getElem? (i := 1) rfl)))))
  have k_146 := hts (.fieldLink RX8 146 "RelatorsBenchModel" "firedWage" "[I") (List.mem_cons_of_mem _ (List.mem_append_left _ (List.mem_append_right _ (List.mem_append_right _ (List.mem_of_getElem? (i := 2) rfl)))))
  have k_149 := hts (.fieldLink RX8 149 "RelatorsBenchModel" "isForTelling" "[Z") (List.mem_cons_of_mem _ (List.mem_append_left _ (List.mem_append_right _ (List.mem_append_right _ (List.mem_of_getElem? (i := 3) rfl)))))
  have hl := lv_entry ([.ref q]) (n := 2) (Nat.le_of_ble_eq_true rfl)
  rw [lg_entry_eq]
  generalize (lg_sl ([.ref q]) ++ List.replicate (2 - (lg_sl ([.ref q])).length) Slot.unset).toArray = ls at hl ⊢
  have hl : lv_has ls 2 [(0, .ref q)] := hl
  have hZ : MZ D cy q sz 0 s.heap := ⟨hO, fun k _ h => absurd h (Nat.not_lt_zero _), hsz⟩
  refine lv_aload_n hx hb dX8_init_0 rfl (lv_at hl 0 rfl) ?_
  refine oi_obj (a := q) hC ko1 ko2 ko3 hl.1 (Nat.le_of_ble_eq_true rfl) (Nat.le_of_ble_eq_true rfl) dX8_init_1 ?_
  refine lv_aload_n hx hb dX8_init_4 rfl (lv_at hl 0 rfl) ?_
  refine lv_bipush (v := 6) hx hb dX8_init_5 (by decide) ?_
  refine mi_new hC hin hini harr hZ hS hq (Or.inl rfl) 2 (by decide) (by decide) (by decide +kernel) (by decide) (by decide) k_7 (Nat.le_of_ble_eq_true rfl) (Nat.le_of_ble_eq_true rfl) dX8_init_7 dX8_init_9 (fun H locs hZ hS => ?_)
  refine lv_aload_n hx hb dX8_init_12 rfl (lv_at hl 0 rfl) ?_
  refine lv_bipush (v := 6) hx hb dX8_init_13 (by decide) ?_
  refine mi_new hC hin hini harr hZ hS hq (Or.inl rfl) 3 (by decide) (by decide) (by decide +kernel) (by decide) (by decide) k_13 (Nat.le_of_ble_eq_true rfl) (Nat.le_of_ble_eq_true rfl) dX8_init_15 dX8_init_17 (fun H locs hZ hS => ?_)
  refine lv_aload_n hx hb dX8_init_20 rfl (lv_at hl 0 rfl) ?_
  refine lv_bipush (v := 6) hx hb dX8_init_21 (by decide) ?_
  refine mi_new hC hin hini harr hZ hS hq (Or.inl rfl) 4 (by decide) (by decide) (by decide +kernel) (by decide) (by decide) k_16 (Nat.le_of_ble_eq_true rfl) (Nat.le_of_ble_eq_true rfl) dX8_init_23 dX8_init_25 (fun H locs hZ hS => ?_)
  refine lv_aload_n hx hb dX8_init_28 rfl (lv_at hl 0 rfl) ?_
  refine lv_bipush (v := 6) hx hb dX8_init_29 (by decide) ?_
  refine mi_new hC hin hini harr hZ hS hq (Or.inl rfl) 5 (by decide) (by decide) (by decide +kernel) (by decide) (by decide) k_19 (Nat.le_of_ble_eq_true rfl) (Nat.le_of_ble_eq_true rfl) dX8_init_31 dX8_init_33 (fun H locs hZ hS => ?_)
  refine lv_aload_n hx hb dX8_init_36 rfl (lv_at hl 0 rfl) ?_
  refine lv_bipush (v := 8) hx hb dX8_init_37 (by decide) ?_
  refine mi_new hC hin hini harr hZ hS hq (Or.inl rfl) 8 (by decide) (by decide) (by decide +kernel) (by decide) (by decide) k_22 (Nat.le_of_ble_eq_true rfl) (Nat.le_of_ble_eq_true rfl) dX8_init_39 dX8_init_41 (fun H locs hZ hS => ?_)
  refine lv_aload_n hx hb dX8_init_44 rfl (lv_at hl 0 rfl) ?_
  refine lv_bipush (v := 8) hx hb dX8_init_45 (by decide) ?_
  refine mi_new hC hin hini harr hZ hS hq (Or.inl rfl) 9 (by decide) (by decide) (by decide +kernel) (by decide) (by decide) k_25 (Nat.le_of_ble_eq_true rfl) (Nat.le_of_ble_eq_true rfl) dX8_init_47 dX8_init_49 (fun H locs hZ hS => ?_)
  refine lv_aload_n hx hb dX8_init_52 rfl (lv_at hl 0 rfl) ?_
  refine lv_bipush (v := 8) hx hb dX8_init_53 (by decide) ?_
  refine mi_new hC hin hini harr hZ hS hq (Or.inl rfl) 10 (by decide) (by decide) (by decide +kernel) (by decide) (by decide) k_28 (Nat.le_of_ble_eq_true rfl) (Nat.le_of_ble_eq_true rfl) dX8_init_55 dX8_init_57 (fun H locs hZ hS => ?_)
  refine lv_aload_n hx hb dX8_init_60 rfl (lv_at hl 0 rfl) ?_
  refine lv_bipush (v := 8) hx hb dX8_init_61 (by decide) ?_
  refine mi_new hC hin hini harr hZ hS hq (Or.inl rfl) 11 (by decide) (by decide) (by decide +kernel) (by decide) (by decide) k_31 (Nat.le_of_ble_eq_true rfl) (Nat.le_of_ble_eq_true rfl) dX8_init_63 dX8_init_65 (fun H locs hZ hS => ?_)
  refine lv_aload_n hx hb dX8_init_68 rfl (lv_at hl 0 rfl) ?_
  refine lv_bipush (v := 8) hx hb dX8_init_69 (by decide) ?_
  refine mi_new hC hin hini harr hZ hS hq (Or.inl rfl) 12 (by decide) (by decide) (by decide +kernel) (by decide) (by decide) k_34 (Nat.le_of_ble_eq_true rfl) (Nat.le_of_ble_eq_true rfl) dX8_init_71 dX8_init_73 (fun H locs hZ hS => ?_)
  refine lv_aload_n hx hb dX8_init_76 rfl (lv_at hl 0 rfl) ?_
  refine lv_bipush (v := 8) hx hb dX8_init_77 (by decide) ?_
  refine mi_new hC hin hini harr hZ hS hq (Or.inl rfl) 13 (by decide) (by decide) (by decide +kernel) (by decide) (by decide) k_37 (Nat.le_of_ble_eq_true rfl) (Nat.le_of_ble_eq_true rfl) dX8_init_79 dX8_init_81 (fun H locs hZ hS => ?_)
  refine lv_aload_n hx hb dX8_init_84 rfl (lv_at hl 0 rfl) ?_
  refine lv_bipush (v := 8) hx hb dX8_init_85 (by decide) ?_
  refine mi_newz hC hin hini harrz hZ hS hq (Or.inl rfl) 14 (by decide) (by decide) (by decide +kernel) (by decide) (by decide) k_40 (Nat.le_of_ble_eq_true rfl) (Nat.le_of_ble_eq_true rfl) dX8_init_87 dX8_init_89 (fun H locs hZ hS => ?_)
  refine lv_aload_n hx hb dX8_init_92 rfl (lv_at hl 0 rfl) ?_
  refine lv_bipush (v := 40) hx hb dX8_init_93 (by decide) ?_
  refine mi_new hC hin hini harr hZ hS hq (Or.inl rfl) 16 (by decide) (by decide) (by decide +kernel) (by decide) (by decide) k_44 (Nat.le_of_ble_eq_true rfl) (Nat.le_of_ble_eq_true rfl) dX8_init_95 dX8_init_97 (fun H locs hZ hS => ?_)
  refine lv_aload_n hx hb dX8_init_100 rfl (lv_at hl 0 rfl) ?_
  refine lv_bipush (v := 40) hx hb dX8_init_101 (by decide) ?_
  refine mi_new hC hin hini harr hZ hS hq (Or.inl rfl) 17 (by decide) (by decide) (by decide +kernel) (by decide) (by decide) k_47 (Nat.le_of_ble_eq_true rfl) (Nat.le_of_ble_eq_true rfl) dX8_init_103 dX8_init_105 (fun H locs hZ hS => ?_)
  refine lv_aload_n hx hb dX8_init_108 rfl (lv_at hl 0 rfl) ?_
  refine lv_bipush (v := 40) hx hb dX8_init_109 (by decide) ?_
  refine mi_new hC hin hini harr hZ hS hq (Or.inl rfl) 18 (by decide) (by decide) (by decide +kernel) (by decide) (by decide) k_50 (Nat.le_of_ble_eq_true rfl) (Nat.le_of_ble_eq_true rfl) dX8_init_111 dX8_init_113 (fun H locs hZ hS => ?_)
  refine lv_aload_n hx hb dX8_init_116 rfl (lv_at hl 0 rfl) ?_
  refine lv_bipush (v := 40) hx hb dX8_init_117 (by decide) ?_
  refine mi_new hC hin hini harr hZ hS hq (Or.inl rfl) 19 (by decide) (by decide) (by decide +kernel) (by decide) (by decide) k_53 (Nat.le_of_ble_eq_true rfl) (Nat.le_of_ble_eq_true rfl) dX8_init_119 dX8_init_121 (fun H locs hZ hS => ?_)
  refine lv_aload_n hx hb dX8_init_124 rfl (lv_at hl 0 rfl) ?_
  refine lv_bipush (v := 16) hx hb dX8_init_125 (by decide) ?_
  refine mi_new hC hin hini harr hZ hS hq (Or.inl rfl) 20 (by decide) (by decide) (by decide +kernel) (by decide) (by decide) k_56 (Nat.le_of_ble_eq_true rfl) (Nat.le_of_ble_eq_true rfl) dX8_init_127 dX8_init_129 (fun H locs hZ hS => ?_)
  refine lv_aload_n hx hb dX8_init_132 rfl (lv_at hl 0 rfl) ?_
  refine lv_bipush (v := 8) hx hb dX8_init_133 (by decide) ?_
  refine mi_new hC hin hini harr hZ hS hq (Or.inl rfl) 21 (by decide) (by decide) (by decide +kernel) (by decide) (by decide) k_59 (Nat.le_of_ble_eq_true rfl) (Nat.le_of_ble_eq_true rfl) dX8_init_135 dX8_init_137 (fun H locs hZ hS => ?_)
  refine lv_aload_n hx hb dX8_init_140 rfl (lv_at hl 0 rfl) ?_
  refine lv_bipush (v := 8) hx hb dX8_init_141 (by decide) ?_
  refine mi_new hC hin hini harr hZ hS hq (Or.inl rfl) 22 (by decide) (by decide) (by decide +kernel) (by decide) (by decide) k_62 (Nat.le_of_ble_eq_true rfl) (Nat.le_of_ble_eq_true rfl) dX8_init_143 dX8_init_145 (fun H locs hZ hS => ?_)
  refine lv_aload_n hx hb dX8_init_148 rfl (lv_at hl 0 rfl) ?_
  refine lv_bipush (v := 20) hx hb dX8_init_149 (by decide) ?_
  refine mi_new hC hin hini harr hZ hS hq (Or.inl rfl) 24 (by decide) (by decide) (by decide +kernel) (by decide) (by decide) k_65 (Nat.le_of_ble_eq_true rfl) (Nat.le_of_ble_eq_true rfl) dX8_init_151 dX8_init_153 (fun H locs hZ hS => ?_)
  refine lv_aload_n hx hb dX8_init_156 rfl (lv_at hl 0 rfl) ?_
  refine lv_bipush (v := 20) hx hb dX8_init_157 (by decide) ?_
  refine mi_new hC hin hini harr hZ hS hq (Or.inl rfl) 25 (by decide) (by decide) (by decide +kernel) (by decide) (by decide) k_68 (Nat.le_of_ble_eq_true rfl) (Nat.le_of_ble_eq_true rfl) dX8_init_159 dX8_init_161 (fun H locs hZ hS => ?_)
  refine lv_aload_n hx hb dX8_init_164 rfl (lv_at hl 0 rfl) ?_
  refine lv_bipush (v := 20) hx hb dX8_init_165 (by decide) ?_
  refine mi_new hC hin hini harr hZ hS hq (Or.inl rfl) 26 (by decide) (by decide) (by decide +kernel) (by decide) (by decide) k_71 (Nat.le_of_ble_eq_true rfl) (Nat.le_of_ble_eq_true rfl) dX8_init_167 dX8_init_169 (fun H locs hZ hS => ?_)
  refine lv_aload_n hx hb dX8_init_172 rfl (lv_at hl 0 rfl) ?_
  refine lv_bipush (v := 20) hx hb dX8_init_173 (by decide) ?_
  refine mi_new hC hin hini harr hZ hS hq (Or.inl rfl) 27 (by decide) (by decide) (by decide +kernel) (by decide) (by decide) k_74 (Nat.le_of_ble_eq_true rfl) (Nat.le_of_ble_eq_true rfl) dX8_init_175 dX8_init_177 (fun H locs hZ hS => ?_)
  refine lv_aload_n hx hb dX8_init_180 rfl (lv_at hl 0 rfl) ?_
  refine lv_bipush (v := 12) hx hb dX8_init_181 (by decide) ?_
  refine mi_new hC hin hini harr hZ hS hq (Or.inl rfl) 29 (by decide) (by decide) (by decide +kernel) (by decide) (by decide) k_77 (Nat.le_of_ble_eq_true rfl) (Nat.le_of_ble_eq_true rfl) dX8_init_183 dX8_init_185 (fun H locs hZ hS => ?_)
  refine lv_aload_n hx hb dX8_init_188 rfl (lv_at hl 0 rfl) ?_
  refine lv_bipush (v := 12) hx hb dX8_init_189 (by decide) ?_
  refine mi_new hC hin hini harr hZ hS hq (Or.inl rfl) 30 (by decide) (by decide) (by decide +kernel) (by decide) (by decide) k_80 (Nat.le_of_ble_eq_true rfl) (Nat.le_of_ble_eq_true rfl) dX8_init_191 dX8_init_193 (fun H locs hZ hS => ?_)
  refine lv_aload_n hx hb dX8_init_196 rfl (lv_at hl 0 rfl) ?_
  refine lv_bipush (v := 12) hx hb dX8_init_197 (by decide) ?_
  refine mi_new hC hin hini harr hZ hS hq (Or.inl rfl) 31 (by decide) (by decide) (by decide +kernel) (by decide) (by decide) k_83 (Nat.le_of_ble_eq_true rfl) (Nat.le_of_ble_eq_true rfl) dX8_init_199 dX8_init_201 (fun H locs hZ hS => ?_)
  refine lv_aload_n hx hb dX8_init_204 rfl (lv_at hl 0 rfl) ?_
  refine lv_bipush (v := 12) hx hb dX8_init_205 (by decide) ?_
  refine mi_new hC hin hini harr hZ hS hq (Or.inl rfl) 32 (by decide) (by decide) (by decide +kernel) (by decide) (by decide) k_86 (Nat.le_of_ble_eq_true rfl) (Nat.le_of_ble_eq_true rfl) dX8_init_207 dX8_init_209 (fun H locs hZ hS => ?_)
  refine lv_aload_n hx hb dX8_init_212 rfl (lv_at hl 0 rfl) ?_
  refine lv_bipush (v := 12) hx hb dX8_init_213 (by decide) ?_
  refine mi_new hC hin hini harr hZ hS hq (Or.inl rfl) 33 (by decide) (by decide) (by decide +kernel) (by decide) (by decide) k_89 (Nat.le_of_ble_eq_true rfl) (Nat.le_of_ble_eq_true rfl) dX8_init_215 dX8_init_217 (fun H locs hZ hS => ?_)
  refine lv_aload_n hx hb dX8_init_220 rfl (lv_at hl 0 rfl) ?_
  refine lv_bipush (v := 12) hx hb dX8_init_221 (by decide) ?_
  refine mi_new hC hin hini harr hZ hS hq (Or.inl rfl) 34 (by decide) (by decide) (by decide +kernel) (by decide) (by decide) k_92 (Nat.le_of_ble_eq_true rfl) (Nat.le_of_ble_eq_true rfl) dX8_init_223 dX8_init_225 (fun H locs hZ hS => ?_)
  refine lv_aload_n hx hb dX8_init_228 rfl (lv_at hl 0 rfl) ?_
  refine lv_bipush (v := 12) hx hb dX8_init_229 (by decide) ?_
  refine mi_newz hC hin hini harrz hZ hS hq (Or.inl rfl) 35 (by decide) (by decide) (by decide +kernel) (by decide) (by decide) k_95 (Nat.le_of_ble_eq_true rfl) (Nat.le_of_ble_eq_true rfl) dX8_init_231 dX8_init_233 (fun H locs hZ hS => ?_)
  refine lv_aload_n hx hb dX8_init_236 rfl (lv_at hl 0 rfl) ?_
  refine lv_bipush (v := 12) hx hb dX8_init_237 (by decide) ?_
  refine mi_new hC hin hini harr hZ hS hq (Or.inl rfl) 36 (by decide) (by decide) (by decide +kernel) (by decide) (by decide) k_98 (Nat.le_of_ble_eq_true rfl) (Nat.le_of_ble_eq_true rfl) dX8_init_239 dX8_init_241 (fun H locs hZ hS => ?_)
  refine lv_aload_n hx hb dX8_init_244 rfl (lv_at hl 0 rfl) ?_
  refine lv_bipush (v := 12) hx hb dX8_init_245 (by decide) ?_
  refine mi_new hC hin hini harr hZ hS hq (Or.inl rfl) 37 (by decide) (by decide) (by decide +kernel) (by decide) (by decide) k_101 (Nat.le_of_ble_eq_true rfl) (Nat.le_of_ble_eq_true rfl) dX8_init_247 dX8_init_249 (fun H locs hZ hS => ?_)
  refine lv_aload_n hx hb dX8_init_252 rfl (lv_at hl 0 rfl) ?_
  refine lv_bipush (v := 12) hx hb dX8_init_253 (by decide) ?_
  refine mi_new hC hin hini harr hZ hS hq (Or.inl rfl) 38 (by decide) (by decide) (by decide +kernel) (by decide) (by decide) k_104 (Nat.le_of_ble_eq_true rfl) (Nat.le_of_ble_eq_true rfl) dX8_init_255 dX8_init_257 (fun H locs hZ hS => ?_)
  refine lv_aload_n hx hb dX8_init_260 rfl (lv_at hl 0 rfl) ?_
  refine lv_bipush (v := 12) hx hb dX8_init_261 (by decide) ?_
  refine mi_new hC hin hini harr hZ hS hq (Or.inl rfl) 39 (by decide) (by decide) (by decide +kernel) (by decide) (by decide) k_107 (Nat.le_of_ble_eq_true rfl) (Nat.le_of_ble_eq_true rfl) dX8_init_263 dX8_init_265 (fun H locs hZ hS => ?_)
  refine lv_aload_n hx hb dX8_init_268 rfl (lv_at hl 0 rfl) ?_
  refine lv_bipush (v := 12) hx hb dX8_init_269 (by decide) ?_
  refine mi_new hC hin hini harr hZ hS hq (Or.inl rfl) 40 (by decide) (by decide) (by decide +kernel) (by decide) (by decide) k_110 (Nat.le_of_ble_eq_true rfl) (Nat.le_of_ble_eq_true rfl) dX8_init_271 dX8_init_273 (fun H locs hZ hS => ?_)
  refine lv_aload_n hx hb dX8_init_276 rfl (lv_at hl 0 rfl) ?_
  refine lv_bipush (v := 12) hx hb dX8_init_277 (by decide) ?_
  refine mi_new hC hin hini harr hZ hS hq (Or.inl rfl) 41 (by decide) (by decide) (by decide +kernel) (by decide) (by decide) k_113 (Nat.le_of_ble_eq_true rfl) (Nat.le_of_ble_eq_true rfl) dX8_init_279 dX8_init_281 (fun H locs hZ hS => ?_)
  refine lv_aload_n hx hb dX8_init_284 rfl (lv_at hl 0 rfl) ?_
  refine lv_bipush (v := 40) hx hb dX8_init_285 (by decide) ?_
  refine mi_new hC hin hini harr hZ hS hq (Or.inl rfl) 43 (by decide) (by decide) (by decide +kernel) (by decide) (by decide) k_116 (Nat.le_of_ble_eq_true rfl) (Nat.le_of_ble_eq_true rfl) dX8_init_287 dX8_init_289 (fun H locs hZ hS => ?_)
  refine lv_aload_n hx hb dX8_init_292 rfl (lv_at hl 0 rfl) ?_
  refine lv_bipush (v := 40) hx hb dX8_init_293 (by decide) ?_
  refine mi_new hC hin hini harr hZ hS hq (Or.inl rfl) 44 (by decide) (by decide) (by decide +kernel) (by decide) (by decide) k_119 (Nat.le_of_ble_eq_true rfl) (Nat.le_of_ble_eq_true rfl) dX8_init_295 dX8_init_297 (fun H locs hZ hS => ?_)
  refine lv_aload_n hx hb dX8_init_300 rfl (lv_at hl 0 rfl) ?_
  refine lv_bipush (v := 40) hx hb dX8_init_301 (by decide) ?_
  refine mi_new hC hin hini harr hZ hS hq (Or.inl rfl) 45 (by decide) (by decide) (by decide +kernel) (by decide) (by decide) k_122 (Nat.le_of_ble_eq_true rfl) (Nat.le_of_ble_eq_true rfl) dX8_init_303 dX8_init_305 (fun H locs hZ hS => ?_)
  refine lv_aload_n hx hb dX8_init_308 rfl (lv_at hl 0 rfl) ?_
  refine lv_bipush (v := 8) hx hb dX8_init_309 (by decide) ?_
  refine mi_new hC hin hini harr hZ hS hq (Or.inl rfl) 46 (by decide) (by decide) (by decide +kernel) (by decide) (by decide) k_125 (Nat.le_of_ble_eq_true rfl) (Nat.le_of_ble_eq_true rfl) dX8_init_311 dX8_init_313 (fun H locs hZ hS => ?_)
  refine lv_aload_n hx hb dX8_init_316 rfl (lv_at hl 0 rfl) ?_
  refine lv_bipush (v := 8) hx hb dX8_init_317 (by decide) ?_
  refine mi_new hC hin hini harr hZ hS hq (Or.inl rfl) 47 (by decide) (by decide) (by decide +kernel) (by decide) (by decide) k_128 (Nat.le_of_ble_eq_true rfl) (Nat.le_of_ble_eq_true rfl) dX8_init_319 dX8_init_321 (fun H locs hZ hS => ?_)
  refine lv_aload_n hx hb dX8_init_324 rfl (lv_at hl 0 rfl) ?_
  refine lv_bipush (v := 8) hx hb dX8_init_325 (by decide) ?_
  refine mi_new hC hin hini harr hZ hS hq (Or.inl rfl) 48 (by decide) (by decide) (by decide +kernel) (by decide) (by decide) k_131 (Nat.le_of_ble_eq_true rfl) (Nat.le_of_ble_eq_true rfl) dX8_init_327 dX8_init_329 (fun H locs hZ hS => ?_)
  refine lv_aload_n hx hb dX8_init_332 rfl (lv_at hl 0 rfl) ?_
  refine lv_bipush (v := 8) hx hb dX8_init_333 (by decide) ?_
  refine mi_new hC hin hini harr hZ hS hq (Or.inl rfl) 49 (by decide) (by decide) (by decide +kernel) (by decide) (by decide) k_134 (Nat.le_of_ble_eq_true rfl) (Nat.le_of_ble_eq_true rfl) dX8_init_335 dX8_init_337 (fun H locs hZ hS => ?_)
  refine lv_aload_n hx hb dX8_init_340 rfl (lv_at hl 0 rfl) ?_
  refine lv_bipush (v := 8) hx hb dX8_init_341 (by decide) ?_
  refine mi_new hC hin hini harr hZ hS hq (Or.inl rfl) 50 (by decide) (by decide) (by decide +kernel) (by decide) (by decide) k_137 (Nat.le_of_ble_eq_true rfl) (Nat.le_of_ble_eq_true rfl) dX8_init_343 dX8_init_345 (fun H locs hZ hS => ?_)
  refine lv_aload_n hx hb dX8_init_348 rfl (lv_at hl 0 rfl) ?_
  refine lv_bipush (v := 48) hx hb dX8_init_349 (by decide) ?_
  refine mi_new hC hin hini harr hZ hS hq (Or.inl rfl) 51 (by decide) (by decide) (by decide +kernel) (by decide) (by decide) k_140 (Nat.le_of_ble_eq_true rfl) (Nat.le_of_ble_eq_true rfl) dX8_init_351 dX8_init_353 (fun H locs hZ hS => ?_)
  refine lv_aload_n hx hb dX8_init_356 rfl (lv_at hl 0 rfl) ?_
  refine lv_bipush (v := 48) hx hb dX8_init_357 (by decide) ?_
  refine mi_new hC hin hini harr hZ hS hq (Or.inl rfl) 52 (by decide) (by decide) (by decide +kernel) (by decide) (by decide) k_143 (Nat.le_of_ble_eq_true rfl) (Nat.le_of_ble_eq_true rfl) dX8_init_359 dX8_init_361 (fun H locs hZ hS => ?_)
  refine lv_aload_n hx hb dX8_init_364 rfl (lv_at hl 0 rfl) ?_
  refine lv_bipush (v := 48) hx hb dX8_init_365 (by decide) ?_
  refine mi_new hC hin hini harr hZ hS hq (Or.inl rfl) 53 (by decide) (by decide) (by decide +kernel) (by decide) (by decide) k_146 (Nat.le_of_ble_eq_true rfl) (Nat.le_of_ble_eq_true rfl) dX8_init_367 dX8_init_369 (fun H locs hZ hS => ?_)
  refine lv_aload_n hx hb dX8_init_372 rfl (lv_at hl 0 rfl) ?_
  refine lv_bipush (v := 48) hx hb dX8_init_373 (by decide) ?_
  refine mi_newz hC hin hini harrz hZ hS hq (Or.inl rfl) 54 (by decide) (by decide) (by decide +kernel) (by decide) (by decide) k_149 (Nat.le_of_ble_eq_true rfl) (Nat.le_of_ble_eq_true rfl) dX8_init_375 dX8_init_377 (fun H locs hZ hS => ?_)
  have hM : MH D cy q (fun k => sz + mord k) (Si 0) 0 H := ⟨by rw [← mpF_end]; exact hZ.1, fun k hk => at_zc (fun t _ => by simp [Si]) (hZ.2.1 k hk ((by decide +kernel : ∀ j, j < 55 → mArr j = true → mord j < 47) k (mArr_lt hk) hk))⟩
  have hL : ML (fun z => z = q ∨ sz ≤ z) q (fun k => sz + mord k) := ⟨Or.inl rfl, fun k hk => ⟨Or.inr (Nat.le_add_right _ _), by show sz + mord k ≠ q; omega, fun k' hk' he => mord_inj k (mArr_lt hk) hk k' (mArr_lt hk') hk' (by have : sz + mord k = sz + mord k' := he; omega)⟩⟩
  have hMC : MC p s m _ c cX8_init 2 D cy wsX8_init := hC
  refine lv_iconst (v := 0) hx hb dX8_init_380 (by decide) ?_
  refine lv_istore_n (lv' := [(1, .int 0), (0, .ref q)]) hx hb dX8_init_381 rfl hl (by decide) rfl (fun ls hl => ?_)
  refine w_loop (σ := Unit) 48 382 (fun i z H locs ls => MI (fun z => z = q ∨ sz ≤ z) D cy q (fun k => sz + mord k) s (Si i) 0 H locs ∧ lv_has ls 2 [(1, .int (nI i)), (0, .ref q)]) ?_ () ⟨⟨hM, hS⟩, hl⟩
  intro i z H locs ls ⟨hI, hl⟩ hi ih
  refine lv_iload_n hx hb dX8_init_382 rfl (lv_at hl 0 rfl) ?_
  refine lv_bipush (v := 48) hx hb dX8_init_383 (by decide) ?_
  refine lv_icmp_ge (tgt := 438) hx hb dX8_init_385 (by decide) (fun c => ?_) (fun c => ?_)
  · obtain rfl : i = 48 := w_exit (by decide : (48 : Int32) = nI 48) hi (by decide) c
    have hE : MH D cy q (fun k => sz + mord k) S0 0 H := MH_ext hI.1 (fun k hk j hj => by
      have hb : mLen k ≤ 48 := by
        unfold mLen
        repeat' split
        all_goals omega
      have hk62 : k ≠ 62 := fun h => absurd (mArr_lt hk) (by omega)
      simp [Si, S0, hk62, show j < 48 by omega]) (fun k hk ha h0 => by
      have hk13 : k ≠ 13 := by rintro rfl; exact absurd ha (by decide)
      have hk20 : k ≠ 20 := by rintro rfl; exact absurd ha (by decide)
      have hk49 : k ≠ 49 := by rintro rfl; exact absurd ha (by decide)
      have hk51 : k ≠ 51 := by rintro rfl; exact absurd ha (by decide)
      have hk52 : k ≠ 52 := by rintro rfl; exact absurd ha (by decide)
      simp [Si, S0, hk13, hk20, hk49, hk51, hk52, show k ≠ 62 by omega])
    exact W.vret hx hb hr (fun t9 ht9 hW9 => ⟨⟨(), rfl, trivial, by show MH D cy q _ _ _ t9.heap; rw [ht9]; exact hE⟩, hI.2.F ht9⟩) hI.2.2.2 dX8_init_438
  · have hlt : i < 48 := w_in (by decide : (48 : Int32) = nI 48) hi (by decide) c
    refine lv_aload_n hx hb dX8_init_388 rfl (lv_at hl 1 rfl) ?_
    refine mr_ga hMC hin hI 51 (by decide) k_140 dX8_init_389 ?_
    refine lv_iload_n hx hb dX8_init_392 rfl (lv_at hl 0 rfl) ?_
    refine lv_iconst (v := (-1)) hx hb dX8_init_393 (by decide) ?_
    refine mr_st hMC hL hI 51 (by decide) (by decide) (vp_in_nI hlt (by decide)) (n := i) (nI_clamp (by omega)) dX8_init_394 (fun H locs hI => ?_)
    refine lv_aload_n hx hb dX8_init_395 rfl (lv_at hl 1 rfl) ?_
    refine mr_ga hMC hin hI 52 (by decide) k_143 dX8_init_396 ?_
    refine lv_iload_n hx hb dX8_init_399 rfl (lv_at hl 0 rfl) ?_
    refine lv_iconst (v := (-1)) hx hb dX8_init_400 (by decide) ?_
    refine mr_st hMC hL hI 52 (by decide) (by decide) (vp_in_nI hlt (by decide)) (n := i) (nI_clamp (by omega)) dX8_init_401 (fun H locs hI => ?_)
    refine lv_aload_n hx hb dX8_init_402 rfl (lv_at hl 1 rfl) ?_
    refine mr_ga hMC hin hI 20 (by decide) k_56 dX8_init_403 ?_
    refine lv_iload_n hx hb dX8_init_406 rfl (lv_at hl 0 rfl) ?_
    refine lv_bipush (v := 16) hx hb dX8_init_407 (by decide) ?_
    refine lv_irem hx hb dX8_init_409 (by decide) ?_
    rw [irem16 i hlt]
    refine lv_iconst (v := (-1)) hx hb dX8_init_410 (by decide) ?_
    refine mr_st hMC hL hI 20 (by decide) (by decide) (vp_in_nI (Nat.mod_lt _ (by decide)) (by decide)) (n := i % 16) (nI_clamp (by omega)) dX8_init_411 (fun H locs hI => ?_)
    refine lv_aload_n hx hb dX8_init_412 rfl (lv_at hl 1 rfl) ?_
    refine mr_ga hMC hin hI 49 (by decide) k_134 dX8_init_413 ?_
    refine lv_iload_n hx hb dX8_init_416 rfl (lv_at hl 0 rfl) ?_
    refine lv_bipush (v := 8) hx hb dX8_init_417 (by decide) ?_
    refine lv_irem hx hb dX8_init_419 (by decide) ?_
    rw [irem8 i hlt]
    refine lv_iconst (v := (-1)) hx hb dX8_init_420 (by decide) ?_
    refine mr_st hMC hL hI 49 (by decide) (by decide) (vp_in_nI (Nat.mod_lt _ (by decide)) (by decide)) (n := i % 8) (nI_clamp (by omega)) dX8_init_421 (fun H locs hI => ?_)
    refine lv_aload_n hx hb dX8_init_422 rfl (lv_at hl 1 rfl) ?_
    refine mr_ga hMC hin hI 13 (by decide) k_37 dX8_init_423 ?_
    refine lv_iload_n hx hb dX8_init_426 rfl (lv_at hl 0 rfl) ?_
    refine lv_bipush (v := 8) hx hb dX8_init_427 (by decide) ?_
    refine lv_irem hx hb dX8_init_429 (by decide) ?_
    rw [irem8 i hlt]
    refine lv_iconst (v := (-1)) hx hb dX8_init_430 (by decide) ?_
    refine mr_st hMC hL hI 13 (by decide) (by decide) (vp_in_nI (Nat.mod_lt _ (by decide)) (by decide)) (n := i % 8) (nI_clamp (by omega)) dX8_init_431 (fun H locs hI => ?_)
    have hI : MI (fun z => z = q ∨ sz ≤ z) D cy q (fun k => sz + mord k) s (Si (i + 1)) 0 H locs := ⟨MH_ext hI.1 (fun k hk j hj => ?_) (fun k hk ha h0 => ?_), hI.2⟩
    · refine lv_iinc (v := (nI (i + 1))) (lv' := [(1, .int (nI (i + 1))), (0, .ref q)]) hx hb dX8_init_432 hl (k := 0) rfl (nI_1 i) (by decide) rfl (fun ls hl => ?_)
      refine lv_goto (tgt := 382) hx hb dX8_init_435 (by decide) ?_
      exact ih () _ _ ls hlt ⟨hI, hl⟩
    · rw [up_app, up_app, up_app, up_app, up_app]
      unfold Si
      by_cases h13 : k = 13
      · subst h13
        have hj : j < 8 := hj
        by_cases hji : j = i % 8
        · simp [hji]; omega
        · simp [hji, show (j < i) ↔ (j < i + 1) by omega]
      · by_cases h49 : k = 49
        · subst h49
          have hj : j < 8 := hj
          by_cases hji : j = i % 8
          · simp [hji]; omega
          · simp [hji, show (j < i) ↔ (j < i + 1) by omega]
        · by_cases h20 : k = 20
          · subst h20
            have hj : j < 16 := hj
            by_cases hji : j = i % 16
            · simp [hji]; omega
            · simp [hji, show (j < i) ↔ (j < i + 1) by omega]
          · by_cases h51 : k = 51
            · subst h51
              by_cases hji : j = i
              · simp [hji]
              · simp [hji, show (j < i) ↔ (j < i + 1) by omega]
            · by_cases h52 : k = 52
              · subst h52
                by_cases hji : j = i
                · simp [hji]
                · simp [hji, show (j < i) ↔ (j < i + 1) by omega]
              · simp [h13, h49, h20, h51, h52]
    · have hk13 : k ≠ 13 := by rintro rfl; exact absurd ha (by decide)
      have hk20 : k ≠ 20 := by rintro rfl; exact absurd ha (by decide)
      have hk49 : k ≠ 49 := by rintro rfl; exact absurd ha (by decide)
      have hk51 : k ≠ 51 := by rintro rfl; exact absurd ha (by decide)
      have hk52 : k ≠ 52 := by rintro rfl; exact absurd ha (by decide)
      rw [up_ne hk13, up_ne hk49, up_ne hk20, up_ne hk52, up_ne hk51]
      simp [Si, hk13, hk20, hk49, hk51, hk52]
