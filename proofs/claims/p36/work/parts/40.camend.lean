/-! addFacts, amend -/
theorem ss_addF {cy : Nat → ClassId} {g : CWt} {S : St} (hV : CT g S) (hQ : KInv S) (k : Nat) (hk : k < nsu S) (more day : Int32) : ∀ k2 i, cval g k2 i → ¬ (k2 = 9 ∧ i = k) → ccell cy g (up (up (up (up S 32 k ((S 32 k) ||| more)) 65 (64 * k + npp S k) ((S 32 k) ||| more)) 66 (64 * k + npp S k) day) 67 k ((S 67 k) + 1)) k2 i = ccell cy g (up S 32 k ((S 32 k) ||| more)) k2 i := by
  intro k2 i hv hx
  match k2, hv, hx with
  | 0, _, _ => rfl
  | 1, _, _ => rfl
  | 2, _, _ => rfl
  | 3, _, _ => rfl
  | 4, _, _ => rfl
  | 5, _, _ => rfl
  | 6, _, _ => rfl
  | 7, _, _ => rfl
  | 8, _, _ => rfl
  | 9, hv, hx =>
    have hi : ¬ i = k := fun h => hx ⟨rfl, h⟩
    simp [ccell, up_app, hi]
  | 10, _, _ => rfl
  | 11, hv, _ =>
    have h1 : i / 64 < nsu S := hV.1.2.2.2 ▸ hv.1
    have h2 := hv.2
    rw [hV.2 _ h1] at h2
    have hi : ¬ i = 64 * k + npp S k := by
      intro h
      have hb := hQ.b67 k
      rw [show i / 64 = k by omega] at h2
      omega
    simp [ccell, up_app, hi]
  | 12, hv, _ => 
    show alC _ _ ((up (up (up (up S 32 k ((S 32 k) ||| more)) 65 (64 * k + npp S k) ((S 32 k) ||| more)) 66 (64 * k + npp S k) day) 67 k ((S 67 k) + 1)) (cid i) 0) = alC _ _ ((up S 32 k ((S 32 k) ||| more)) (cid i) 0)
    rw [up_ne (cid_ne (by decide)), up_ne (cid_ne (by decide)), up_ne (cid_ne (by decide))]
  | 13, _, _ => rfl
  | 14, _, _ => rfl
  | 15, _, _ => rfl
  | 16, _, _ => rfl
  | 17, _, _ => rfl
  | 18, _, _ => rfl
  | x + 19, hv, _ => exact hv.elim
set_option maxHeartbeats 4000000 in
set_option maxRecDepth 100000 in
theorem qX5_addFacts (l : Launch) (A : Nat → Prop) (n0 : Nat) (hA : ∀ q, n0 ≤ q → A q) (D : va_G) (cy : Nat → ClassId) (g : CWt) (hL : CL A g) (S : St) (e0 mi : Nat) (hV : CV e0 g S) (k : Nat) (hk : k < nsu S) (more day : Int32) (hn40 : npp S k ≤ 40) : Met l yX5_addFacts wsX5_addFacts ({ frames := 7, cells := 2, slots := 152, locals := 171 } : Room) (va_Pc [.ref (ga g 8 k), .int more, .int day] (fun U => CP D cy g S U ∧ JX A D cy e0 mi U U.heap ∧ JO U ∧ n0 ≤ U.heap.size)) (va_Qv (fun u : Nat × Int32 × Nat × Nat × (Nat → Option Nat) => CL A (gx4 g k (npp S k) u.1 u.2.1 u.2.2.1 u.2.2.2.1 u.2.2.2.2) ∧ CG e0 (gx4 g k (npp S k) u.1 u.2.1 u.2.2.1 u.2.2.2.1 u.2.2.2.2) ∧ CT (gx4 g k (npp S k) u.1 u.2.1 u.2.2.1 u.2.2.2.1 u.2.2.2.2) (up (up (up (up S 32 k ((S 32 k) ||| more)) 65 (64 * k + npp S k) ((S 32 k) ||| more)) 66 (64 * k + npp S k) day) 67 k ((S 67 k) + 1))) (fun u t9 => CH D cy (gx4 g k (npp S k) u.1 u.2.1 u.2.2.1 u.2.2.2.1 u.2.2.2.2) (up (up (up (up S 32 k ((S 32 k) ||| more)) 65 (64 * k + npp S k) ((S 32 k) ||| more)) 66 (64 * k + npp S k) day) 67 k ((S 67 k) + 1)) t9.heap) A) 2 152 A := by
  refine Met.ofW (cc := cX5_addFacts) (maxL := 3) (ret := none) (by decide) rfl ?_
  intro p e s m args below meth c s₁ B hml hv
  obtain ⟨rfl, ⟨hM, hK⟩, hJX, hW, hn0⟩ := hv
  have hx := B.exec
  have hb := B.bytes
  have hr := B.returns
  have hts := atoms_spec (ws := wsX5_addFacts) B.pre
  have hown : s.vm.findClass RX5 = some m.cls := findClass_of_methodNamed B.named
  have hlocks := B.notSynchronized
  have hC : CC p s m _ c cX5_addFacts 3 RX5 D cy wsX5_addFacts := ⟨⟨hx, hb, hml, hown, hts⟩, hK⟩
  have hI : CI A D cy g s S s.heap [] := ⟨hM, va_S.rf⟩
  have hT := hV.2.1
  have hN := hV.2.2.1
  have hQ := hV.2.2.2
  have hb7 := hN.b7
  have hb15 := hN.b15
  have hb23 := hN.b23
  have hb28 := hN.b28
  have hb42 := hN.b42
  have hb64 := hQ.b64
  have k_56 := hts (.fieldLink RX5 56 "RelatorsBench$Suit" "facts" "I") (List.mem_cons_of_mem _ (List.mem_append_left _ (List.mem_append_left _ (List.mem_append_left _ (List.mem_append_left _ (List.mem_of_getElem? (i := 0) rfl))))))
  have hinX5 : ∀ w ∈ wsX50, w ∈ wsX5_addFacts := fun _ h => List.mem_cons_of_mem _ (List.mem_append_left _ (List.mem_append_left _ (List.mem_append_right _ (h))))
  have k_12 := hts (.fieldLink RX5 12 "RelatorsBench$Suit" "papers" "Ljava/util/ArrayList;") (List.mem_cons_of_mem _ (List.mem_append_left _ (List.mem_append_left _ (List.mem_append_left _ (List.mem_append_left _ (List.mem_of_getElem? (i := 1) rfl))))))
  have hinX3 : ∀ w ∈ wsX30, w ∈ wsX5_addFacts := fun _ h => List.mem_cons_of_mem _ (List.mem_append_left _ (List.mem_append_right _ (h)))
  have hl := lv_entry ([.ref (ga g 8 k), .int more, .int day]) (n := 3) (Nat.le_of_ble_eq_true rfl)
  rw [lg_entry_eq]
  generalize (lg_sl ([.ref (ga g 8 k), .int more, .int day]) ++ List.replicate (3 - (lg_sl ([.ref (ga g 8 k), .int more, .int day])).length) Slot.unset).toArray = ls at hl ⊢
  have hl : lv_has ls 3 [(0, .ref (ga g 8 k)), (1, .int more), (2, .int day)] := hl
  refine lv_aload_n hx hb dX5_addFacts_0 rfl (lv_at hl 0 rfl) ?_
  refine lv_dup hx hb dX5_addFacts_1 rfl ?_
  refine cr_get (ci := 6) hC hI 8 k (hT.v8 hk) rfl rfl hinX5 6 (by decide) k_56 (fun _ h => h) (v := .int (S 32 k)) rfl dX5_addFacts_2 ?_
  refine lv_iload_n hx hb dX5_addFacts_5 rfl (lv_at hl 1 rfl) ?_
  refine lv_ior hx hb dX5_addFacts_6 ?_
  refine cr_put (ci := 6) (v := .int ((S 32 k) ||| more)) (ty := .int) (S' := (up S 32 k ((S 32 k) ||| more))) hC hL hI 8 k (hT.v8 hk) rfl rfl hinX5 tyX5 tyX5_ok nmX5 6 (by decide) k_56 (fun _ h => h) rfl (by decide +kernel) rfl rfl (Nat.le_of_ble_eq_true rfl) (cn_32 k _) (cu_32 k _) dX5_addFacts_7 (fun H locs hI => ?_)
  refine lv_aload_n hx hb dX5_addFacts_10 rfl (lv_at hl 0 rfl) ?_
  refine cr_get (ci := 6) hC hI 8 k (hT.v8 hk) rfl rfl hinX5 5 (by decide) k_12 (fun _ h => h) (v := .ref (ga g 9 k)) rfl dX5_addFacts_11 ?_
  obtain ⟨qn, a_qn⟩ : ∃ z, z = H.size := ⟨_, rfl⟩
  have hfr : ∀ k i, cval g k i → ga g k i ≠ qn := fun k i hv h => absurd (hI.1 k i hv).lt (by show ¬ ga g k i < H.size; rw [h, a_qn]; exact Nat.lt_irrefl _)
  have hAq : A qn := by rw [a_qn]; exact hA _ (Nat.le_trans hn0 hI.2.1)
  refine oi_new (ci := 4) (fs := [.int 0, .int 0]) hC hI.2 hinX3 tyX3 tyX3_ok (hts (.classLink RX5 62 RX3) (List.mem_cons_of_mem _ (List.mem_append_left _ (List.mem_append_left _ (List.mem_append_left _ (List.mem_append_left _ (List.mem_of_getElem? (i := 2) rfl))))))) (hts (.instantiable RX3 2) (List.mem_cons_of_mem _ (List.mem_append_left _ (List.mem_append_left _ (List.mem_append_left _ (List.mem_append_left _ (List.mem_of_getElem? (i := 3) rfl))))))) (hts (.initialized RX3) (List.mem_cons_of_mem _ (List.mem_append_left _ (List.mem_append_left _ (List.mem_append_left _ (List.mem_append_left _ (List.mem_of_getElem? (i := 4) rfl))))))) rfl (by decide +kernel) (Nat.le_of_ble_eq_true rfl) (Nat.le_of_ble_eq_true rfl) dX5_addFacts_14 (fun H2 hO hq hz hS => ?_)
  have hI : CI A D cy g s (up S 32 k ((S 32 k) ||| more)) H2 locs := ⟨hI.1.keep hq, hS⟩
  rw [← a_qn] at hO ⊢
  refine lv_dup hx hb dX5_addFacts_17 rfl ?_
  refine lv_aload_n hx hb dX5_addFacts_18 rfl (lv_at hl 0 rfl) ?_
  refine cr_get (ci := 6) hC hI 8 k (hT.v8 hk) rfl rfl hinX5 6 (by decide) k_56 (fun _ h => h) (v := .int ((S 32 k) ||| more)) (congrArg (fun z => some (Value.int z)) (up_at _ _ _ _)) dX5_addFacts_19 ?_
  refine lv_iload_n hx hb dX5_addFacts_22 rfl (lv_at hl 2 rfl) ?_
  refine oi_init (As := [.int ((S 32 k) ||| more), .int day]) (rest := [.ref qn, .ref (ga g 9 k)]) hC hO hI.2 hAq (qX3_init l D cy qn ((S 32 k) ||| more) day) (cwI 2 hts gX5_addFacts_X3_init rfl rfl rfl (hts (.initialized RX3) (List.mem_cons_of_mem _ (List.mem_append_left _ (List.mem_append_left _ (List.mem_append_left _ (List.mem_append_left _ (List.mem_of_getElem? (i := 4) rfl))))))) (hts (.methodLink RX5 64 yX3_init) (List.mem_cons_of_mem _ (List.mem_append_left _ (List.mem_append_left _ (List.mem_append_left _ (List.mem_append_left _ (List.mem_of_getElem? (i := 5) rfl))))))) (hts (.instanceMethod yX3_init) (List.mem_cons_of_mem _ (List.mem_append_left _ (List.mem_append_left _ (List.mem_append_left _ (List.mem_append_left _ (List.mem_of_getElem? (i := 6) rfl))))))) rfl (by decide +kernel) ⟨Nat.le_of_ble_eq_true rfl, Nat.le_of_ble_eq_true rfl⟩) rfl hl.1 rfl (Nat.le_of_ble_eq_true rfl) dX5_addFacts_23 ⟨(Nat.le_of_ble_eq_true rfl), (Nat.le_of_ble_eq_true rfl)⟩ (fun H locs hO hq hz hS => ?_)
  have hI : CI A D cy g s (up S 32 k ((S 32 k) ||| more)) H locs := ⟨fun k i hv => (hI.1 k i hv).kept (hq _ (hI.1 k i hv).lt (hfr k i hv)), hS⟩
  have hV1 : CV e0 g (up S 32 k ((S 32 k) ||| more)) := (hV.congr ⟨rfl, rfl, rfl, rfl, rfl, rfl, rfl, rfl, rfl, rfl, rfl, rfl, rfl, rfl⟩ ⟨rfl, rfl⟩)
  refine fa_add4 (rest := []) hC hV1 hL hI hJX hW (fun q h => hA q (Nat.le_trans hn0 h)) (k0 := k) (n := npp S k) (hT.v8 hk) (hT.2 k hk) hn40 hO hfr hAq (S' := (up (up (up (up S 32 k ((S 32 k) ||| more)) 65 (64 * k + npp S k) ((S 32 k) ||| more)) 66 (64 * k + npp S k) day) 67 k ((S 67 k) + 1))) (ss_addF hT hQ k hk more day) (by simp [ccell, up_app]) (by show up _ 67 _ _ 67 _ = _; rw [up_at, hQ.n67 k]; exact nI_1 _) ⟨rfl, rfl, rfl, rfl⟩ (fun k2 hk2 => by simp [up_app, hk2]) (cwV 1 hts gX5_addFacts_Jx4a65c_add_9ea2d rfl rfl rfl (by decide +kernel) ⟨Nat.le_of_ble_eq_true rfl, Nat.le_of_ble_eq_true rfl⟩) (cwV 1 hts gX5_addFacts_Jx4a65c_add_9ea2d rfl rfl rfl (by decide +kernel) ⟨Nat.le_of_ble_eq_true rfl, Nat.le_of_ble_eq_true rfl⟩) (cwV 1 hts gX5_addFacts_Jx4a65c_add_9ea2d rfl rfl rfl (by decide +kernel) ⟨Nat.le_of_ble_eq_true rfl, Nat.le_of_ble_eq_true rfl⟩) hl.1 (Nat.le_of_ble_eq_true rfl) dX5_addFacts_26 ⟨(Nat.le_of_ble_eq_true rfl), (Nat.le_of_ble_eq_true rfl)⟩ (fun md ra cap f_ H locs hgv hL hG1 hT1 hI => ?_)
  refine lv_pop hx hb dX5_addFacts_29 rfl ?_
  exact W.vret hx hb hr (fun t9 ht9 hW9 => ⟨⟨(qn, md, ra, cap, f_), rfl, ⟨hL, hG1, hT1⟩, by show CH D cy _ _ t9.heap; rw [ht9]; exact hI.1⟩, hI.2.F ht9⟩) hI.2.2.2 dX5_addFacts_30
theorem np_le {S : St} (hN : MInv S) (hP : ∀ k, npp S k ≤ 1 + nam S) (hc : ¬ (40 : Int32) ≤ S 42 0) (k : Nat) : npp S k ≤ 40 := by
  have hb : nam S < 40 := by
    have e := hN.n42
    rw [e] at hc
    rcases Nat.lt_or_ge (nam S) 40 with h | h
    · exact h
    · exact absurd (show (nI 40 : Int32) ≤ nI (nam S) from nI_le h (by have := hN.b42; omega)) hc
  have := hP k
  omega
theorem ct_42 {g : CWt} {S : St} {v : Int32} (h : CT g S) : CT g (up S 42 0 v) := h
theorem inv_amend {S : St} (hN : MInv S) (hQ : KInv S) (k : Nat) (set day : Int32) (hn40 : npp S k ≤ 40) (hc : ¬ (40 : Int32) ≤ S 42 0) : MInv (up (up (up (up (up S 32 k ((S 32 k) ||| set)) 65 (64 * k + npp S k) ((S 32 k) ||| set)) 66 (64 * k + npp S k) day) 67 k ((S 67 k) + 1)) 42 0 ((S 42 0) + 1)) ∧ KInv (up (up (up (up (up S 32 k ((S 32 k) ||| set)) 65 (64 * k + npp S k) ((S 32 k) ||| set)) 66 (64 * k + npp S k) day) 67 k ((S 67 k) + 1)) 42 0 ((S 42 0) + 1)) := by
  have hb : nam S < 40 := by
    have e := hN.n42
    rw [e] at hc
    rcases Nat.lt_or_ge (nam S) 40 with h | h
    · exact h
    · exact absurd (show (nI 40 : Int32) ≤ nI (nam S) from nI_le h (by have := hN.b42; omega)) hc
  have e42 : (up (up (up (up (up S 32 k ((S 32 k) ||| set)) 65 (64 * k + npp S k) ((S 32 k) ||| set)) 66 (64 * k + npp S k) day) 67 k ((S 67 k) + 1)) 42 0 ((S 42 0) + 1)) 42 0 = nI (nam S + 1) := by
    show S 42 0 + 1 = _
    rw [hN.n42]
    exact nI_1 _
  have en : nam (up (up (up (up (up S 32 k ((S 32 k) ||| set)) 65 (64 * k + npp S k) ((S 32 k) ||| set)) 66 (64 * k + npp S k) day) 67 k ((S 67 k) + 1)) 42 0 ((S 42 0) + 1)) = nam S + 1 := by
    show ix ((up (up (up (up (up S 32 k ((S 32 k) ||| set)) 65 (64 * k + npp S k) ((S 32 k) ||| set)) 66 (64 * k + npp S k) day) 67 k ((S 67 k) + 1)) 42 0 ((S 42 0) + 1)) 42 0) = _
    rw [e42]
    exact nI_clamp (by omega)
  obtain ⟨m1, m2, m3, m4, m5, m6, m7, m8, m9, m10, m11, m12, m13, m14⟩ := hN
  refine ⟨⟨m1, m2, m3, m4, ⟨by rw [e42, en], by rw [en]; omega⟩, m6, m7, m8, m9, m10, m11, m12, m13, m14⟩, ?_, hQ.2⟩
  intro k2
  by_cases hk : k2 = k
  · have : (up (up (up (up (up S 32 k ((S 32 k) ||| set)) 65 (64 * k + npp S k) ((S 32 k) ||| set)) 66 (64 * k + npp S k) day) 67 k ((S 67 k) + 1)) 42 0 ((S 42 0) + 1)) 67 k2 = nI (npp S k + 1) := by
      rw [hk]
      show up _ 67 k _ 67 k = _
      rw [up_at, hQ.n67 k]
      exact nI_1 _
    show (up (up (up (up (up S 32 k ((S 32 k) ||| set)) 65 (64 * k + npp S k) ((S 32 k) ||| set)) 66 (64 * k + npp S k) day) 67 k ((S 67 k) + 1)) 42 0 ((S 42 0) + 1)) 67 k2 = nI (ix ((up (up (up (up (up S 32 k ((S 32 k) ||| set)) 65 (64 * k + npp S k) ((S 32 k) ||| set)) 66 (64 * k + npp S k) day) 67 k ((S 67 k) + 1)) 42 0 ((S 42 0) + 1)) 67 k2)) ∧ ix ((up (up (up (up (up S 32 k ((S 32 k) ||| set)) 65 (64 * k + npp S k) ((S 32 k) ||| set)) 66 (64 * k + npp S k) day) 67 k ((S 67 k) + 1)) 42 0 ((S 42 0) + 1)) 67 k2) ≤ 41
    rw [this, show ix (nI (npp S k + 1)) = npp S k + 1 from nI_clamp (by omega)]
    exact ⟨rfl, by omega⟩
  · have : (up (up (up (up (up S 32 k ((S 32 k) ||| set)) 65 (64 * k + npp S k) ((S 32 k) ||| set)) 66 (64 * k + npp S k) day) 67 k ((S 67 k) + 1)) 42 0 ((S 42 0) + 1)) 67 k2 = S 67 k2 := by simp [up_app, hk]
    show (up (up (up (up (up S 32 k ((S 32 k) ||| set)) 65 (64 * k + npp S k) ((S 32 k) ||| set)) 66 (64 * k + npp S k) day) 67 k ((S 67 k) + 1)) 42 0 ((S 42 0) + 1)) 67 k2 = nI (ix ((up (up (up (up (up S 32 k ((S 32 k) ||| set)) 65 (64 * k + npp S k) ((S 32 k) ||| set)) 66 (64 * k + npp S k) day) 67 k ((S 67 k) + 1)) 42 0 ((S 42 0) + 1)) 67 k2)) ∧ ix ((up (up (up (up (up S 32 k ((S 32 k) ||| set)) 65 (64 * k + npp S k) ((S 32 k) ||| set)) 66 (64 * k + npp S k) day) 67 k ((S 67 k) + 1)) 42 0 ((S 42 0) + 1)) 67 k2) ≤ 41
    rw [this]
    exact hQ.1 k2

def fX7_amend (S : St) (k : Int32) (set : Int32) : Int32 × Int32 × St := (if okI k (S 28 0) then (if okR set 1 65535 then (if (fX5_isOver S (ix k)) = 0 then (if ¬ (fX6_knowsAll S (ix (S 29 (ix k))) set) = 0 then (if 40 ≤ (S 42 0) then (0, 3, S) else ((fbc ((fX7_notePaperDay (up (up (up (up (up S 32 (ix k) ((S 32 (ix k)) ||| set)) 65 (64 * (ix k) + npp S (ix k)) ((S 32 (ix k)) ||| set)) 66 (64 * (ix k) + npp S (ix k)) (S 1 0)) 67 (ix k) ((S 67 (ix k)) + 1)) 42 0 ((S 42 0) + 1))) 32 (ix k))), 0, (fX7_notePaperDay (up (up (up (up (up S 32 (ix k) ((S 32 (ix k)) ||| set)) 65 (64 * (ix k) + npp S (ix k)) ((S 32 (ix k)) ||| set)) 66 (64 * (ix k) + npp S (ix k)) (S 1 0)) 67 (ix k) ((S 67 (ix k)) + 1)) 42 0 ((S 42 0) + 1))))) else (0, 3, S)) else (0, 3, S)) else (0, 2, S)) else (0, 1, S))
set_option maxHeartbeats 4000000 in
set_option maxRecDepth 100000 in
theorem qX7_amend (l : Launch) (hfl : l.stackTraces = false) (A : Nat → Prop) (D : va_G) (cy : Nat → ClassId) (g : CWt) (hL : CL A g) (S : St) (e0 mi n0 : Nat) (hA : ∀ q, n0 ≤ q → A q) (hV : CV e0 g S) (hPP : ∀ k, npp S k ≤ 1 + nam S) (k : Int32) (set : Int32) : vx_Met l yX7_amend wsX7_amend ({ frames := 8, cells := 3, slots := 158, locals := 193 } : Room) (va_Pc [.ref (ga g 18 0), .int k, .int set] (fun U => (CP D cy g S U ∧ JT A U U.heap) ∧ JX A D cy e0 mi U U.heap ∧ JO U ∧ n0 ≤ U.heap.size)) (va_Qi (fun (r : Int32) (g1 : CWt) => (fX7_amend S k set).2.1 = 0 ∧ r = (fX7_amend S k set).1 ∧ CL A g1 ∧ CG e0 g1 ∧ CT g1 (fX7_amend S k set).2.2 ∧ ga g1 18 0 = ga g 18 0) (fun g1 t9 => CH D cy g1 (fX7_amend S k set).2.2 t9.heap) A) (XF A D cy g S (fX7_amend S k set).2.1) 3 158 A := by
  refine vx_ofW (cc := cX7_amend) (maxL := 4) (ret := (some .int)) (by decide) rfl ?_
  intro p e s m args below meth c s₁ B hml hno hv
  obtain ⟨rfl, ⟨⟨hM, hK⟩, hJ⟩, hJX, hW, hn0⟩ := hv
  have hx := B.exec
  have hb := B.bytes
  have hr := B.returns
  have hts := atoms_spec (ws := wsX7_amend) B.pre
  have hown : s.vm.findClass RX7 = some m.cls := findClass_of_methodNamed B.named
  have hlocks := B.notSynchronized
  have hC : CC p s m _ c cX7_amend 4 RX7 D cy wsX7_amend := ⟨⟨hx, hb, hml, hown, hts⟩, hK⟩
  have hI : CI A D cy g s S s.heap [] := ⟨hM, va_S.rf⟩
  have hT := hV.2.1
  have hN := hV.2.2.1
  have hQ := hV.2.2.2
  have hb7 := hN.b7
  have hb15 := hN.b15
  have hb23 := hN.b23
  have hb28 := hN.b28
  have hb42 := hN.b42
  have hb64 := hQ.b64
  have k_89 := hts (.constant RX7 89 (65535)) (List.mem_cons_of_mem _ (List.mem_append_left _ (List.mem_append_left _ (List.mem_append_left _ (List.mem_append_left _ (List.mem_append_left _ (List.mem_append_left _ (List.mem_append_left _ (List.mem_append_left _ (List.mem_append_left _ (List.mem_of_getElem? (i := 0) rfl)))))))))))
  have k_179 := hts (.fieldLink RX7 179 "RelatorsBench$Suit" "teller" "I") (List.mem_cons_of_mem _ (List.mem_append_left _ (List.mem_append_left _ (List.mem_append_left _ (List.mem_append_left _ (List.mem_append_left _ (List.mem_append_left _ (List.mem_append_left _ (List.mem_append_left _ (List.mem_append_left _ (List.mem_of_getElem? (i := 1) rfl)))))))))))
  have hinX5 : ∀ w ∈ wsX50, w ∈ wsX7_amend := fun _ h => List.mem_cons_of_mem _ (List.mem_append_left _ (List.mem_append_left _ (List.mem_append_left _ (List.mem_append_left _ (List.mem_append_left _ (List.mem_append_left _ (List.mem_append_left _ (List.mem_append_right _ (h)))))))))
  have k_48 := hts (.fieldLink RX7 48 "RelatorsBench" "amendmentCount" "I") (List.mem_cons_of_mem _ (List.mem_append_left _ (List.mem_append_left _ (List.mem_append_left _ (List.mem_append_left _ (List.mem_append_left _ (List.mem_append_left _ (List.mem_append_left _ (List.mem_append_left _ (List.mem_append_left _ (List.mem_of_getElem? (i := 2) rfl)))))))))))
  have hinX7 : ∀ w ∈ wsX70, w ∈ wsX7_amend := fun _ h => List.mem_cons_of_mem _ (List.mem_append_left _ (List.mem_append_left _ (List.mem_append_left _ (List.mem_append_left _ (List.mem_append_left _ (List.mem_append_left _ (List.mem_append_right _ (h))))))))
  have k_51 := hts (.fieldLink RX7 51 "RelatorsBench" "today" "I") (List.mem_cons_of_mem _ (List.mem_append_left _ (List.mem_append_left _ (List.mem_append_left _ (List.mem_append_left _ (List.mem_append_left _ (List.mem_append_left _ (List.mem_append_left _ (List.mem_append_left _ (List.mem_append_left _ (List.mem_of_getElem? (i := 3) rfl)))))))))))
  have k_185 := hts (.fieldLink RX7 185 "RelatorsBench$Suit" "facts" "I") (List.mem_cons_of_mem _ (List.mem_append_left _ (List.mem_append_left _ (List.mem_append_left _ (List.mem_append_left _ (List.mem_append_left _ (List.mem_append_left _ (List.mem_append_left _ (List.mem_append_left _ (List.mem_append_left _ (List.mem_of_getElem? (i := 4) rfl)))))))))))
  have hl := lv_entry ([.ref (ga g 18 0), .int k, .int set]) (n := 4) (Nat.le_of_ble_eq_true rfl)
  rw [lg_entry_eq]
  generalize (lg_sl ([.ref (ga g 18 0), .int k, .int set]) ++ List.replicate (4 - (lg_sl ([.ref (ga g 18 0), .int k, .int set])).length) Slot.unset).toArray = ls at hl ⊢
  have hl : lv_has ls 4 [(0, .ref (ga g 18 0)), (1, .int k), (2, .int set)] := hl
  have hG : fX7_amend S k set = fX7_amend S k set := rfl
  refine lv_aload_n hx hb dX7_amend_0 rfl (lv_at hl 0 rfl) ?_
  refine lv_iload_n hx hb dX7_amend_1 rfl (lv_at hl 1 rfl) ?_
  by_cases c_1 : okI k (S 28 0)
  · have hG := hG.trans (if_pos c_1)
    refine cr_callR (As := [.int k]) (rest := []) hC hI (qX7_suitAt l D cy g S e0 hV k c_1) (cwV 1 hts gX7_amend_X7_suitAt rfl rfl rfl (by decide +kernel) ⟨Nat.le_of_ble_eq_true rfl, Nat.le_of_ble_eq_true rfl⟩) (cr_prev (ci := 8) hC hI 18 0 rfl rfl rfl) rfl hl.1 rfl (Nat.le_of_ble_eq_true rfl) dX7_amend_2 ⟨Nat.le_of_ble_eq_true rfl, Nat.le_of_ble_eq_true rfl⟩ (fun H locs hI => ?_)
    refine lv_astore_n (lv' := [(3, .ref (ga g 8 (ix k))), (0, .ref (ga g 18 0)), (1, .int k), (2, .int set)]) hx hb dX7_amend_5 rfl hl (by decide) rfl (fun ls hl => ?_)
    refine lv_iload_n hx hb dX7_amend_6 rfl (lv_at hl 3 rfl) ?_
    refine lv_iconst (v := 1) hx hb dX7_amend_7 (by decide) ?_
    refine lv_ldc hx hb hown k_89 dX7_amend_8 ?_
    by_cases c_2 : okR set 1 65535
    · have hG := hG.trans (if_pos c_2)
      refine cr_pass (As := [.int set, .int 1, .int 65535]) (rest := []) hC hI (qX7_checkRange l set 1 65535 c_2) (va_cwS 3 hts gX7_amend_X7_checkRange rfl rfl rfl (by decide +kernel) ⟨Nat.le_of_ble_eq_true rfl, Nat.le_of_ble_eq_true rfl⟩) rfl hl.1 rfl (Nat.le_of_ble_eq_true rfl) dX7_amend_10 ⟨Nat.le_of_ble_eq_true rfl, Nat.le_of_ble_eq_true rfl⟩ (fun H locs hI => ?_)
      refine lv_aload_n hx hb dX7_amend_13 rfl (lv_at hl 0 rfl) ?_
      refine cr_call (As := []) (rest := []) hC hI (qX5_isOver l D cy g S e0 hV (ix k) (okI_l c_1 hN.n28 (by have := hN.b28; omega))) (cwV 0 hts gX7_amend_X5_isOver rfl rfl rfl (by decide +kernel) ⟨Nat.le_of_ble_eq_true rfl, Nat.le_of_ble_eq_true rfl⟩) (cr_prev (ci := 6) hC hI 8 (ix k) (hT.v8 (okI_l c_1 hN.n28 (by have := hN.b28; omega))) rfl rfl) rfl hl.1 rfl (Nat.le_of_ble_eq_true rfl) dX7_amend_14 ⟨Nat.le_of_ble_eq_true rfl, Nat.le_of_ble_eq_true rfl⟩ (fun H locs hI => ?_)
      refine lv_if_ne (tgt := 24) hx hb dX7_amend_17 (by decide) (fun c_3 => ?_) (fun c_3 => ?_)
      · have hG := hG.trans (if_neg c_3)
        refine lv_iconst (v := 0) hx hb dX7_amend_24 (by decide) ?_
        exact ct_s (As := [.int 0]) (rest := []) hC.1 hI.2 hJ (tX7_checkState l hfl 0 (by decide)) (va_cwS 1 hts gX7_amend_X7_checkState rfl rfl rfl (by decide +kernel) ⟨Nat.le_of_ble_eq_true rfl, Nat.le_of_ble_eq_true rfl⟩) rfl hl.1 rfl (Nat.le_of_ble_eq_true rfl) dX7_amend_25 ⟨Nat.le_of_ble_eq_true rfl, Nat.le_of_ble_eq_true rfl⟩ hno hlocks (xf_of hI (by decide) (congrArg (fun z => z.2.1) hG)) (fun _ h => h) (Nat.le_of_ble_eq_true rfl) (Nat.le_of_ble_eq_true rfl)
      · have hG := hG.trans (if_pos c_3)
        refine lv_iconst (v := 1) hx hb dX7_amend_20 (by decide) ?_
        refine lv_goto (tgt := 25) hx hb dX7_amend_21 (by decide) ?_
        refine cr_pass (As := [.int 1]) (rest := []) hC hI (qX7_checkState l 1 (by decide)) (va_cwS 1 hts gX7_amend_X7_checkState rfl rfl rfl (by decide +kernel) ⟨Nat.le_of_ble_eq_true rfl, Nat.le_of_ble_eq_true rfl⟩) rfl hl.1 rfl (Nat.le_of_ble_eq_true rfl) dX7_amend_25 ⟨Nat.le_of_ble_eq_true rfl, Nat.le_of_ble_eq_true rfl⟩ (fun H locs hI => ?_)
        refine lv_aload_n hx hb dX7_amend_28 rfl (lv_at hl 1 rfl) ?_
        refine lv_aload_n hx hb dX7_amend_29 rfl (lv_at hl 0 rfl) ?_
        refine cr_get (ci := 6) hC hI 8 (ix k) (hT.v8 (okI_l c_1 hN.n28 (by have := hN.b28; omega))) rfl rfl hinX5 1 (by decide) k_179 (fun _ h => h) (v := .int (S 29 (ix k))) rfl dX7_amend_30 ?_
        refine cr_callR (As := [.int (S 29 (ix k))]) (rest := []) hC hI (qX7_tellerAt l D cy g S e0 hV (S 29 (ix k)) (okI_8 (hN.v29 (ix k)))) (cwV 1 hts gX7_amend_X7_tellerAt rfl rfl rfl (by decide +kernel) ⟨Nat.le_of_ble_eq_true rfl, Nat.le_of_ble_eq_true rfl⟩) (cr_prev (ci := 8) hC hI 18 0 rfl rfl rfl) rfl hl.1 rfl (Nat.le_of_ble_eq_true rfl) dX7_amend_33 ⟨Nat.le_of_ble_eq_true rfl, Nat.le_of_ble_eq_true rfl⟩ (fun H locs hI => ?_)
        refine lv_iload_n hx hb dX7_amend_36 rfl (lv_at hl 3 rfl) ?_
        refine cr_call (As := [.int set]) (rest := []) hC hI (qX6_knowsAll l D cy g S e0 hV (ix (S 29 (ix k))) (okI_l (N := 8) (okI_8 (hN.v29 (ix k))) (by decide) (by decide)) set) (cwV 1 hts gX7_amend_X6_knowsAll rfl rfl rfl (by decide +kernel) ⟨Nat.le_of_ble_eq_true rfl, Nat.le_of_ble_eq_true rfl⟩) (cr_prev (ci := 7) hC hI 4 (ix (S 29 (ix k))) (okI_l (N := 8) (okI_8 (hN.v29 (ix k))) (by decide) (by decide)) rfl rfl) rfl hl.1 rfl (Nat.le_of_ble_eq_true rfl) dX7_amend_37 ⟨Nat.le_of_ble_eq_true rfl, Nat.le_of_ble_eq_true rfl⟩ (fun H locs hI => ?_)
        by_cases c_4 : ¬ (fX6_knowsAll S (ix (S 29 (ix k))) set) = 0
        · have hG := hG.trans (if_pos c_4)
          refine cr_pass (As := [.int (fX6_knowsAll S (ix (S 29 (ix k))) set)]) (rest := []) hC hI (qX7_checkState l (fX6_knowsAll S (ix (S 29 (ix k))) set) c_4) (va_cwS 1 hts gX7_amend_X7_checkState rfl rfl rfl (by decide +kernel) ⟨Nat.le_of_ble_eq_true rfl, Nat.le_of_ble_eq_true rfl⟩) rfl hl.1 rfl (Nat.le_of_ble_eq_true rfl) dX7_amend_40 ⟨Nat.le_of_ble_eq_true rfl, Nat.le_of_ble_eq_true rfl⟩ (fun H locs hI => ?_)
          refine lv_aload_n hx hb dX7_amend_43 rfl (lv_at hl 1 rfl) ?_
          refine cr_get (ci := 8) hC hI 18 0 rfl rfl rfl hinX7 9 (by decide) k_48 (fun _ h => h) (v := .int (S 42 0)) rfl dX7_amend_44 ?_
          refine lv_bipush (v := 40) hx hb dX7_amend_47 (by decide) ?_
          refine lv_icmp_ge (tgt := 56) hx hb dX7_amend_49 (by decide) (fun c_5 => ?_) (fun c_5 => ?_)
          · have hG := hG.trans (if_pos c_5)
            refine lv_iconst (v := 0) hx hb dX7_amend_56 (by decide) ?_
            exact ct_s (As := [.int 0]) (rest := []) hC.1 hI.2 hJ (tX7_checkState l hfl 0 (by decide)) (va_cwS 1 hts gX7_amend_X7_checkState rfl rfl rfl (by decide +kernel) ⟨Nat.le_of_ble_eq_true rfl, Nat.le_of_ble_eq_true rfl⟩) rfl hl.1 rfl (Nat.le_of_ble_eq_true rfl) dX7_amend_57 ⟨Nat.le_of_ble_eq_true rfl, Nat.le_of_ble_eq_true rfl⟩ hno hlocks (xf_of hI (by decide) (congrArg (fun z => z.2.1) hG)) (fun _ h => h) (Nat.le_of_ble_eq_true rfl) (Nat.le_of_ble_eq_true rfl)
          · have hG := hG.trans (if_neg c_5)
            refine lv_iconst (v := 1) hx hb dX7_amend_52 (by decide) ?_
            refine lv_goto (tgt := 57) hx hb dX7_amend_53 (by decide) ?_
            refine cr_pass (As := [.int 1]) (rest := []) hC hI (qX7_checkState l 1 (by decide)) (va_cwS 1 hts gX7_amend_X7_checkState rfl rfl rfl (by decide +kernel) ⟨Nat.le_of_ble_eq_true rfl, Nat.le_of_ble_eq_true rfl⟩) rfl hl.1 rfl (Nat.le_of_ble_eq_true rfl) dX7_amend_57 ⟨Nat.le_of_ble_eq_true rfl, Nat.le_of_ble_eq_true rfl⟩ (fun H locs hI => ?_)
            refine lv_aload_n hx hb dX7_amend_60 rfl (lv_at hl 0 rfl) ?_
            refine lv_iload_n hx hb dX7_amend_61 rfl (lv_at hl 3 rfl) ?_
            refine lv_aload_n hx hb dX7_amend_62 rfl (lv_at hl 1 rfl) ?_
            refine cr_get (ci := 8) hC hI 18 0 rfl rfl rfl hinX7 10 (by decide) k_51 (fun _ h => h) (v := .int (S 1 0)) rfl dX7_amend_63 ?_
            have hn40 : npp S (ix k) ≤ 40 := np_le hN hPP (by assumption) (ix k)
            refine va_callv (va_runV (As := [.int set, .int (S 1 0)]) (rest := []) hC.1 (qX5_addFacts l A n0 hA D cy g hL S e0 mi hV (ix k) (okI_l c_1 hN.n28 (by have := hN.b28; omega)) set (S 1 0) hn40) (cwV 2 hts gX7_amend_X5_addFacts rfl rfl rfl (by decide +kernel) ⟨Nat.le_of_ble_eq_true rfl, Nat.le_of_ble_eq_true rfl⟩) ⟨fun x U g' mk h => ⟨h.1, (CP_blind (av := _) x U g' mk ⟨h.1, h.2.1⟩).2, JX.blind h.2.2.1, JO.blind h.2.2.2.1, h.2.2.2.2⟩, cr_recv (ci := 6) hC.2 hI 8 (ix k) (hT.v8 (okI_l c_1 hN.n28 (by have := hN.b28; omega))) rfl rfl, fun U hU hWm => ⟨rfl, ⟨by rw [hU]; exact hI.1, va_K.moved hWm.alike hC.2⟩, JX_now hJX hI.2 (fun _ h => h) hU hWm, JO.warm hWm hW, by rw [hU]; exact Nat.le_trans hn0 hI.2.1⟩⟩ rfl rfl hl.1 rfl (lv_room (Nat.le_of_ble_eq_true rfl)) dX7_amend_66 ⟨(Nat.le_of_ble_eq_true rfl), (Nat.le_of_ble_eq_true rfl)⟩) hI.2 (fun q _ h => h) (fun q h => h) (fun u t9 H locs ht hvm hu hB hz1 hk1 hS => ?_)
            obtain ⟨pq, md, ra, cap, f_⟩ := u
            obtain ⟨hL, hG1, hT1⟩ := hu
            rw [ht] at hB
            dsimp only at hL hG1 hT1 hB
            have hI : CI A D cy (gx4 g (ix k) (npp S (ix k)) pq md ra cap f_) s (up (up (up (up S 32 (ix k) ((S 32 (ix k)) ||| set)) 65 (64 * (ix k) + npp S (ix k)) ((S 32 (ix k)) ||| set)) 66 (64 * (ix k) + npp S (ix k)) (S 1 0)) 67 (ix k) ((S 67 (ix k)) + 1)) H locs := ⟨hB, hS⟩
            have hinv := inv_amend hN hQ (ix k) set (S 1 0) hn40 (by assumption)
            refine lv_aload_n hx hb dX7_amend_69 rfl (lv_at hl 1 rfl) ?_
            refine lv_dup hx hb dX7_amend_70 rfl ?_
            refine cr_get (ci := 8) hC hI 18 0 rfl rfl rfl hinX7 9 (by decide) k_48 (fun _ h => h) (v := .int (S 42 0)) (congrArg (fun z => some (Value.int z)) ((congrFun (up_ne (by decide)) _).trans ((congrFun (up_ne (by decide)) _).trans ((congrFun (up_ne (by decide)) _).trans (congrFun (up_ne (by decide)) _))))) dX7_amend_71 ?_
            refine lv_iconst (v := 1) hx hb dX7_amend_74 (by decide) ?_
            refine lv_iadd hx hb dX7_amend_75 ?_
            refine cr_put (ci := 8) (v := .int ((S 42 0) + 1)) (ty := .int) (S' := (up (up (up (up (up S 32 (ix k) ((S 32 (ix k)) ||| set)) 65 (64 * (ix k) + npp S (ix k)) ((S 32 (ix k)) ||| set)) 66 (64 * (ix k) + npp S (ix k)) (S 1 0)) 67 (ix k) ((S 67 (ix k)) + 1)) 42 0 ((S 42 0) + 1))) hC hL hI 18 0 rfl rfl rfl hinX7 tyX7 tyX7_ok nmX7 9 (by decide) k_48 (fun _ h => h) rfl (by decide +kernel) rfl rfl (Nat.le_of_ble_eq_true rfl) (cn_42 _) (cu_42 _) dX7_amend_76 (fun H locs hI => ?_)
            refine lv_aload_n hx hb dX7_amend_79 rfl (lv_at hl 1 rfl) ?_
            refine cr_callMV (As := []) (rest := []) hC hI (qX7_notePaperDay l A D cy (gx4 g (ix k) (npp S (ix k)) pq md ra cap f_) hL (up (up (up (up (up S 32 (ix k) ((S 32 (ix k)) ||| set)) 65 (64 * (ix k) + npp S (ix k)) ((S 32 (ix k)) ||| set)) 66 (64 * (ix k) + npp S (ix k)) (S 1 0)) 67 (ix k) ((S 67 (ix k)) + 1)) 42 0 ((S 42 0) + 1)) e0 ⟨hG1, ct_42 hT1, hinv.1, hinv.2⟩) (cwV 0 hts gX7_amend_X7_notePaperDay rfl rfl rfl (by decide +kernel) ⟨Nat.le_of_ble_eq_true rfl, Nat.le_of_ble_eq_true rfl⟩) (cr_prev (ci := 8) hC hI 18 0 rfl rfl rfl) rfl hl.1 rfl (Nat.le_of_ble_eq_true rfl) dX7_amend_80 ⟨Nat.le_of_ble_eq_true rfl, Nat.le_of_ble_eq_true rfl⟩ (fun H locs hI => ?_)
            have hT1 := note_CT (ct_42 (v := ((S 42 0) + 1)) hT1)
            refine lv_aload_n hx hb dX7_amend_83 rfl (lv_at hl 0 rfl) ?_
            refine cr_get (ci := 6) hC hI 8 (ix k) (hT.v8 (okI_l c_1 hN.n28 (by have := hN.b28; omega))) rfl rfl hinX5 6 (by decide) k_185 (fun _ h => h) (v := .int ((fX7_notePaperDay (up (up (up (up (up S 32 (ix k) ((S 32 (ix k)) ||| set)) 65 (64 * (ix k) + npp S (ix k)) ((S 32 (ix k)) ||| set)) 66 (64 * (ix k) + npp S (ix k)) (S 1 0)) 67 (ix k) ((S 67 (ix k)) + 1)) 42 0 ((S 42 0) + 1))) 32 (ix k))) rfl dX7_amend_84 ?_
            refine cr_callS (As := [.int ((fX7_notePaperDay (up (up (up (up (up S 32 (ix k) ((S 32 (ix k)) ||| set)) 65 (64 * (ix k) + npp S (ix k)) ((S 32 (ix k)) ||| set)) 66 (64 * (ix k) + npp S (ix k)) (S 1 0)) 67 (ix k) ((S 67 (ix k)) + 1)) 42 0 ((S 42 0) + 1))) 32 (ix k))]) (rest := []) hC hI (qbc l ((fX7_notePaperDay (up (up (up (up (up S 32 (ix k) ((S 32 (ix k)) ||| set)) 65 (64 * (ix k) + npp S (ix k)) ((S 32 (ix k)) ||| set)) 66 (64 * (ix k) + npp S (ix k)) (S 1 0)) 67 (ix k) ((S 67 (ix k)) + 1)) 42 0 ((S 42 0) + 1))) 32 (ix k))) (va_cwS 1 hts gX7_amend_J6_bitCount_0f7a4 rfl rfl rfl (by decide +kernel) ⟨Nat.le_of_ble_eq_true rfl, Nat.le_of_ble_eq_true rfl⟩) rfl hl.1 rfl (Nat.le_of_ble_eq_true rfl) dX7_amend_87 ⟨Nat.le_of_ble_eq_true rfl, Nat.le_of_ble_eq_true rfl⟩ (fun H locs hI => ?_)
            refine vx_ret ?_
            refine W.widen (k := 3) (n := 158) (Nat.le_of_ble_eq_true rfl) (Nat.le_of_ble_eq_true rfl) ?_
            exact W.iret (v := (fbc ((fX7_notePaperDay (up (up (up (up (up S 32 (ix k) ((S 32 (ix k)) ||| set)) 65 (64 * (ix k) + npp S (ix k)) ((S 32 (ix k)) ||| set)) 66 (64 * (ix k) + npp S (ix k)) (S 1 0)) 67 (ix k) ((S 67 (ix k)) + 1)) 42 0 ((S 42 0) + 1))) 32 (ix k)))) hx hb hr (fun t9 ht9 hW9 => ⟨⟨(fbc ((fX7_notePaperDay (up (up (up (up (up S 32 (ix k) ((S 32 (ix k)) ||| set)) 65 (64 * (ix k) + npp S (ix k)) ((S 32 (ix k)) ||| set)) 66 (64 * (ix k) + npp S (ix k)) (S 1 0)) 67 (ix k) ((S 67 (ix k)) + 1)) 42 0 ((S 42 0) + 1))) 32 (ix k))), (gx4 g (ix k) (npp S (ix k)) pq md ra cap f_), rfl, ⟨congrArg (fun z => z.2.1) hG, (congrArg Prod.fst hG).symm, hL, hG1, (by rw [hG]; exact hT1), rfl⟩, by show CH D cy _ _ t9.heap; rw [ht9, hG]; exact hI.1⟩, hI.2.F ht9⟩) hI.2.2.2 dX7_amend_90
        · have hG := hG.trans (if_neg c_4)
          exact ct_s (As := [.int (fX6_knowsAll S (ix (S 29 (ix k))) set)]) (rest := []) hC.1 hI.2 hJ (tX7_checkState l hfl (fX6_knowsAll S (ix (S 29 (ix k))) set) (Decidable.not_not.mp c_4)) (va_cwS 1 hts gX7_amend_X7_checkState rfl rfl rfl (by decide +kernel) ⟨Nat.le_of_ble_eq_true rfl, Nat.le_of_ble_eq_true rfl⟩) rfl hl.1 rfl (Nat.le_of_ble_eq_true rfl) dX7_amend_40 ⟨Nat.le_of_ble_eq_true rfl, Nat.le_of_ble_eq_true rfl⟩ hno hlocks (xf_of hI (by decide) (congrArg (fun z => z.2.1) hG)) (fun _ h => h) (Nat.le_of_ble_eq_true rfl) (Nat.le_of_ble_eq_true rfl)
    · have hG := hG.trans (if_neg c_2)
      exact ct_s (As := [.int set, .int 1, .int 65535]) (rest := []) hC.1 hI.2 hJ (tX7_checkRange l hfl set 1 65535 c_2) (va_cwS 3 hts gX7_amend_X7_checkRange rfl rfl rfl (by decide +kernel) ⟨Nat.le_of_ble_eq_true rfl, Nat.le_of_ble_eq_true rfl⟩) rfl hl.1 rfl (Nat.le_of_ble_eq_true rfl) dX7_amend_10 ⟨Nat.le_of_ble_eq_true rfl, Nat.le_of_ble_eq_true rfl⟩ hno hlocks (xf_of hI (by decide) (congrArg (fun z => z.2.1) hG)) (fun _ h => h) (Nat.le_of_ble_eq_true rfl) (Nat.le_of_ble_eq_true rfl)
  · have hG := hG.trans (if_neg c_1)
    exact ct_v (As := [.int k]) (rest := []) hC hI hJ (tX7_suitAt l hfl D cy g S e0 hV k c_1) (cwV 1 hts gX7_amend_X7_suitAt rfl rfl rfl (by decide +kernel) ⟨Nat.le_of_ble_eq_true rfl, Nat.le_of_ble_eq_true rfl⟩) rfl hl.1 rfl (Nat.le_of_ble_eq_true rfl) dX7_amend_2 ⟨Nat.le_of_ble_eq_true rfl, Nat.le_of_ble_eq_true rfl⟩ hno hlocks (xf_of hI (by decide) (congrArg (fun z => z.2.1) hG)) (fun _ h => h) (Nat.le_of_ble_eq_true rfl) (Nat.le_of_ble_eq_true rfl)
