/-! the face of the class, walked -/
set_option maxHeartbeats 4000000 in
set_option maxRecDepth 100000 in
theorem qX7_fund (l : Launch) (hfl : l.stackTraces = false) (A : Nat → Prop) (D : va_G) (cy : Nat → ClassId) (g : CWt) (hL : CL A g) (S : St) (e0 : Nat) (hV : CV e0 g S) (f : Int32) (more : Int32) : vx_Met l yX7_fund wsX7_fund ({ frames := 8, cells := 1, slots := 6, locals := 124 } : Room) (va_Pc [.ref (ga g 18 0), .int f, .int more] (fun U => CP D cy g S U ∧ JT A U U.heap)) (va_Qi (fun (r : Int32) (_ : Unit) => (fX7_fund S f more).2.1 = 0 ∧ r = (fX7_fund S f more).1) (fun _ t9 => CH D cy g (fX7_fund S f more).2.2 t9.heap) A) (XF A D cy g S (fX7_fund S f more).2.1) 1 6 A := by
  refine vx_ofW (cc := cX7_fund) (maxL := 4) (ret := (some .int)) (by decide) rfl ?_
  intro p e s m args below meth c s₁ B hml hno hv
  obtain ⟨rfl, ⟨hM, hK⟩, hJ⟩ := hv
  have hx := B.exec
  have hb := B.bytes
  have hr := B.returns
  have hts := atoms_spec (ws := wsX7_fund) B.pre
  have hown : s.vm.findClass RX7 = some m.cls := findClass_of_methodNamed B.named
  have hlocks := B.notSynchronized
  have hC : CC p s m _ c cX7_fund 4 RX7 D cy wsX7_fund := ⟨⟨hx, hb, hml, hown, hts⟩, hK⟩
  have hI : CI A D cy g s S s.heap [] := ⟨hM, va_S.rf⟩
  have hT := hV.2.1
  have hN := hV.2.2.1
  have hQ := hV.2.2.2
  have hb7 := hN.b7
  have hb15 := hN.b15
  have hb23 := hN.b23
  have hb28 := hN.b28
  have hb42 := hN.b42
  have hb64 := hQ.b64
  have k_69 := hts (.constant RX7 69 (1000000)) (List.mem_cons_of_mem _ (List.mem_append_left _ (List.mem_append_left _ (List.mem_append_left _ (List.mem_append_left _ (List.mem_append_left _ (List.mem_append_left _ (List.mem_of_getElem? (i := 0) rfl))))))))
  have k_74 := hts (.fieldLink RX7 74 "RelatorsBench$Firm" "money" "I") (List.mem_cons_of_mem _ (List.mem_append_left _ (List.mem_append_left _ (List.mem_append_left _ (List.mem_append_left _ (List.mem_append_left _ (List.mem_append_left _ (List.mem_of_getElem? (i := 1) rfl))))))))
  have hinX2 : ∀ w ∈ wsX20, w ∈ wsX7_fund := fun _ h => List.mem_cons_of_mem _ (List.mem_append_left _ (List.mem_append_left _ (List.mem_append_left _ (List.mem_append_left _ (List.mem_append_right _ (h))))))
  have k_77 := hts (.constant RX7 77 (100000000)) (List.mem_cons_of_mem _ (List.mem_append_left _ (List.mem_append_left _ (List.mem_append_left _ (List.mem_append_left _ (List.mem_append_left _ (List.mem_append_left _ (List.mem_of_getElem? (i := 2) rfl))))))))
  have k_82 := hts (.fieldLink RX7 82 "RelatorsBench$Firm" "given" "I") (List.mem_cons_of_mem _ (List.mem_append_left _ (List.mem_append_left _ (List.mem_append_left _ (List.mem_append_left _ (List.mem_append_left _ (List.mem_append_left _ (List.mem_of_getElem? (i := 3) rfl))))))))
  have hl := lv_entry ([.ref (ga g 18 0), .int f, .int more]) (n := 4) (Nat.le_of_ble_eq_true rfl)
  rw [lg_entry_eq]
  generalize (lg_sl ([.ref (ga g 18 0), .int f, .int more]) ++ List.replicate (4 - (lg_sl ([.ref (ga g 18 0), .int f, .int more])).length) Slot.unset).toArray = ls at hl ⊢
  have hl : lv_has ls 4 [(0, .ref (ga g 18 0)), (1, .int f), (2, .int more)] := hl
  have hG : fX7_fund S f more = fX7_fund S f more := rfl
  refine lv_aload_n hx hb dX7_fund_0 rfl (lv_at hl 0 rfl) ?_
  refine lv_iload_n hx hb dX7_fund_1 rfl (lv_at hl 1 rfl) ?_
  by_cases c_1 : okI f 6
  · have hG := hG.trans (if_pos c_1)
    refine cr_callR (As := [.int f]) (rest := []) hC hI (qX7_firmAt l D cy g S e0 hV f c_1) (cwV 1 hts gX7_fund_X7_firmAt rfl rfl rfl (by decide +kernel) ⟨Nat.le_of_ble_eq_true rfl, Nat.le_of_ble_eq_true rfl⟩) (cr_prev (ci := 8) hC hI 18 0 rfl rfl rfl) rfl hl.1 rfl (Nat.le_of_ble_eq_true rfl) dX7_fund_2 ⟨Nat.zero_le _, Nat.zero_le _⟩ (fun H locs hI => ?_)
    refine lv_astore_n (lv' := [(3, .ref (ga g 0 (ix f))), (0, .ref (ga g 18 0)), (1, .int f), (2, .int more)]) hx hb dX7_fund_5 rfl hl (by decide) rfl (fun ls hl => ?_)
    refine lv_iload_n hx hb dX7_fund_6 rfl (lv_at hl 3 rfl) ?_
    refine lv_iconst (v := 1) hx hb dX7_fund_7 (by decide) ?_
    refine lv_ldc hx hb hown k_69 dX7_fund_8 ?_
    by_cases c_2 : okR more 1 1000000
    · have hG := hG.trans (if_pos c_2)
      refine cr_pass (As := [.int more, .int 1, .int 1000000]) (rest := []) hC hI (qX7_checkRange l more 1 1000000 c_2) (va_cwS 3 hts gX7_fund_X7_checkRange rfl rfl rfl (by decide +kernel) ⟨Nat.le_of_ble_eq_true rfl, Nat.le_of_ble_eq_true rfl⟩) rfl hl.1 rfl (Nat.le_of_ble_eq_true rfl) dX7_fund_10 ⟨Nat.zero_le _, Nat.zero_le _⟩ (fun H locs hI => ?_)
      refine lv_aload_n hx hb dX7_fund_13 rfl (lv_at hl 0 rfl) ?_
      refine cr_get (ci := 3) hC hI 0 (ix f) (okI_l (N := 6) c_1 (by decide) (by decide)) rfl rfl hinX2 0 (by decide) k_74 (fun _ h => h) (v := .int (S 2 (ix f))) rfl dX7_fund_14 ?_
      refine lv_iload_n hx hb dX7_fund_17 rfl (lv_at hl 3 rfl) ?_
      refine lv_iadd hx hb dX7_fund_18 ?_
      refine lv_ldc hx hb hown k_77 dX7_fund_19 ?_
      refine lv_icmp_gt (tgt := 28) hx hb dX7_fund_21 (by decide) (fun c_3 => ?_) (fun c_3 => ?_)
      · have hG := hG.trans (if_pos c_3)
        refine lv_iconst (v := 0) hx hb dX7_fund_28 (by decide) ?_
        exact ct_s (As := [.int 0]) (rest := []) hC.1 hI.2 hJ (tX7_checkState l hfl 0 (by decide)) (va_cwS 1 hts gX7_fund_X7_checkState rfl rfl rfl (by decide +kernel) ⟨Nat.le_of_ble_eq_true rfl, Nat.le_of_ble_eq_true rfl⟩) rfl hl.1 rfl (Nat.le_of_ble_eq_true rfl) dX7_fund_29 ⟨Nat.le_of_ble_eq_true rfl, Nat.le_of_ble_eq_true rfl⟩ hno hlocks (xf_of hI (by decide) (congrArg (fun z => z.2.1) hG)) (fun _ h => h) (Nat.le_of_ble_eq_true rfl) (Nat.le_of_ble_eq_true rfl)
      · have hG := hG.trans (if_neg c_3)
        refine lv_iconst (v := 1) hx hb dX7_fund_24 (by decide) ?_
        refine lv_goto (tgt := 29) hx hb dX7_fund_25 (by decide) ?_
        refine cr_pass (As := [.int 1]) (rest := []) hC hI (qX7_checkState l 1 (by decide)) (va_cwS 1 hts gX7_fund_X7_checkState rfl rfl rfl (by decide +kernel) ⟨Nat.le_of_ble_eq_true rfl, Nat.le_of_ble_eq_true rfl⟩) rfl hl.1 rfl (Nat.le_of_ble_eq_true rfl) dX7_fund_29 ⟨Nat.zero_le _, Nat.zero_le _⟩ (fun H locs hI => ?_)
        refine lv_aload_n hx hb dX7_fund_32 rfl (lv_at hl 0 rfl) ?_
        refine lv_dup hx hb dX7_fund_33 rfl ?_
        refine cr_get (ci := 3) hC hI 0 (ix f) (okI_l (N := 6) c_1 (by decide) (by decide)) rfl rfl hinX2 0 (by decide) k_74 (fun _ h => h) (v := .int (S 2 (ix f))) rfl dX7_fund_34 ?_
        refine lv_iload_n hx hb dX7_fund_37 rfl (lv_at hl 3 rfl) ?_
        refine lv_iadd hx hb dX7_fund_38 ?_
        refine cr_put (ci := 3) (v := .int ((S 2 (ix f)) + more)) (ty := .int) (S' := (up S 2 (ix f) ((S 2 (ix f)) + more))) hC hL hI 0 (ix f) (okI_l (N := 6) c_1 (by decide) (by decide)) rfl rfl hinX2 tyX2 tyX2_ok nmX2 0 (by decide) k_74 (fun _ h => h) rfl (by decide +kernel) rfl rfl (Nat.le_of_ble_eq_true rfl) (cn_2 (ix f) _) (cu_2 (ix f) _) dX7_fund_39 (fun H locs hI => ?_)
        refine lv_aload_n hx hb dX7_fund_42 rfl (lv_at hl 0 rfl) ?_
        refine lv_dup hx hb dX7_fund_43 rfl ?_
        refine cr_get (ci := 3) hC hI 0 (ix f) (okI_l (N := 6) c_1 (by decide) (by decide)) rfl rfl hinX2 1 (by decide) k_82 (fun _ h => h) (v := .int (S 3 (ix f))) (congrArg (fun z => some (Value.int z)) (congrFun (up_ne (by decide)) _)) dX7_fund_44 ?_
        refine lv_iload_n hx hb dX7_fund_47 rfl (lv_at hl 3 rfl) ?_
        refine lv_iadd hx hb dX7_fund_48 ?_
        refine cr_put (ci := 3) (v := .int ((S 3 (ix f)) + more)) (ty := .int) (S' := (up (up S 2 (ix f) ((S 2 (ix f)) + more)) 3 (ix f) ((S 3 (ix f)) + more))) hC hL hI 0 (ix f) (okI_l (N := 6) c_1 (by decide) (by decide)) rfl rfl hinX2 tyX2 tyX2_ok nmX2 1 (by decide) k_82 (fun _ h => h) rfl (by decide +kernel) rfl rfl (Nat.le_of_ble_eq_true rfl) (cn_3 (ix f) _) (cu_3 (ix f) _) dX7_fund_49 (fun H locs hI => ?_)
        refine lv_aload_n hx hb dX7_fund_52 rfl (lv_at hl 0 rfl) ?_
        refine cr_get (ci := 3) hC hI 0 (ix f) (okI_l (N := 6) c_1 (by decide) (by decide)) rfl rfl hinX2 0 (by decide) k_74 (fun _ h => h) (v := .int ((S 2 (ix f)) + more)) (congrArg (fun z => some (Value.int z)) ((congrFun (up_ne (by decide)) _).trans (up_at _ _ _ _))) dX7_fund_53 ?_
        refine vx_ret ?_
        refine W.widen (k := 1) (n := 6) (Nat.zero_le _) (Nat.zero_le _) ?_
        exact W.iret (v := ((S 2 (ix f)) + more)) hx hb hr (fun t9 ht9 hW9 => ⟨⟨((S 2 (ix f)) + more), (), rfl, ⟨congrArg (fun z => z.2.1) hG, (congrArg Prod.fst hG).symm⟩, by show CH D cy g _ t9.heap; rw [ht9, hG]; exact hI.1⟩, hI.2.F ht9⟩) hI.2.2.2 dX7_fund_56
    · have hG := hG.trans (if_neg c_2)
      exact ct_s (As := [.int more, .int 1, .int 1000000]) (rest := []) hC.1 hI.2 hJ (tX7_checkRange l hfl more 1 1000000 c_2) (va_cwS 3 hts gX7_fund_X7_checkRange rfl rfl rfl (by decide +kernel) ⟨Nat.le_of_ble_eq_true rfl, Nat.le_of_ble_eq_true rfl⟩) rfl hl.1 rfl (Nat.le_of_ble_eq_true rfl) dX7_fund_10 ⟨Nat.le_of_ble_eq_true rfl, Nat.le_of_ble_eq_true rfl⟩ hno hlocks (xf_of hI (by decide) (congrArg (fun z => z.2.1) hG)) (fun _ h => h) (Nat.le_of_ble_eq_true rfl) (Nat.le_of_ble_eq_true rfl)
  · have hG := hG.trans (if_neg c_1)
    exact ct_v (As := [.int f]) (rest := []) hC hI hJ (tX7_firmAt l hfl D cy g S e0 hV f c_1) (cwV 1 hts gX7_fund_X7_firmAt rfl rfl rfl (by decide +kernel) ⟨Nat.le_of_ble_eq_true rfl, Nat.le_of_ble_eq_true rfl⟩) rfl hl.1 rfl (Nat.le_of_ble_eq_true rfl) dX7_fund_2 ⟨Nat.le_of_ble_eq_true rfl, Nat.le_of_ble_eq_true rfl⟩ hno hlocks (xf_of hI (by decide) (congrArg (fun z => z.2.1) hG)) (fun _ h => h) (Nat.le_of_ble_eq_true rfl) (Nat.le_of_ble_eq_true rfl)
set_option maxHeartbeats 4000000 in
set_option maxRecDepth 100000 in
theorem qX7_sample (l : Launch) (hfl : l.stackTraces = false) (A : Nat → Prop) (D : va_G) (cy : Nat → ClassId) (g : CWt) (hL : CL A g) (S : St) (e0 : Nat) (hV : CV e0 g S) (s_ : Int32) (many : Int32) (bad : Int32) : vx_Met l yX7_sample wsX7_sample ({ frames := 8, cells := 1, slots := 6, locals := 124 } : Room) (va_Pc [.ref (ga g 18 0), .int s_, .int many, .int bad] (fun U => CP D cy g S U ∧ JT A U U.heap)) (va_Qv (fun (_ : Unit) => (fX7_sample S s_ many bad).2.1 = 0) (fun _ t9 => CH D cy g (fX7_sample S s_ many bad).2.2 t9.heap) A) (XF A D cy g S (fX7_sample S s_ many bad).2.1) 1 6 A := by
  refine vx_ofW (cc := cX7_sample) (maxL := 5) (ret := none) (by decide) rfl ?_
  intro p e s m args below meth c s₁ B hml hno hv
  obtain ⟨rfl, ⟨hM, hK⟩, hJ⟩ := hv
  have hx := B.exec
  have hb := B.bytes
  have hr := B.returns
  have hts := atoms_spec (ws := wsX7_sample) B.pre
  have hown : s.vm.findClass RX7 = some m.cls := findClass_of_methodNamed B.named
  have hlocks := B.notSynchronized
  have hC : CC p s m _ c cX7_sample 5 RX7 D cy wsX7_sample := ⟨⟨hx, hb, hml, hown, hts⟩, hK⟩
  have hI : CI A D cy g s S s.heap [] := ⟨hM, va_S.rf⟩
  have hT := hV.2.1
  have hN := hV.2.2.1
  have hQ := hV.2.2.2
  have hb7 := hN.b7
  have hb15 := hN.b15
  have hb23 := hN.b23
  have hb28 := hN.b28
  have hb42 := hN.b42
  have hb64 := hQ.b64
  have k_111 := hts (.fieldLink RX7 111 "RelatorsBench$Scheme" "looked" "I") (List.mem_cons_of_mem _ (List.mem_append_left _ (List.mem_append_left _ (List.mem_append_left _ (List.mem_append_left _ (List.mem_append_left _ (List.mem_append_left _ (List.mem_of_getElem? (i := 0) rfl))))))))
  have hinX4 : ∀ w ∈ wsX40, w ∈ wsX7_sample := fun _ h => List.mem_cons_of_mem _ (List.mem_append_left _ (List.mem_append_left _ (List.mem_append_left _ (List.mem_append_left _ (List.mem_append_right _ (h))))))
  have k_114 := hts (.fieldLink RX7 114 "RelatorsBench$Scheme" "wrong" "I") (List.mem_cons_of_mem _ (List.mem_append_left _ (List.mem_append_left _ (List.mem_append_left _ (List.mem_append_left _ (List.mem_append_left _ (List.mem_append_left _ (List.mem_of_getElem? (i := 1) rfl))))))))
  have hl := lv_entry ([.ref (ga g 18 0), .int s_, .int many, .int bad]) (n := 5) (Nat.le_of_ble_eq_true rfl)
  rw [lg_entry_eq]
  generalize (lg_sl ([.ref (ga g 18 0), .int s_, .int many, .int bad]) ++ List.replicate (5 - (lg_sl ([.ref (ga g 18 0), .int s_, .int many, .int bad])).length) Slot.unset).toArray = ls at hl ⊢
  have hl : lv_has ls 5 [(0, .ref (ga g 18 0)), (1, .int s_), (2, .int many), (3, .int bad)] := hl
  have hG : fX7_sample S s_ many bad = fX7_sample S s_ many bad := rfl
  refine lv_aload_n hx hb dX7_sample_0 rfl (lv_at hl 0 rfl) ?_
  refine lv_iload_n hx hb dX7_sample_1 rfl (lv_at hl 1 rfl) ?_
  by_cases c_1 : okI s_ (S 7 0)
  · have hG := hG.trans (if_pos c_1)
    refine cr_callR (As := [.int s_]) (rest := []) hC hI (qX7_schemeAt l D cy g S e0 hV s_ c_1) (cwV 1 hts gX7_sample_X7_schemeAt rfl rfl rfl (by decide +kernel) ⟨Nat.le_of_ble_eq_true rfl, Nat.le_of_ble_eq_true rfl⟩) (cr_prev (ci := 8) hC hI 18 0 rfl rfl rfl) rfl hl.1 rfl (Nat.le_of_ble_eq_true rfl) dX7_sample_2 ⟨Nat.zero_le _, Nat.zero_le _⟩ (fun H locs hI => ?_)
    refine lv_astore (lv' := [(4, .ref (ga g 5 (ix s_))), (0, .ref (ga g 18 0)), (1, .int s_), (2, .int many), (3, .int bad)]) hx hb dX7_sample_5 hl (by decide) rfl (fun ls hl => ?_)
    refine lv_iload_n hx hb dX7_sample_7 rfl (lv_at hl 3 rfl) ?_
    refine lv_iconst (v := 1) hx hb dX7_sample_8 (by decide) ?_
    refine lv_bipush (v := 100) hx hb dX7_sample_9 (by decide) ?_
    by_cases c_2 : okR many 1 100
    · have hG := hG.trans (if_pos c_2)
      refine cr_pass (As := [.int many, .int 1, .int 100]) (rest := []) hC hI (qX7_checkRange l many 1 100 c_2) (va_cwS 3 hts gX7_sample_X7_checkRange rfl rfl rfl (by decide +kernel) ⟨Nat.le_of_ble_eq_true rfl, Nat.le_of_ble_eq_true rfl⟩) rfl hl.1 rfl (Nat.le_of_ble_eq_true rfl) dX7_sample_11 ⟨Nat.zero_le _, Nat.zero_le _⟩ (fun H locs hI => ?_)
      refine lv_iload_n hx hb dX7_sample_14 rfl (lv_at hl 4 rfl) ?_
      refine lv_iconst (v := 0) hx hb dX7_sample_15 (by decide) ?_
      refine lv_iload_n hx hb dX7_sample_16 rfl (lv_at hl 3 rfl) ?_
      by_cases c_3 : okR bad 0 many
      · have hG := hG.trans (if_pos c_3)
        refine cr_pass (As := [.int bad, .int 0, .int many]) (rest := []) hC hI (qX7_checkRange l bad 0 many c_3) (va_cwS 3 hts gX7_sample_X7_checkRange rfl rfl rfl (by decide +kernel) ⟨Nat.le_of_ble_eq_true rfl, Nat.le_of_ble_eq_true rfl⟩) rfl hl.1 rfl (Nat.le_of_ble_eq_true rfl) dX7_sample_17 ⟨Nat.zero_le _, Nat.zero_le _⟩ (fun H locs hI => ?_)
        refine lv_aload hx hb dX7_sample_20 (lv_at hl 0 rfl) ?_
        refine lv_iload_n hx hb dX7_sample_22 rfl (lv_at hl 3 rfl) ?_
        refine cr_put (ci := 5) (v := .int many) (ty := .int) (S' := (up S 11 (ix s_) many)) hC hL hI 5 (ix s_) (hT.v5 (okI_l c_1 hN.n7 (by have := hN.b7; omega))) rfl rfl hinX4 tyX4 tyX4_ok nmX4 4 (by decide) k_111 (fun _ h => h) rfl (by decide +kernel) rfl rfl (Nat.le_of_ble_eq_true rfl) (cn_11 (ix s_) _) (cu_11 (ix s_) _) dX7_sample_23 (fun H locs hI => ?_)
        refine lv_aload hx hb dX7_sample_26 (lv_at hl 0 rfl) ?_
        refine lv_iload_n hx hb dX7_sample_28 rfl (lv_at hl 4 rfl) ?_
        refine cr_put (ci := 5) (v := .int bad) (ty := .int) (S' := (up (up S 11 (ix s_) many) 12 (ix s_) bad)) hC hL hI 5 (ix s_) (hT.v5 (okI_l c_1 hN.n7 (by have := hN.b7; omega))) rfl rfl hinX4 tyX4 tyX4_ok nmX4 5 (by decide) k_114 (fun _ h => h) rfl (by decide +kernel) rfl rfl (Nat.le_of_ble_eq_true rfl) (cn_12 (ix s_) _) (cu_12 (ix s_) _) dX7_sample_29 (fun H locs hI => ?_)
        refine vx_ret ?_
        refine W.widen (k := 1) (n := 6) (Nat.zero_le _) (Nat.zero_le _) ?_
        exact W.vret hx hb hr (fun t9 ht9 hW9 => ⟨⟨(), rfl, congrArg (fun z => z.2.1) hG, by show CH D cy g _ t9.heap; rw [ht9, hG]; exact hI.1⟩, hI.2.F ht9⟩) hI.2.2.2 dX7_sample_32
      · have hG := hG.trans (if_neg c_3)
        exact ct_s (As := [.int bad, .int 0, .int many]) (rest := []) hC.1 hI.2 hJ (tX7_checkRange l hfl bad 0 many c_3) (va_cwS 3 hts gX7_sample_X7_checkRange rfl rfl rfl (by decide +kernel) ⟨Nat.le_of_ble_eq_true rfl, Nat.le_of_ble_eq_true rfl⟩) rfl hl.1 rfl (Nat.le_of_ble_eq_true rfl) dX7_sample_17 ⟨Nat.le_of_ble_eq_true rfl, Nat.le_of_ble_eq_true rfl⟩ hno hlocks (xf_of hI (by decide) (congrArg (fun z => z.2.1) hG)) (fun _ h => h) (Nat.le_of_ble_eq_true rfl) (Nat.le_of_ble_eq_true rfl)
    · have hG := hG.trans (if_neg c_2)
      exact ct_s (As := [.int many, .int 1, .int 100]) (rest := []) hC.1 hI.2 hJ (tX7_checkRange l hfl many 1 100 c_2) (va_cwS 3 hts gX7_sample_X7_checkRange rfl rfl rfl (by decide +kernel) ⟨Nat.le_of_ble_eq_true rfl, Nat.le_of_ble_eq_true rfl⟩) rfl hl.1 rfl (Nat.le_of_ble_eq_true rfl) dX7_sample_11 ⟨Nat.le_of_ble_eq_true rfl, Nat.le_of_ble_eq_true rfl⟩ hno hlocks (xf_of hI (by decide) (congrArg (fun z => z.2.1) hG)) (fun _ h => h) (Nat.le_of_ble_eq_true rfl) (Nat.le_of_ble_eq_true rfl)
  · have hG := hG.trans (if_neg c_1)
    exact ct_v (As := [.int s_]) (rest := []) hC hI hJ (tX7_schemeAt l hfl D cy g S e0 hV s_ c_1) (cwV 1 hts gX7_sample_X7_schemeAt rfl rfl rfl (by decide +kernel) ⟨Nat.le_of_ble_eq_true rfl, Nat.le_of_ble_eq_true rfl⟩) rfl hl.1 rfl (Nat.le_of_ble_eq_true rfl) dX7_sample_2 ⟨Nat.le_of_ble_eq_true rfl, Nat.le_of_ble_eq_true rfl⟩ hno hlocks (xf_of hI (by decide) (congrArg (fun z => z.2.1) hG)) (fun _ h => h) (Nat.le_of_ble_eq_true rfl) (Nat.le_of_ble_eq_true rfl)
set_option maxHeartbeats 4000000 in
set_option maxRecDepth 100000 in
theorem qX7_learn (l : Launch) (hfl : l.stackTraces = false) (A : Nat → Prop) (D : va_G) (cy : Nat → ClassId) (g : CWt) (hL : CL A g) (S : St) (e0 : Nat) (hV : CV e0 g S) (t : Int32) (fact : Int32) : vx_Met l yX7_learn wsX7_learn ({ frames := 8, cells := 1, slots := 6, locals := 124 } : Room) (va_Pc [.ref (ga g 18 0), .int t, .int fact] (fun U => CP D cy g S U ∧ JT A U U.heap)) (va_Qi (fun (r : Int32) (_ : Unit) => (fX7_learn S t fact).2.1 = 0 ∧ r = (fX7_learn S t fact).1) (fun _ t9 => CH D cy g (fX7_learn S t fact).2.2 t9.heap) A) (XF A D cy g S (fX7_learn S t fact).2.1) 1 6 A := by
  refine vx_ofW (cc := cX7_learn) (maxL := 4) (ret := (some .int)) (by decide) rfl ?_
  intro p e s m args below meth c s₁ B hml hno hv
  obtain ⟨rfl, ⟨hM, hK⟩, hJ⟩ := hv
  have hx := B.exec
  have hb := B.bytes
  have hr := B.returns
  have hts := atoms_spec (ws := wsX7_learn) B.pre
  have hown : s.vm.findClass RX7 = some m.cls := findClass_of_methodNamed B.named
  have hlocks := B.notSynchronized
  have hC : CC p s m _ c cX7_learn 4 RX7 D cy wsX7_learn := ⟨⟨hx, hb, hml, hown, hts⟩, hK⟩
  have hI : CI A D cy g s S s.heap [] := ⟨hM, va_S.rf⟩
  have hT := hV.2.1
  have hN := hV.2.2.1
  have hQ := hV.2.2.2
  have hb7 := hN.b7
  have hb15 := hN.b15
  have hb23 := hN.b23
  have hb28 := hN.b28
  have hb42 := hN.b42
  have hb64 := hQ.b64
  have k_121 := hts (.fieldLink RX7 121 "RelatorsBench$Teller" "facts" "I") (List.mem_cons_of_mem _ (List.mem_append_left _ (List.mem_append_left _ (List.mem_append_left _ (List.mem_of_getElem? (i := 0) rfl)))))
  have hinX6 : ∀ w ∈ wsX60, w ∈ wsX7_learn := fun _ h => List.mem_cons_of_mem _ (List.mem_append_left _ (List.mem_append_left _ (List.mem_append_right _ (h))))
  have hl := lv_entry ([.ref (ga g 18 0), .int t, .int fact]) (n := 4) (Nat.le_of_ble_eq_true rfl)
  rw [lg_entry_eq]
  generalize (lg_sl ([.ref (ga g 18 0), .int t, .int fact]) ++ List.replicate (4 - (lg_sl ([.ref (ga g 18 0), .int t, .int fact])).length) Slot.unset).toArray = ls at hl ⊢
  have hl : lv_has ls 4 [(0, .ref (ga g 18 0)), (1, .int t), (2, .int fact)] := hl
  have hG : fX7_learn S t fact = fX7_learn S t fact := rfl
  refine lv_aload_n hx hb dX7_learn_0 rfl (lv_at hl 0 rfl) ?_
  refine lv_iload_n hx hb dX7_learn_1 rfl (lv_at hl 1 rfl) ?_
  by_cases c_1 : okI t 8
  · have hG := hG.trans (if_pos c_1)
    refine cr_callR (As := [.int t]) (rest := []) hC hI (qX7_tellerAt l D cy g S e0 hV t c_1) (cwV 1 hts gX7_learn_X7_tellerAt rfl rfl rfl (by decide +kernel) ⟨Nat.le_of_ble_eq_true rfl, Nat.le_of_ble_eq_true rfl⟩) (cr_prev (ci := 8) hC hI 18 0 rfl rfl rfl) rfl hl.1 rfl (Nat.le_of_ble_eq_true rfl) dX7_learn_2 ⟨Nat.zero_le _, Nat.zero_le _⟩ (fun H locs hI => ?_)
    refine lv_astore_n (lv' := [(3, .ref (ga g 4 (ix t))), (0, .ref (ga g 18 0)), (1, .int t), (2, .int fact)]) hx hb dX7_learn_5 rfl hl (by decide) rfl (fun ls hl => ?_)
    refine lv_iload_n hx hb dX7_learn_6 rfl (lv_at hl 3 rfl) ?_
    refine lv_bipush (v := 16) hx hb dX7_learn_7 (by decide) ?_
    by_cases c_2 : okI fact 16
    · have hG := hG.trans (if_pos c_2)
      refine cr_pass (As := [.int fact, .int 16]) (rest := []) hC hI (qX7_checkIndex l fact 16 c_2) (va_cwS 2 hts gX7_learn_X7_checkIndex rfl rfl rfl (by decide +kernel) ⟨Nat.le_of_ble_eq_true rfl, Nat.le_of_ble_eq_true rfl⟩) rfl hl.1 rfl (Nat.le_of_ble_eq_true rfl) dX7_learn_9 ⟨Nat.zero_le _, Nat.zero_le _⟩ (fun H locs hI => ?_)
      refine lv_aload_n hx hb dX7_learn_12 rfl (lv_at hl 0 rfl) ?_
      refine lv_dup hx hb dX7_learn_13 rfl ?_
      refine cr_get (ci := 7) hC hI 4 (ix t) (okI_l (N := 8) c_1 (by decide) (by decide)) rfl rfl hinX6 0 (by decide) k_121 (fun _ h => h) (v := .int (S 21 (ix t))) rfl dX7_learn_14 ?_
      refine lv_iconst (v := 1) hx hb dX7_learn_17 (by decide) ?_
      refine lv_iload_n hx hb dX7_learn_18 rfl (lv_at hl 3 rfl) ?_
      refine lv_ishl hx hb dX7_learn_19 ?_
      refine lv_ior hx hb dX7_learn_20 ?_
      refine cr_put (ci := 7) (v := .int ((S 21 (ix t)) ||| (1 <<< (fact &&& 31)))) (ty := .int) (S' := (up S 21 (ix t) ((S 21 (ix t)) ||| (1 <<< (fact &&& 31))))) hC hL hI 4 (ix t) (okI_l (N := 8) c_1 (by decide) (by decide)) rfl rfl hinX6 tyX6 tyX6_ok nmX6 0 (by decide) k_121 (fun _ h => h) rfl (by decide +kernel) rfl rfl (Nat.le_of_ble_eq_true rfl) (cn_21 (ix t) _) (cu_21 (ix t) _) dX7_learn_21 (fun H locs hI => ?_)
      refine lv_aload_n hx hb dX7_learn_24 rfl (lv_at hl 0 rfl) ?_
      refine cr_get (ci := 7) hC hI 4 (ix t) (okI_l (N := 8) c_1 (by decide) (by decide)) rfl rfl hinX6 0 (by decide) k_121 (fun _ h => h) (v := .int ((S 21 (ix t)) ||| (1 <<< (fact &&& 31)))) (congrArg (fun z => some (Value.int z)) (up_at _ _ _ _)) dX7_learn_25 ?_
      refine cr_callS (As := [.int ((S 21 (ix t)) ||| (1 <<< (fact &&& 31)))]) (rest := []) hC hI (qbc l ((S 21 (ix t)) ||| (1 <<< (fact &&& 31)))) (va_cwS 1 hts gX7_learn_J6_bitCount_0f7a4 rfl rfl rfl (by decide +kernel) ⟨Nat.le_of_ble_eq_true rfl, Nat.le_of_ble_eq_true rfl⟩) rfl hl.1 rfl (Nat.le_of_ble_eq_true rfl) dX7_learn_28 ⟨Nat.zero_le _, Nat.zero_le _⟩ (fun H locs hI => ?_)
      refine vx_ret ?_
      refine W.widen (k := 1) (n := 6) (Nat.zero_le _) (Nat.zero_le _) ?_
      exact W.iret (v := (fbc ((S 21 (ix t)) ||| (1 <<< (fact &&& 31))))) hx hb hr (fun t9 ht9 hW9 => ⟨⟨(fbc ((S 21 (ix t)) ||| (1 <<< (fact &&& 31)))), (), rfl, ⟨congrArg (fun z => z.2.1) hG, (congrArg Prod.fst hG).symm⟩, by show CH D cy g _ t9.heap; rw [ht9, hG]; exact hI.1⟩, hI.2.F ht9⟩) hI.2.2.2 dX7_learn_31
    · have hG := hG.trans (if_neg c_2)
      exact ct_s (As := [.int fact, .int 16]) (rest := []) hC.1 hI.2 hJ (tX7_checkIndex l hfl fact 16 c_2) (va_cwS 2 hts gX7_learn_X7_checkIndex rfl rfl rfl (by decide +kernel) ⟨Nat.le_of_ble_eq_true rfl, Nat.le_of_ble_eq_true rfl⟩) rfl hl.1 rfl (Nat.le_of_ble_eq_true rfl) dX7_learn_9 ⟨Nat.le_of_ble_eq_true rfl, Nat.le_of_ble_eq_true rfl⟩ hno hlocks (xf_of hI (by decide) (congrArg (fun z => z.2.1) hG)) (fun _ h => h) (Nat.le_of_ble_eq_true rfl) (Nat.le_of_ble_eq_true rfl)
  · have hG := hG.trans (if_neg c_1)
    exact ct_v (As := [.int t]) (rest := []) hC hI hJ (tX7_tellerAt l hfl D cy g S e0 hV t c_1) (cwV 1 hts gX7_learn_X7_tellerAt rfl rfl rfl (by decide +kernel) ⟨Nat.le_of_ble_eq_true rfl, Nat.le_of_ble_eq_true rfl⟩) rfl hl.1 rfl (Nat.le_of_ble_eq_true rfl) dX7_learn_2 ⟨Nat.le_of_ble_eq_true rfl, Nat.le_of_ble_eq_true rfl⟩ hno hlocks (xf_of hI (by decide) (congrArg (fun z => z.2.1) hG)) (fun _ h => h) (Nat.le_of_ble_eq_true rfl) (Nat.le_of_ble_eq_true rfl)
set_option maxHeartbeats 4000000 in
set_option maxRecDepth 100000 in
theorem qX7_publish (l : Launch) (hfl : l.stackTraces = false) (A : Nat → Prop) (D : va_G) (cy : Nat → ClassId) (g : CWt) (hL : CL A g) (S : St) (e0 : Nat) (hV : CV e0 g S) (fact : Int32) : vx_Met l yX7_publish wsX7_publish ({ frames := 7, cells := 1, slots := 6, locals := 103 } : Room) (va_Pc [.ref (ga g 18 0), .int fact] (fun U => CP D cy g S U ∧ JT A U U.heap)) (va_Qi (fun (r : Int32) (_ : Unit) => (fX7_publish S fact).2.1 = 0 ∧ r = (fX7_publish S fact).1) (fun _ t9 => CH D cy g (fX7_publish S fact).2.2 t9.heap) A) (XF A D cy g S (fX7_publish S fact).2.1) 1 6 A := by
  refine vx_ofW (cc := cX7_publish) (maxL := 2) (ret := (some .int)) (by decide) rfl ?_
  intro p e s m args below meth c s₁ B hml hno hv
  obtain ⟨rfl, ⟨hM, hK⟩, hJ⟩ := hv
  have hx := B.exec
  have hb := B.bytes
  have hr := B.returns
  have hts := atoms_spec (ws := wsX7_publish) B.pre
  have hown : s.vm.findClass RX7 = some m.cls := findClass_of_methodNamed B.named
  have hlocks := B.notSynchronized
  have hC : CC p s m _ c cX7_publish 2 RX7 D cy wsX7_publish := ⟨⟨hx, hb, hml, hown, hts⟩, hK⟩
  have hI : CI A D cy g s S s.heap [] := ⟨hM, va_S.rf⟩
  have hT := hV.2.1
  have hN := hV.2.2.1
  have hQ := hV.2.2.2
  have hb7 := hN.b7
  have hb15 := hN.b15
  have hb23 := hN.b23
  have hb28 := hN.b28
  have hb42 := hN.b42
  have hb64 := hQ.b64
  have k_21 := hts (.fieldLink RX7 21 "RelatorsBench" "publicFrom" "[I") (List.mem_cons_of_mem _ (List.mem_append_left _ (List.mem_append_left _ (List.mem_of_getElem? (i := 0) rfl))))
  have hinX7 : ∀ w ∈ wsX70, w ∈ wsX7_publish := fun _ h => List.mem_cons_of_mem _ (List.mem_append_left _ (List.mem_append_right _ (h)))
  have k_51 := hts (.fieldLink RX7 51 "RelatorsBench" "today" "I") (List.mem_cons_of_mem _ (List.mem_append_left _ (List.mem_append_left _ (List.mem_of_getElem? (i := 1) rfl))))
  have hl := lv_entry ([.ref (ga g 18 0), .int fact]) (n := 2) (Nat.le_of_ble_eq_true rfl)
  rw [lg_entry_eq]
  generalize (lg_sl ([.ref (ga g 18 0), .int fact]) ++ List.replicate (2 - (lg_sl ([.ref (ga g 18 0), .int fact])).length) Slot.unset).toArray = ls at hl ⊢
  have hl : lv_has ls 2 [(0, .ref (ga g 18 0)), (1, .int fact)] := hl
  have hG : fX7_publish S fact = fX7_publish S fact := rfl
  refine lv_iload_n hx hb dX7_publish_0 rfl (lv_at hl 1 rfl) ?_
  refine lv_bipush (v := 16) hx hb dX7_publish_1 (by decide) ?_
  by_cases c_1 : okI fact 16
  · have hG := hG.trans (if_pos c_1)
    refine cr_pass (As := [.int fact, .int 16]) (rest := []) hC hI (qX7_checkIndex l fact 16 c_1) (va_cwS 2 hts gX7_publish_X7_checkIndex rfl rfl rfl (by decide +kernel) ⟨Nat.le_of_ble_eq_true rfl, Nat.le_of_ble_eq_true rfl⟩) rfl hl.1 rfl (Nat.le_of_ble_eq_true rfl) dX7_publish_3 ⟨Nat.zero_le _, Nat.zero_le _⟩ (fun H locs hI => ?_)
    refine lv_aload_n hx hb dX7_publish_6 rfl (lv_at hl 0 rfl) ?_
    refine cr_get (ci := 8) hC hI 18 0 rfl rfl rfl hinX7 2 (by decide) k_21 (fun _ h => h) (v := .ref (ga g 16 0)) rfl dX7_publish_7 ?_
    refine lv_iload_n hx hb dX7_publish_10 rfl (lv_at hl 1 rfl) ?_
    refine cr_iald (N := 16) (f := (S 20)) hC hI 16 0 rfl rfl (okI_in (N := 16) c_1 (by decide) (by decide)) (v := (S 20 (ix fact))) rfl dX7_publish_11 ?_
    refine lv_iconst (v := (-1)) hx hb dX7_publish_12 (by decide) ?_
    refine lv_icmp_ne (tgt := 26) hx hb dX7_publish_13 (by decide) (fun c_2 => ?_) (fun c_2 => ?_)
    · have hG := hG.trans (if_neg c_2)
      refine lv_aload_n hx hb dX7_publish_26 rfl (lv_at hl 0 rfl) ?_
      refine lv_aload_n hx hb dX7_publish_27 rfl (lv_at hl 0 rfl) ?_
      refine cr_get (ci := 8) hC hI 18 0 rfl rfl rfl hinX7 10 (by decide) k_51 (fun _ h => h) (v := .int (S 1 0)) rfl dX7_publish_28 ?_
      refine cr_call (As := [.int (S 1 0)]) (rest := []) hC hI (qX7_publicBy l D cy g S e0 hV (S 1 0)) (cwV 1 hts gX7_publish_X7_publicBy rfl rfl rfl (by decide +kernel) ⟨Nat.le_of_ble_eq_true rfl, Nat.le_of_ble_eq_true rfl⟩) (cr_prev (ci := 8) hC hI 18 0 rfl rfl rfl) rfl hl.1 rfl (Nat.le_of_ble_eq_true rfl) dX7_publish_31 ⟨Nat.zero_le _, Nat.zero_le _⟩ (fun H locs hI => ?_)
      refine cr_callS (As := [.int (fX7_publicBy S (S 1 0))]) (rest := []) hC hI (qbc l (fX7_publicBy S (S 1 0))) (va_cwS 1 hts gX7_publish_J6_bitCount_0f7a4 rfl rfl rfl (by decide +kernel) ⟨Nat.le_of_ble_eq_true rfl, Nat.le_of_ble_eq_true rfl⟩) rfl hl.1 rfl (Nat.le_of_ble_eq_true rfl) dX7_publish_34 ⟨Nat.zero_le _, Nat.zero_le _⟩ (fun H locs hI => ?_)
      refine vx_ret ?_
      refine W.widen (k := 1) (n := 6) (Nat.zero_le _) (Nat.zero_le _) ?_
      exact W.iret (v := (fbc (fX7_publicBy S (S 1 0)))) hx hb hr (fun t9 ht9 hW9 => ⟨⟨(fbc (fX7_publicBy S (S 1 0))), (), rfl, ⟨congrArg (fun z => z.2.1) hG, (congrArg Prod.fst hG).symm⟩, by show CH D cy g _ t9.heap; rw [ht9, hG]; exact hI.1⟩, hI.2.F ht9⟩) hI.2.2.2 dX7_publish_37
    · have hG := hG.trans (if_pos c_2)
      refine lv_aload_n hx hb dX7_publish_16 rfl (lv_at hl 0 rfl) ?_
      refine cr_get (ci := 8) hC hI 18 0 rfl rfl rfl hinX7 2 (by decide) k_21 (fun _ h => h) (v := .ref (ga g 16 0)) rfl dX7_publish_17 ?_
      refine lv_iload_n hx hb dX7_publish_20 rfl (lv_at hl 1 rfl) ?_
      refine lv_aload_n hx hb dX7_publish_21 rfl (lv_at hl 0 rfl) ?_
      refine cr_get (ci := 8) hC hI 18 0 rfl rfl rfl hinX7 10 (by decide) k_51 (fun _ h => h) (v := .int (S 1 0)) rfl dX7_publish_22 ?_
      refine cr_iast (N := 16) (f := (S 20)) (f' := ((up S 20 (ix fact) (S 1 0)) 20)) (S' := (up S 20 (ix fact) (S 1 0))) hC hL hI 16 0 rfl rfl (okI_in (N := 16) c_1 (by decide) (by decide)) rfl (st_f0 rfl) (cu_20 (ix fact) _) dX7_publish_25 (fun H locs hI => ?_)
      refine lv_aload_n hx hb dX7_publish_26 rfl (lv_at hl 0 rfl) ?_
      refine lv_aload_n hx hb dX7_publish_27 rfl (lv_at hl 0 rfl) ?_
      refine cr_get (ci := 8) hC hI 18 0 rfl rfl rfl hinX7 10 (by decide) k_51 (fun _ h => h) (v := .int (S 1 0)) (congrArg (fun z => some (Value.int z)) (congrFun (up_ne (by decide)) _)) dX7_publish_28 ?_
      refine cr_call (As := [.int (S 1 0)]) (rest := []) hC hI (qX7_publicBy l D cy g (up S 20 (ix fact) (S 1 0)) e0 (hV.congr ⟨rfl, rfl, rfl, rfl, rfl, rfl, rfl, rfl, rfl, rfl, rfl, rfl, rfl, rfl⟩ ⟨rfl, rfl⟩) (S 1 0)) (cwV 1 hts gX7_publish_X7_publicBy rfl rfl rfl (by decide +kernel) ⟨Nat.le_of_ble_eq_true rfl, Nat.le_of_ble_eq_true rfl⟩) (cr_prev (ci := 8) hC hI 18 0 rfl rfl rfl) rfl hl.1 rfl (Nat.le_of_ble_eq_true rfl) dX7_publish_31 ⟨Nat.zero_le _, Nat.zero_le _⟩ (fun H locs hI => ?_)
      refine cr_callS (As := [.int (fX7_publicBy (up S 20 (ix fact) (S 1 0)) (S 1 0))]) (rest := []) hC hI (qbc l (fX7_publicBy (up S 20 (ix fact) (S 1 0)) (S 1 0))) (va_cwS 1 hts gX7_publish_J6_bitCount_0f7a4 rfl rfl rfl (by decide +kernel) ⟨Nat.le_of_ble_eq_true rfl, Nat.le_of_ble_eq_true rfl⟩) rfl hl.1 rfl (Nat.le_of_ble_eq_true rfl) dX7_publish_34 ⟨Nat.zero_le _, Nat.zero_le _⟩ (fun H locs hI => ?_)
      refine vx_ret ?_
      refine W.widen (k := 1) (n := 6) (Nat.zero_le _) (Nat.zero_le _) ?_
      exact W.iret (v := (fbc (fX7_publicBy (up S 20 (ix fact) (S 1 0)) (S 1 0)))) hx hb hr (fun t9 ht9 hW9 => ⟨⟨(fbc (fX7_publicBy (up S 20 (ix fact) (S 1 0)) (S 1 0))), (), rfl, ⟨congrArg (fun z => z.2.1) hG, (congrArg Prod.fst hG).symm⟩, by show CH D cy g _ t9.heap; rw [ht9, hG]; exact hI.1⟩, hI.2.F ht9⟩) hI.2.2.2 dX7_publish_37
  · have hG := hG.trans (if_neg c_1)
    exact ct_s (As := [.int fact, .int 16]) (rest := []) hC.1 hI.2 hJ (tX7_checkIndex l hfl fact 16 c_1) (va_cwS 2 hts gX7_publish_X7_checkIndex rfl rfl rfl (by decide +kernel) ⟨Nat.le_of_ble_eq_true rfl, Nat.le_of_ble_eq_true rfl⟩) rfl hl.1 rfl (Nat.le_of_ble_eq_true rfl) dX7_publish_3 ⟨Nat.le_of_ble_eq_true rfl, Nat.le_of_ble_eq_true rfl⟩ hno hlocks (xf_of hI (by decide) (congrArg (fun z => z.2.1) hG)) (fun _ h => h) (Nat.le_of_ble_eq_true rfl) (Nat.le_of_ble_eq_true rfl)
set_option maxHeartbeats 4000000 in
set_option maxRecDepth 100000 in
theorem qX7_plan (l : Launch) (hfl : l.stackTraces = false) (A : Nat → Prop) (D : va_G) (cy : Nat → ClassId) (g : CWt) (hL : CL A g) (S : St) (e0 : Nat) (hV : CV e0 g S) (t : Int32) (s_ : Int32) : vx_Met l yX7_plan wsX7_plan ({ frames := 8, cells := 1, slots := 6, locals := 124 } : Room) (va_Pc [.ref (ga g 18 0), .int t, .int s_] (fun U => CP D cy g S U ∧ JT A U U.heap)) (va_Qi (fun (r : Int32) (_ : Unit) => (fX7_plan S t s_).2.1 = 0 ∧ r = (fX7_plan S t s_).1) (fun _ t9 => CH D cy g (fX7_plan S t s_).2.2 t9.heap) A) (XF A D cy g S (fX7_plan S t s_).2.1) 1 6 A := by
  refine vx_ofW (cc := cX7_plan) (maxL := 5) (ret := (some .boolean)) (by decide) rfl ?_
  intro p e s m args below meth c s₁ B hml hno hv
  obtain ⟨rfl, ⟨hM, hK⟩, hJ⟩ := hv
  have hx := B.exec
  have hb := B.bytes
  have hr := B.returns
  have hts := atoms_spec (ws := wsX7_plan) B.pre
  have hown : s.vm.findClass RX7 = some m.cls := findClass_of_methodNamed B.named
  have hlocks := B.notSynchronized
  have hC : CC p s m _ c cX7_plan 5 RX7 D cy wsX7_plan := ⟨⟨hx, hb, hml, hown, hts⟩, hK⟩
  have hI : CI A D cy g s S s.heap [] := ⟨hM, va_S.rf⟩
  have hT := hV.2.1
  have hN := hV.2.2.1
  have hQ := hV.2.2.2
  have hb7 := hN.b7
  have hb15 := hN.b15
  have hb23 := hN.b23
  have hb28 := hN.b28
  have hb42 := hN.b42
  have hb64 := hQ.b64
  have k_137 := hts (.fieldLink RX7 137 "RelatorsBench$Scheme" "planners" "I") (List.mem_cons_of_mem _ (List.mem_append_left _ (List.mem_append_left _ (List.mem_append_left _ (List.mem_append_left _ (List.mem_append_left _ (List.mem_of_getElem? (i := 0) rfl)))))))
  have hinX4 : ∀ w ∈ wsX40, w ∈ wsX7_plan := fun _ h => List.mem_cons_of_mem _ (List.mem_append_left _ (List.mem_append_left _ (List.mem_append_left _ (List.mem_append_right _ (h)))))
  have hl := lv_entry ([.ref (ga g 18 0), .int t, .int s_]) (n := 5) (Nat.le_of_ble_eq_true rfl)
  rw [lg_entry_eq]
  generalize (lg_sl ([.ref (ga g 18 0), .int t, .int s_]) ++ List.replicate (5 - (lg_sl ([.ref (ga g 18 0), .int t, .int s_])).length) Slot.unset).toArray = ls at hl ⊢
  have hl : lv_has ls 5 [(0, .ref (ga g 18 0)), (1, .int t), (2, .int s_)] := hl
  have hG : fX7_plan S t s_ = fX7_plan S t s_ := rfl
  refine lv_iload_n hx hb dX7_plan_0 rfl (lv_at hl 1 rfl) ?_
  refine lv_bipush (v := 8) hx hb dX7_plan_1 (by decide) ?_
  by_cases c_1 : okI t 8
  · have hG := hG.trans (if_pos c_1)
    refine cr_pass (As := [.int t, .int 8]) (rest := []) hC hI (qX7_checkIndex l t 8 c_1) (va_cwS 2 hts gX7_plan_X7_checkIndex rfl rfl rfl (by decide +kernel) ⟨Nat.le_of_ble_eq_true rfl, Nat.le_of_ble_eq_true rfl⟩) rfl hl.1 rfl (Nat.le_of_ble_eq_true rfl) dX7_plan_3 ⟨Nat.zero_le _, Nat.zero_le _⟩ (fun H locs hI => ?_)
    refine lv_aload_n hx hb dX7_plan_6 rfl (lv_at hl 0 rfl) ?_
    refine lv_iload_n hx hb dX7_plan_7 rfl (lv_at hl 2 rfl) ?_
    by_cases c_2 : okI s_ (S 7 0)
    · have hG := hG.trans (if_pos c_2)
      refine cr_callR (As := [.int s_]) (rest := []) hC hI (qX7_schemeAt l D cy g S e0 hV s_ c_2) (cwV 1 hts gX7_plan_X7_schemeAt rfl rfl rfl (by decide +kernel) ⟨Nat.le_of_ble_eq_true rfl, Nat.le_of_ble_eq_true rfl⟩) (cr_prev (ci := 8) hC hI 18 0 rfl rfl rfl) rfl hl.1 rfl (Nat.le_of_ble_eq_true rfl) dX7_plan_8 ⟨Nat.zero_le _, Nat.zero_le _⟩ (fun H locs hI => ?_)
      refine lv_astore_n (lv' := [(3, .ref (ga g 5 (ix s_))), (0, .ref (ga g 18 0)), (1, .int t), (2, .int s_)]) hx hb dX7_plan_11 rfl hl (by decide) rfl (fun ls hl => ?_)
      refine lv_aload_n hx hb dX7_plan_12 rfl (lv_at hl 0 rfl) ?_
      refine lv_iload_n hx hb dX7_plan_13 rfl (lv_at hl 2 rfl) ?_
      refine cr_call (As := [.int t]) (rest := []) hC hI (qX4_isPlannedBy l D cy g S e0 hV (ix s_) (okI_l c_2 hN.n7 (by have := hN.b7; omega)) t) (cwV 1 hts gX7_plan_X4_isPlannedBy rfl rfl rfl (by decide +kernel) ⟨Nat.le_of_ble_eq_true rfl, Nat.le_of_ble_eq_true rfl⟩) (cr_prev (ci := 5) hC hI 5 (ix s_) (hT.v5 (okI_l c_2 hN.n7 (by have := hN.b7; omega))) rfl rfl) rfl hl.1 rfl (Nat.le_of_ble_eq_true rfl) dX7_plan_14 ⟨Nat.zero_le _, Nat.zero_le _⟩ (fun H locs hI => ?_)
      refine lv_istore (lv' := [(4, .int (fX4_isPlannedBy S (ix s_) t)), (3, .ref (ga g 5 (ix s_))), (0, .ref (ga g 18 0)), (1, .int t), (2, .int s_)]) hx hb dX7_plan_17 hl (by decide) rfl (fun ls hl => ?_)
      refine lv_aload_n hx hb dX7_plan_19 rfl (lv_at hl 1 rfl) ?_
      refine lv_dup hx hb dX7_plan_20 rfl ?_
      refine cr_get (ci := 5) hC hI 5 (ix s_) (hT.v5 (okI_l c_2 hN.n7 (by have := hN.b7; omega))) rfl rfl hinX4 8 (by decide) k_137 (fun _ h => h) (v := .int (S 61 (ix s_))) rfl dX7_plan_21 ?_
      refine lv_iconst (v := 1) hx hb dX7_plan_24 (by decide) ?_
      refine lv_iload_n hx hb dX7_plan_25 rfl (lv_at hl 3 rfl) ?_
      refine lv_ishl hx hb dX7_plan_26 ?_
      refine lv_ior hx hb dX7_plan_27 ?_
      refine cr_put (ci := 5) (v := .int ((S 61 (ix s_)) ||| (1 <<< (t &&& 31)))) (ty := .int) (S' := (up S 61 (ix s_) ((S 61 (ix s_)) ||| (1 <<< (t &&& 31))))) hC hL hI 5 (ix s_) (hT.v5 (okI_l c_2 hN.n7 (by have := hN.b7; omega))) rfl rfl hinX4 tyX4 tyX4_ok nmX4 8 (by decide) k_137 (fun _ h => h) rfl (by decide +kernel) rfl rfl (Nat.le_of_ble_eq_true rfl) (cn_61 (ix s_) _) (cu_61 (ix s_) _) dX7_plan_28 (fun H locs hI => ?_)
      refine lv_iload hx hb dX7_plan_31 (lv_at hl 0 rfl) ?_
      refine vx_ret ?_
      refine W.widen (k := 1) (n := 6) (Nat.zero_le _) (Nat.zero_le _) ?_
      exact W.zret (v := (fX4_isPlannedBy S (ix s_) t)) (ty := .boolean) hx hb hr (planned_nar _ _ _) (fun t9 ht9 hW9 => ⟨⟨(fX4_isPlannedBy S (ix s_) t), (), rfl, ⟨congrArg (fun z => z.2.1) hG, (congrArg Prod.fst hG).symm⟩, by show CH D cy g _ t9.heap; rw [ht9, hG]; exact hI.1⟩, hI.2.F ht9⟩) hI.2.2.2 dX7_plan_33
    · have hG := hG.trans (if_neg c_2)
      exact ct_v (As := [.int s_]) (rest := []) hC hI hJ (tX7_schemeAt l hfl D cy g S e0 hV s_ c_2) (cwV 1 hts gX7_plan_X7_schemeAt rfl rfl rfl (by decide +kernel) ⟨Nat.le_of_ble_eq_true rfl, Nat.le_of_ble_eq_true rfl⟩) rfl hl.1 rfl (Nat.le_of_ble_eq_true rfl) dX7_plan_8 ⟨Nat.le_of_ble_eq_true rfl, Nat.le_of_ble_eq_true rfl⟩ hno hlocks (xf_of hI (by decide) (congrArg (fun z => z.2.1) hG)) (fun _ h => h) (Nat.le_of_ble_eq_true rfl) (Nat.le_of_ble_eq_true rfl)
  · have hG := hG.trans (if_neg c_1)
    exact ct_s (As := [.int t, .int 8]) (rest := []) hC.1 hI.2 hJ (tX7_checkIndex l hfl t 8 c_1) (va_cwS 2 hts gX7_plan_X7_checkIndex rfl rfl rfl (by decide +kernel) ⟨Nat.le_of_ble_eq_true rfl, Nat.le_of_ble_eq_true rfl⟩) rfl hl.1 rfl (Nat.le_of_ble_eq_true rfl) dX7_plan_3 ⟨Nat.le_of_ble_eq_true rfl, Nat.le_of_ble_eq_true rfl⟩ hno hlocks (xf_of hI (by decide) (congrArg (fun z => z.2.1) hG)) (fun _ h => h) (Nat.le_of_ble_eq_true rfl) (Nat.le_of_ble_eq_true rfl)
set_option maxHeartbeats 4000000 in
set_option maxRecDepth 100000 in
theorem qX7_know (l : Launch) (hfl : l.stackTraces = false) (A : Nat → Prop) (D : va_G) (cy : Nat → ClassId) (g : CWt) (hL : CL A g) (S : St) (e0 : Nat) (hV : CV e0 g S) (s_ : Int32) : vx_Met l yX7_know wsX7_know ({ frames := 8, cells := 1, slots := 6, locals := 124 } : Room) (va_Pc [.ref (ga g 18 0), .int s_] (fun U => CP D cy g S U ∧ JT A U U.heap)) (va_Qi (fun (r : Int32) (_ : Unit) => (fX7_know S s_).2.1 = 0 ∧ r = (fX7_know S s_).1) (fun _ t9 => CH D cy g (fX7_know S s_).2.2 t9.heap) A) (XF A D cy g S (fX7_know S s_).2.1) 1 6 A := by
  refine vx_ofW (cc := cX7_know) (maxL := 4) (ret := (some .boolean)) (by decide) rfl ?_
  intro p e s m args below meth c s₁ B hml hno hv
  obtain ⟨rfl, ⟨hM, hK⟩, hJ⟩ := hv
  have hx := B.exec
  have hb := B.bytes
  have hr := B.returns
  have hts := atoms_spec (ws := wsX7_know) B.pre
  have hown : s.vm.findClass RX7 = some m.cls := findClass_of_methodNamed B.named
  have hlocks := B.notSynchronized
  have hC : CC p s m _ c cX7_know 4 RX7 D cy wsX7_know := ⟨⟨hx, hb, hml, hown, hts⟩, hK⟩
  have hI : CI A D cy g s S s.heap [] := ⟨hM, va_S.rf⟩
  have hT := hV.2.1
  have hN := hV.2.2.1
  have hQ := hV.2.2.2
  have hb7 := hN.b7
  have hb15 := hN.b15
  have hb23 := hN.b23
  have hb28 := hN.b28
  have hb42 := hN.b42
  have hb64 := hQ.b64
  have k_140 := hts (.fieldLink RX7 140 "RelatorsBench$Scheme" "knownFrom" "I") (List.mem_cons_of_mem _ (List.mem_append_left _ (List.mem_append_left _ (List.mem_append_left _ (List.mem_append_left _ (List.mem_append_left _ (List.mem_of_getElem? (i := 0) rfl)))))))
  have hinX4 : ∀ w ∈ wsX40, w ∈ wsX7_know := fun _ h => List.mem_cons_of_mem _ (List.mem_append_left _ (List.mem_append_left _ (List.mem_append_left _ (List.mem_append_right _ (h)))))
  have k_51 := hts (.fieldLink RX7 51 "RelatorsBench" "today" "I") (List.mem_cons_of_mem _ (List.mem_append_left _ (List.mem_append_left _ (List.mem_append_left _ (List.mem_append_left _ (List.mem_append_left _ (List.mem_of_getElem? (i := 1) rfl)))))))
  have hinX7 : ∀ w ∈ wsX70, w ∈ wsX7_know := fun _ h => List.mem_cons_of_mem _ (List.mem_append_left _ (List.mem_append_left _ (List.mem_append_right _ (h))))
  have hl := lv_entry ([.ref (ga g 18 0), .int s_]) (n := 4) (Nat.le_of_ble_eq_true rfl)
  rw [lg_entry_eq]
  generalize (lg_sl ([.ref (ga g 18 0), .int s_]) ++ List.replicate (4 - (lg_sl ([.ref (ga g 18 0), .int s_])).length) Slot.unset).toArray = ls at hl ⊢
  have hl : lv_has ls 4 [(0, .ref (ga g 18 0)), (1, .int s_)] := hl
  have hG : fX7_know S s_ = fX7_know S s_ := rfl
  refine lv_aload_n hx hb dX7_know_0 rfl (lv_at hl 0 rfl) ?_
  refine lv_iload_n hx hb dX7_know_1 rfl (lv_at hl 1 rfl) ?_
  by_cases c_1 : okI s_ (S 7 0)
  · have hG := hG.trans (if_pos c_1)
    refine cr_callR (As := [.int s_]) (rest := []) hC hI (qX7_schemeAt l D cy g S e0 hV s_ c_1) (cwV 1 hts gX7_know_X7_schemeAt rfl rfl rfl (by decide +kernel) ⟨Nat.le_of_ble_eq_true rfl, Nat.le_of_ble_eq_true rfl⟩) (cr_prev (ci := 8) hC hI 18 0 rfl rfl rfl) rfl hl.1 rfl (Nat.le_of_ble_eq_true rfl) dX7_know_2 ⟨Nat.zero_le _, Nat.zero_le _⟩ (fun H locs hI => ?_)
    refine lv_astore_n (lv' := [(2, .ref (ga g 5 (ix s_))), (0, .ref (ga g 18 0)), (1, .int s_)]) hx hb dX7_know_5 rfl hl (by decide) rfl (fun ls hl => ?_)
    refine lv_aload_n hx hb dX7_know_6 rfl (lv_at hl 0 rfl) ?_
    refine cr_get (ci := 5) hC hI 5 (ix s_) (hT.v5 (okI_l c_1 hN.n7 (by have := hN.b7; omega))) rfl rfl hinX4 6 (by decide) k_140 (fun _ h => h) (v := .int (S 13 (ix s_))) rfl dX7_know_7 ?_
    refine lv_iconst (v := (-1)) hx hb dX7_know_10 (by decide) ?_
    refine lv_icmp_eq (tgt := 18) hx hb dX7_know_11 (by decide) (fun c_2 => ?_) (fun c_2 => ?_)
    · have hG := hG.trans (if_pos c_2)
      refine lv_iconst (v := 0) hx hb dX7_know_18 (by decide) ?_
      refine lv_istore_n (lv' := [(3, .int 0), (2, .ref (ga g 5 (ix s_))), (0, .ref (ga g 18 0)), (1, .int s_)]) hx hb dX7_know_19 rfl hl (by decide) rfl (fun ls hl => ?_)
      refine lv_iload_n hx hb dX7_know_20 rfl (lv_at hl 0 rfl) ?_
      refine lv_if_ne (tgt := 32) hx hb dX7_know_21 (by decide) (fun c => absurd (by decide : (0 : Int32) = 0) c) (fun _ => ?_)
      refine lv_aload_n hx hb dX7_know_24 rfl (lv_at hl 1 rfl) ?_
      refine lv_aload_n hx hb dX7_know_25 rfl (lv_at hl 2 rfl) ?_
      refine cr_get (ci := 8) hC hI 18 0 rfl rfl rfl hinX7 10 (by decide) k_51 (fun _ h => h) (v := .int (S 1 0)) rfl dX7_know_26 ?_
      refine cr_put (ci := 5) (v := .int (S 1 0)) (ty := .int) (S' := (up S 13 (ix s_) (S 1 0))) hC hL hI 5 (ix s_) (hT.v5 (okI_l c_1 hN.n7 (by have := hN.b7; omega))) rfl rfl hinX4 tyX4 tyX4_ok nmX4 6 (by decide) k_140 (fun _ h => h) rfl (by decide +kernel) rfl rfl (Nat.le_of_ble_eq_true rfl) (cn_13 (ix s_) _) (cu_13 (ix s_) _) dX7_know_29 (fun H locs hI => ?_)
      refine lv_iload_n hx hb dX7_know_32 rfl (lv_at hl 0 rfl) ?_
      refine vx_ret ?_
      refine W.widen (k := 1) (n := 6) (Nat.zero_le _) (Nat.zero_le _) ?_
      exact W.zret (v := 0) (ty := .boolean) hx hb hr rfl (fun t9 ht9 hW9 => ⟨⟨0, (), rfl, ⟨congrArg (fun z => z.2.1) hG, (congrArg Prod.fst hG).symm⟩, by show CH D cy g _ t9.heap; rw [ht9, hG]; exact hI.1⟩, hI.2.F ht9⟩) hI.2.2.2 dX7_know_33
    · have hG := hG.trans (if_neg c_2)
      refine lv_iconst (v := 1) hx hb dX7_know_14 (by decide) ?_
      refine lv_goto (tgt := 19) hx hb dX7_know_15 (by decide) ?_
      refine lv_istore_n (lv' := [(3, .int 1), (2, .ref (ga g 5 (ix s_))), (0, .ref (ga g 18 0)), (1, .int s_)]) hx hb dX7_know_19 rfl hl (by decide) rfl (fun ls hl => ?_)
      refine lv_iload_n hx hb dX7_know_20 rfl (lv_at hl 0 rfl) ?_
      refine lv_if_ne (tgt := 32) hx hb dX7_know_21 (by decide) (fun _ => ?_) (fun c => absurd c (by decide : ¬ (1 : Int32) = 0))
      refine lv_iload_n hx hb dX7_know_32 rfl (lv_at hl 0 rfl) ?_
      refine vx_ret ?_
      refine W.widen (k := 1) (n := 6) (Nat.zero_le _) (Nat.zero_le _) ?_
      exact W.zret (v := 1) (ty := .boolean) hx hb hr rfl (fun t9 ht9 hW9 => ⟨⟨1, (), rfl, ⟨congrArg (fun z => z.2.1) hG, (congrArg Prod.fst hG).symm⟩, by show CH D cy g _ t9.heap; rw [ht9, hG]; exact hI.1⟩, hI.2.F ht9⟩) hI.2.2.2 dX7_know_33
  · have hG := hG.trans (if_neg c_1)
    exact ct_v (As := [.int s_]) (rest := []) hC hI hJ (tX7_schemeAt l hfl D cy g S e0 hV s_ c_1) (cwV 1 hts gX7_know_X7_schemeAt rfl rfl rfl (by decide +kernel) ⟨Nat.le_of_ble_eq_true rfl, Nat.le_of_ble_eq_true rfl⟩) rfl hl.1 rfl (Nat.le_of_ble_eq_true rfl) dX7_know_2 ⟨Nat.le_of_ble_eq_true rfl, Nat.le_of_ble_eq_true rfl⟩ hno hlocks (xf_of hI (by decide) (congrArg (fun z => z.2.1) hG)) (fun _ h => h) (Nat.le_of_ble_eq_true rfl) (Nat.le_of_ble_eq_true rfl)
set_option maxHeartbeats 4000000 in
set_option maxRecDepth 100000 in
theorem qX7_admit (l : Launch) (hfl : l.stackTraces = false) (A : Nat → Prop) (D : va_G) (cy : Nat → ClassId) (g : CWt) (hL : CL A g) (S : St) (e0 : Nat) (hV : CV e0 g S) (s_ : Int32) : vx_Met l yX7_admit wsX7_admit ({ frames := 8, cells := 1, slots := 6, locals := 124 } : Room) (va_Pc [.ref (ga g 18 0), .int s_] (fun U => CP D cy g S U ∧ JT A U U.heap)) (va_Qi (fun (r : Int32) (_ : Unit) => (fX7_admit S s_).2.1 = 0 ∧ r = (fX7_admit S s_).1) (fun _ t9 => CH D cy g (fX7_admit S s_).2.2 t9.heap) A) (XF A D cy g S (fX7_admit S s_).2.1) 1 6 A := by
  refine vx_ofW (cc := cX7_admit) (maxL := 4) (ret := (some .boolean)) (by decide) rfl ?_
  intro p e s m args below meth c s₁ B hml hno hv
  obtain ⟨rfl, ⟨hM, hK⟩, hJ⟩ := hv
  have hx := B.exec
  have hb := B.bytes
  have hr := B.returns
  have hts := atoms_spec (ws := wsX7_admit) B.pre
  have hown : s.vm.findClass RX7 = some m.cls := findClass_of_methodNamed B.named
  have hlocks := B.notSynchronized
  have hC : CC p s m _ c cX7_admit 4 RX7 D cy wsX7_admit := ⟨⟨hx, hb, hml, hown, hts⟩, hK⟩
  have hI : CI A D cy g s S s.heap [] := ⟨hM, va_S.rf⟩
  have hT := hV.2.1
  have hN := hV.2.2.1
  have hQ := hV.2.2.2
  have hb7 := hN.b7
  have hb15 := hN.b15
  have hb23 := hN.b23
  have hb28 := hN.b28
  have hb42 := hN.b42
  have hb64 := hQ.b64
  have k_147 := hts (.fieldLink RX7 147 "RelatorsBench$Scheme" "isAdmitted" "Z") (List.mem_cons_of_mem _ (List.mem_append_left _ (List.mem_append_left _ (List.mem_append_left _ (List.mem_append_left _ (List.mem_append_left _ (List.mem_append_left _ (List.mem_append_left _ (List.mem_append_left _ (List.mem_of_getElem? (i := 0) rfl))))))))))
  have hinX4 : ∀ w ∈ wsX40, w ∈ wsX7_admit := fun _ h => List.mem_cons_of_mem _ (List.mem_append_left _ (List.mem_append_left _ (List.mem_append_left _ (List.mem_append_left _ (List.mem_append_left _ (List.mem_append_left _ (List.mem_append_right _ (h))))))))
  have hl := lv_entry ([.ref (ga g 18 0), .int s_]) (n := 4) (Nat.le_of_ble_eq_true rfl)
  rw [lg_entry_eq]
  generalize (lg_sl ([.ref (ga g 18 0), .int s_]) ++ List.replicate (4 - (lg_sl ([.ref (ga g 18 0), .int s_])).length) Slot.unset).toArray = ls at hl ⊢
  have hl : lv_has ls 4 [(0, .ref (ga g 18 0)), (1, .int s_)] := hl
  have hG : fX7_admit S s_ = fX7_admit S s_ := rfl
  refine lv_aload_n hx hb dX7_admit_0 rfl (lv_at hl 0 rfl) ?_
  refine lv_iload_n hx hb dX7_admit_1 rfl (lv_at hl 1 rfl) ?_
  by_cases c_1 : okI s_ (S 7 0)
  · have hG := hG.trans (if_pos c_1)
    refine cr_callR (As := [.int s_]) (rest := []) hC hI (qX7_schemeAt l D cy g S e0 hV s_ c_1) (cwV 1 hts gX7_admit_X7_schemeAt rfl rfl rfl (by decide +kernel) ⟨Nat.le_of_ble_eq_true rfl, Nat.le_of_ble_eq_true rfl⟩) (cr_prev (ci := 8) hC hI 18 0 rfl rfl rfl) rfl hl.1 rfl (Nat.le_of_ble_eq_true rfl) dX7_admit_2 ⟨Nat.zero_le _, Nat.zero_le _⟩ (fun H locs hI => ?_)
    refine lv_astore_n (lv' := [(2, .ref (ga g 5 (ix s_))), (0, .ref (ga g 18 0)), (1, .int s_)]) hx hb dX7_admit_5 rfl hl (by decide) rfl (fun ls hl => ?_)
    refine lv_aload_n hx hb dX7_admit_6 rfl (lv_at hl 1 rfl) ?_
    refine lv_aload_n hx hb dX7_admit_7 rfl (lv_at hl 0 rfl) ?_
    refine cr_call (As := [.ref (ga g 5 (ix s_))]) (rest := []) hC hI (qX7_isCoveredInTheOpen l D cy g S e0 hV (ix s_) (okI_l c_1 hN.n7 (by have := hN.b7; omega))) (cwV 1 hts gX7_admit_X7_isCoveredInTheOpen rfl rfl rfl (by decide +kernel) ⟨Nat.le_of_ble_eq_true rfl, Nat.le_of_ble_eq_true rfl⟩) (cr_prev (ci := 8) hC hI 18 0 rfl rfl rfl) rfl hl.1 rfl (Nat.le_of_ble_eq_true rfl) dX7_admit_8 ⟨Nat.zero_le _, Nat.zero_le _⟩ (fun H locs hI => ?_)
    refine lv_if_ne (tgt := 18) hx hb dX7_admit_11 (by decide) (fun c_2 => ?_) (fun c_2 => ?_)
    · have hG := hG.trans (if_neg c_2)
      refine lv_iconst (v := 0) hx hb dX7_admit_18 (by decide) ?_
      exact ct_s (As := [.int 0]) (rest := []) hC.1 hI.2 hJ (tX7_checkState l hfl 0 (by decide)) (va_cwS 1 hts gX7_admit_X7_checkState rfl rfl rfl (by decide +kernel) ⟨Nat.le_of_ble_eq_true rfl, Nat.le_of_ble_eq_true rfl⟩) rfl hl.1 rfl (Nat.le_of_ble_eq_true rfl) dX7_admit_19 ⟨Nat.le_of_ble_eq_true rfl, Nat.le_of_ble_eq_true rfl⟩ hno hlocks (xf_of hI (by decide) (congrArg (fun z => z.2.1) hG)) (fun _ h => h) (Nat.le_of_ble_eq_true rfl) (Nat.le_of_ble_eq_true rfl)
    · have hG := hG.trans (if_pos c_2)
      refine lv_iconst (v := 1) hx hb dX7_admit_14 (by decide) ?_
      refine lv_goto (tgt := 19) hx hb dX7_admit_15 (by decide) ?_
      refine cr_pass (As := [.int 1]) (rest := []) hC hI (qX7_checkState l 1 (by decide)) (va_cwS 1 hts gX7_admit_X7_checkState rfl rfl rfl (by decide +kernel) ⟨Nat.le_of_ble_eq_true rfl, Nat.le_of_ble_eq_true rfl⟩) rfl hl.1 rfl (Nat.le_of_ble_eq_true rfl) dX7_admit_19 ⟨Nat.zero_le _, Nat.zero_le _⟩ (fun H locs hI => ?_)
      refine lv_aload_n hx hb dX7_admit_22 rfl (lv_at hl 0 rfl) ?_
      refine cr_get (ci := 5) hC hI 5 (ix s_) (hT.v5 (okI_l c_1 hN.n7 (by have := hN.b7; omega))) rfl rfl hinX4 7 (by decide) k_147 (fun _ h => h) (v := .int (S 14 (ix s_))) rfl dX7_admit_23 ?_
      refine lv_istore_n (lv' := [(3, .int (S 14 (ix s_))), (2, .ref (ga g 5 (ix s_))), (0, .ref (ga g 18 0)), (1, .int s_)]) hx hb dX7_admit_26 rfl hl (by decide) rfl (fun ls hl => ?_)
      refine lv_aload_n hx hb dX7_admit_27 rfl (lv_at hl 1 rfl) ?_
      refine lv_iconst (v := 1) hx hb dX7_admit_28 (by decide) ?_
      refine cr_put (ci := 5) (v := .int 1) (ty := .boolean) (S' := (up S 14 (ix s_) 1)) hC hL hI 5 (ix s_) (hT.v5 (okI_l c_1 hN.n7 (by have := hN.b7; omega))) rfl rfl hinX4 tyX4 tyX4_ok nmX4 7 (by decide) k_147 (fun _ h => h) rfl (by decide +kernel) rfl rfl (Nat.le_of_ble_eq_true rfl) (cn_14 (ix s_) _) (cu_14 (ix s_) _) dX7_admit_29 (fun H locs hI => ?_)
      refine lv_iload_n hx hb dX7_admit_32 rfl (lv_at hl 0 rfl) ?_
      refine vx_ret ?_
      refine W.widen (k := 1) (n := 6) (Nat.zero_le _) (Nat.zero_le _) ?_
      exact W.zret (v := (S 14 (ix s_))) (ty := .boolean) hx hb hr (bz_nar (hN.z14 _)) (fun t9 ht9 hW9 => ⟨⟨S 14 (ix s_), (), rfl, ⟨congrArg (fun z => z.2.1) hG, (congrArg Prod.fst hG).symm⟩, by show CH D cy g _ t9.heap; rw [ht9, hG]; exact hI.1⟩, hI.2.F ht9⟩) hI.2.2.2 dX7_admit_33
  · have hG := hG.trans (if_neg c_1)
    exact ct_v (As := [.int s_]) (rest := []) hC hI hJ (tX7_schemeAt l hfl D cy g S e0 hV s_ c_1) (cwV 1 hts gX7_admit_X7_schemeAt rfl rfl rfl (by decide +kernel) ⟨Nat.le_of_ble_eq_true rfl, Nat.le_of_ble_eq_true rfl⟩) rfl hl.1 rfl (Nat.le_of_ble_eq_true rfl) dX7_admit_2 ⟨Nat.le_of_ble_eq_true rfl, Nat.le_of_ble_eq_true rfl⟩ hno hlocks (xf_of hI (by decide) (congrArg (fun z => z.2.1) hG)) (fun _ h => h) (Nat.le_of_ble_eq_true rfl) (Nat.le_of_ble_eq_true rfl)
set_option maxHeartbeats 4000000 in
set_option maxRecDepth 100000 in
theorem qX7_extend (l : Launch) (hfl : l.stackTraces = false) (A : Nat → Prop) (D : va_G) (cy : Nat → ClassId) (g : CWt) (hL : CL A g) (S : St) (e0 : Nat) (hV : CV e0 g S) (k : Int32) : vx_Met l yX7_extend wsX7_extend ({ frames := 8, cells := 1, slots := 6, locals := 124 } : Room) (va_Pc [.ref (ga g 18 0), .int k] (fun U => CP D cy g S U ∧ JT A U U.heap)) (va_Qi (fun (r : Int32) (_ : Unit) => (fX7_extend S k).2.1 = 0 ∧ r = (fX7_extend S k).1) (fun _ t9 => CH D cy g (fX7_extend S k).2.2 t9.heap) A) (XF A D cy g S (fX7_extend S k).2.1) 1 6 A := by
  refine vx_ofW (cc := cX7_extend) (maxL := 3) (ret := (some .int)) (by decide) rfl ?_
  intro p e s m args below meth c s₁ B hml hno hv
  obtain ⟨rfl, ⟨hM, hK⟩, hJ⟩ := hv
  have hx := B.exec
  have hb := B.bytes
  have hr := B.returns
  have hts := atoms_spec (ws := wsX7_extend) B.pre
  have hown : s.vm.findClass RX7 = some m.cls := findClass_of_methodNamed B.named
  have hlocks := B.notSynchronized
  have hC : CC p s m _ c cX7_extend 3 RX7 D cy wsX7_extend := ⟨⟨hx, hb, hml, hown, hts⟩, hK⟩
  have hI : CI A D cy g s S s.heap [] := ⟨hM, va_S.rf⟩
  have hT := hV.2.1
  have hN := hV.2.2.1
  have hQ := hV.2.2.2
  have hb7 := hN.b7
  have hb15 := hN.b15
  have hb23 := hN.b23
  have hb28 := hN.b28
  have hb42 := hN.b42
  have hb64 := hQ.b64
  have k_51 := hts (.fieldLink RX7 51 "RelatorsBench" "today" "I") (List.mem_cons_of_mem _ (List.mem_append_left _ (List.mem_append_left _ (List.mem_append_left _ (List.mem_append_left _ (List.mem_append_left _ (List.mem_append_left _ (List.mem_of_getElem? (i := 0) rfl))))))))
  have hinX7 : ∀ w ∈ wsX70, w ∈ wsX7_extend := fun _ h => List.mem_cons_of_mem _ (List.mem_append_left _ (List.mem_append_left _ (List.mem_append_left _ (List.mem_append_left _ (List.mem_append_right _ (h))))))
  have k_189 := hts (.fieldLink RX7 189 "RelatorsBench$Suit" "extensions" "I") (List.mem_cons_of_mem _ (List.mem_append_left _ (List.mem_append_left _ (List.mem_append_left _ (List.mem_append_left _ (List.mem_append_left _ (List.mem_append_left _ (List.mem_of_getElem? (i := 1) rfl))))))))
  have hinX5 : ∀ w ∈ wsX50, w ∈ wsX7_extend := fun _ h => List.mem_cons_of_mem _ (List.mem_append_left _ (List.mem_append_left _ (List.mem_append_left _ (List.mem_append_right _ (h)))))
  have k_192 := hts (.fieldLink RX7 192 "RelatorsBench$Suit" "unsealedFrom" "I") (List.mem_cons_of_mem _ (List.mem_append_left _ (List.mem_append_left _ (List.mem_append_left _ (List.mem_append_left _ (List.mem_append_left _ (List.mem_append_left _ (List.mem_of_getElem? (i := 2) rfl))))))))
  have hl := lv_entry ([.ref (ga g 18 0), .int k]) (n := 3) (Nat.le_of_ble_eq_true rfl)
  rw [lg_entry_eq]
  generalize (lg_sl ([.ref (ga g 18 0), .int k]) ++ List.replicate (3 - (lg_sl ([.ref (ga g 18 0), .int k])).length) Slot.unset).toArray = ls at hl ⊢
  have hl : lv_has ls 3 [(0, .ref (ga g 18 0)), (1, .int k)] := hl
  have hG : fX7_extend S k = fX7_extend S k := rfl
  refine lv_aload_n hx hb dX7_extend_0 rfl (lv_at hl 0 rfl) ?_
  refine lv_iload_n hx hb dX7_extend_1 rfl (lv_at hl 1 rfl) ?_
  by_cases c_1 : okI k (S 28 0)
  · have hG := hG.trans (if_pos c_1)
    refine cr_callR (As := [.int k]) (rest := []) hC hI (qX7_suitAt l D cy g S e0 hV k c_1) (cwV 1 hts gX7_extend_X7_suitAt rfl rfl rfl (by decide +kernel) ⟨Nat.le_of_ble_eq_true rfl, Nat.le_of_ble_eq_true rfl⟩) (cr_prev (ci := 8) hC hI 18 0 rfl rfl rfl) rfl hl.1 rfl (Nat.le_of_ble_eq_true rfl) dX7_extend_2 ⟨Nat.zero_le _, Nat.zero_le _⟩ (fun H locs hI => ?_)
    refine lv_astore_n (lv' := [(2, .ref (ga g 8 (ix k))), (0, .ref (ga g 18 0)), (1, .int k)]) hx hb dX7_extend_5 rfl hl (by decide) rfl (fun ls hl => ?_)
    refine lv_aload_n hx hb dX7_extend_6 rfl (lv_at hl 0 rfl) ?_
    refine lv_aload_n hx hb dX7_extend_7 rfl (lv_at hl 1 rfl) ?_
    refine cr_get (ci := 8) hC hI 18 0 rfl rfl rfl hinX7 10 (by decide) k_51 (fun _ h => h) (v := .int (S 1 0)) rfl dX7_extend_8 ?_
    refine cr_call (As := [.int (S 1 0)]) (rest := []) hC hI (qX5_isSealedOn l D cy g S e0 hV (ix k) (okI_l c_1 hN.n28 (by have := hN.b28; omega)) (S 1 0)) (cwV 1 hts gX7_extend_X5_isSealedOn rfl rfl rfl (by decide +kernel) ⟨Nat.le_of_ble_eq_true rfl, Nat.le_of_ble_eq_true rfl⟩) (cr_prev (ci := 6) hC hI 8 (ix k) (hT.v8 (okI_l c_1 hN.n28 (by have := hN.b28; omega))) rfl rfl) rfl hl.1 rfl (Nat.le_of_ble_eq_true rfl) dX7_extend_11 ⟨Nat.zero_le _, Nat.zero_le _⟩ (fun H locs hI => ?_)
    by_cases c_2 : ¬ (fX5_isSealedOn S (ix k) (S 1 0)) = 0
    · have hG := hG.trans (if_pos c_2)
      refine cr_pass (As := [.int (fX5_isSealedOn S (ix k) (S 1 0))]) (rest := []) hC hI (qX7_checkState l (fX5_isSealedOn S (ix k) (S 1 0)) c_2) (va_cwS 1 hts gX7_extend_X7_checkState rfl rfl rfl (by decide +kernel) ⟨Nat.le_of_ble_eq_true rfl, Nat.le_of_ble_eq_true rfl⟩) rfl hl.1 rfl (Nat.le_of_ble_eq_true rfl) dX7_extend_14 ⟨Nat.zero_le _, Nat.zero_le _⟩ (fun H locs hI => ?_)
      refine lv_aload_n hx hb dX7_extend_17 rfl (lv_at hl 0 rfl) ?_
      refine cr_get (ci := 6) hC hI 8 (ix k) (hT.v8 (okI_l c_1 hN.n28 (by have := hN.b28; omega))) rfl rfl hinX5 9 (by decide) k_189 (fun _ h => h) (v := .int (S 37 (ix k))) rfl dX7_extend_18 ?_
      refine lv_iconst (v := 4) hx hb dX7_extend_21 (by decide) ?_
      refine lv_icmp_ge (tgt := 29) hx hb dX7_extend_22 (by decide) (fun c_3 => ?_) (fun c_3 => ?_)
      · have hG := hG.trans (if_pos c_3)
        refine lv_iconst (v := 0) hx hb dX7_extend_29 (by decide) ?_
        exact ct_s (As := [.int 0]) (rest := []) hC.1 hI.2 hJ (tX7_checkState l hfl 0 (by decide)) (va_cwS 1 hts gX7_extend_X7_checkState rfl rfl rfl (by decide +kernel) ⟨Nat.le_of_ble_eq_true rfl, Nat.le_of_ble_eq_true rfl⟩) rfl hl.1 rfl (Nat.le_of_ble_eq_true rfl) dX7_extend_30 ⟨Nat.le_of_ble_eq_true rfl, Nat.le_of_ble_eq_true rfl⟩ hno hlocks (xf_of hI (by decide) (congrArg (fun z => z.2.1) hG)) (fun _ h => h) (Nat.le_of_ble_eq_true rfl) (Nat.le_of_ble_eq_true rfl)
      · have hG := hG.trans (if_neg c_3)
        refine lv_iconst (v := 1) hx hb dX7_extend_25 (by decide) ?_
        refine lv_goto (tgt := 30) hx hb dX7_extend_26 (by decide) ?_
        refine cr_pass (As := [.int 1]) (rest := []) hC hI (qX7_checkState l 1 (by decide)) (va_cwS 1 hts gX7_extend_X7_checkState rfl rfl rfl (by decide +kernel) ⟨Nat.le_of_ble_eq_true rfl, Nat.le_of_ble_eq_true rfl⟩) rfl hl.1 rfl (Nat.le_of_ble_eq_true rfl) dX7_extend_30 ⟨Nat.zero_le _, Nat.zero_le _⟩ (fun H locs hI => ?_)
        refine lv_aload_n hx hb dX7_extend_33 rfl (lv_at hl 0 rfl) ?_
        refine lv_dup hx hb dX7_extend_34 rfl ?_
        refine cr_get (ci := 6) hC hI 8 (ix k) (hT.v8 (okI_l c_1 hN.n28 (by have := hN.b28; omega))) rfl rfl hinX5 9 (by decide) k_189 (fun _ h => h) (v := .int (S 37 (ix k))) rfl dX7_extend_35 ?_
        refine lv_iconst (v := 1) hx hb dX7_extend_38 (by decide) ?_
        refine lv_iadd hx hb dX7_extend_39 ?_
        refine cr_put (ci := 6) (v := .int ((S 37 (ix k)) + 1)) (ty := .int) (S' := (up S 37 (ix k) ((S 37 (ix k)) + 1))) hC hL hI 8 (ix k) (hT.v8 (okI_l c_1 hN.n28 (by have := hN.b28; omega))) rfl rfl hinX5 tyX5 tyX5_ok nmX5 9 (by decide) k_189 (fun _ h => h) rfl (by decide +kernel) rfl rfl (Nat.le_of_ble_eq_true rfl) (cn_37 (ix k) _) (cu_37 (ix k) _) dX7_extend_40 (fun H locs hI => ?_)
        refine lv_aload_n hx hb dX7_extend_43 rfl (lv_at hl 0 rfl) ?_
        refine lv_dup hx hb dX7_extend_44 rfl ?_
        refine cr_get (ci := 6) hC hI 8 (ix k) (hT.v8 (okI_l c_1 hN.n28 (by have := hN.b28; omega))) rfl rfl hinX5 10 (by decide) k_192 (fun _ h => h) (v := .int (S 36 (ix k))) (congrArg (fun z => some (Value.int z)) (congrFun (up_ne (by decide)) _)) dX7_extend_45 ?_
        refine lv_bipush (v := 30) hx hb dX7_extend_48 (by decide) ?_
        refine lv_iadd hx hb dX7_extend_50 ?_
        refine cr_put (ci := 6) (v := .int ((S 36 (ix k)) + 30)) (ty := .int) (S' := (up (up S 37 (ix k) ((S 37 (ix k)) + 1)) 36 (ix k) ((S 36 (ix k)) + 30))) hC hL hI 8 (ix k) (hT.v8 (okI_l c_1 hN.n28 (by have := hN.b28; omega))) rfl rfl hinX5 tyX5 tyX5_ok nmX5 10 (by decide) k_192 (fun _ h => h) rfl (by decide +kernel) rfl rfl (Nat.le_of_ble_eq_true rfl) (cn_36 (ix k) _) (cu_36 (ix k) _) dX7_extend_51 (fun H locs hI => ?_)
        refine lv_aload_n hx hb dX7_extend_54 rfl (lv_at hl 0 rfl) ?_
        refine cr_get (ci := 6) hC hI 8 (ix k) (hT.v8 (okI_l c_1 hN.n28 (by have := hN.b28; omega))) rfl rfl hinX5 10 (by decide) k_192 (fun _ h => h) (v := .int ((S 36 (ix k)) + 30)) (congrArg (fun z => some (Value.int z)) (up_at _ _ _ _)) dX7_extend_55 ?_
        refine vx_ret ?_
        refine W.widen (k := 1) (n := 6) (Nat.zero_le _) (Nat.zero_le _) ?_
        exact W.iret (v := ((S 36 (ix k)) + 30)) hx hb hr (fun t9 ht9 hW9 => ⟨⟨((S 36 (ix k)) + 30), (), rfl, ⟨congrArg (fun z => z.2.1) hG, (congrArg Prod.fst hG).symm⟩, by show CH D cy g _ t9.heap; rw [ht9, hG]; exact hI.1⟩, hI.2.F ht9⟩) hI.2.2.2 dX7_extend_58
    · have hG := hG.trans (if_neg c_2)
      exact ct_s (As := [.int (fX5_isSealedOn S (ix k) (S 1 0))]) (rest := []) hC.1 hI.2 hJ (tX7_checkState l hfl (fX5_isSealedOn S (ix k) (S 1 0)) (Decidable.not_not.mp c_2)) (va_cwS 1 hts gX7_extend_X7_checkState rfl rfl rfl (by decide +kernel) ⟨Nat.le_of_ble_eq_true rfl, Nat.le_of_ble_eq_true rfl⟩) rfl hl.1 rfl (Nat.le_of_ble_eq_true rfl) dX7_extend_14 ⟨Nat.le_of_ble_eq_true rfl, Nat.le_of_ble_eq_true rfl⟩ hno hlocks (xf_of hI (by decide) (congrArg (fun z => z.2.1) hG)) (fun _ h => h) (Nat.le_of_ble_eq_true rfl) (Nat.le_of_ble_eq_true rfl)
  · have hG := hG.trans (if_neg c_1)
    exact ct_v (As := [.int k]) (rest := []) hC hI hJ (tX7_suitAt l hfl D cy g S e0 hV k c_1) (cwV 1 hts gX7_extend_X7_suitAt rfl rfl rfl (by decide +kernel) ⟨Nat.le_of_ble_eq_true rfl, Nat.le_of_ble_eq_true rfl⟩) rfl hl.1 rfl (Nat.le_of_ble_eq_true rfl) dX7_extend_2 ⟨Nat.le_of_ble_eq_true rfl, Nat.le_of_ble_eq_true rfl⟩ hno hlocks (xf_of hI (by decide) (congrArg (fun z => z.2.1) hG)) (fun _ h => h) (Nat.le_of_ble_eq_true rfl) (Nat.le_of_ble_eq_true rfl)
set_option maxHeartbeats 4000000 in
set_option maxRecDepth 100000 in
theorem qX7_choose (l : Launch) (hfl : l.stackTraces = false) (A : Nat → Prop) (D : va_G) (cy : Nat → ClassId) (g : CWt) (hL : CL A g) (S : St) (e0 : Nat) (hV : CV e0 g S) (k : Int32) (what : Int32) : vx_Met l yX7_choose wsX7_choose ({ frames := 8, cells := 1, slots := 6, locals := 124 } : Room) (va_Pc [.ref (ga g 18 0), .int k, .int what] (fun U => CP D cy g S U ∧ JT A U U.heap)) (va_Qi (fun (r : Int32) (_ : Unit) => (fX7_choose S k what).2.1 = 0 ∧ r = (fX7_choose S k what).1) (fun _ t9 => CH D cy g (fX7_choose S k what).2.2 t9.heap) A) (XF A D cy g S (fX7_choose S k what).2.1) 1 6 A := by
  refine vx_ofW (cc := cX7_choose) (maxL := 5) (ret := (some .int)) (by decide) rfl ?_
  intro p e s m args below meth c s₁ B hml hno hv
  obtain ⟨rfl, ⟨hM, hK⟩, hJ⟩ := hv
  have hx := B.exec
  have hb := B.bytes
  have hr := B.returns
  have hts := atoms_spec (ws := wsX7_choose) B.pre
  have hown : s.vm.findClass RX7 = some m.cls := findClass_of_methodNamed B.named
  have hlocks := B.notSynchronized
  have hC : CC p s m _ c cX7_choose 5 RX7 D cy wsX7_choose := ⟨⟨hx, hb, hml, hown, hts⟩, hK⟩
  have hI : CI A D cy g s S s.heap [] := ⟨hM, va_S.rf⟩
  have hT := hV.2.1
  have hN := hV.2.2.1
  have hQ := hV.2.2.2
  have hb7 := hN.b7
  have hb15 := hN.b15
  have hb23 := hN.b23
  have hb28 := hN.b28
  have hb42 := hN.b42
  have hb64 := hQ.b64
  have k_195 := hts (.fieldLink RX7 195 "RelatorsBench$Suit" "state" "I") (List.mem_cons_of_mem _ (List.mem_append_left _ (List.mem_append_left _ (List.mem_append_left _ (List.mem_append_left _ (List.mem_append_left _ (List.mem_append_left _ (List.mem_append_left _ (List.mem_of_getElem? (i := 0) rfl)))))))))
  have hinX5 : ∀ w ∈ wsX50, w ∈ wsX7_choose := fun _ h => List.mem_cons_of_mem _ (List.mem_append_left _ (List.mem_append_left _ (List.mem_append_left _ (List.mem_append_left _ (List.mem_append_left _ (List.mem_append_right _ (h)))))))
  have k_198 := hts (.fieldLink RX7 198 "RelatorsBench$Suit" "wasJoined" "Z") (List.mem_cons_of_mem _ (List.mem_append_left _ (List.mem_append_left _ (List.mem_append_left _ (List.mem_append_left _ (List.mem_append_left _ (List.mem_append_left _ (List.mem_append_left _ (List.mem_of_getElem? (i := 1) rfl)))))))))
  have k_192 := hts (.fieldLink RX7 192 "RelatorsBench$Suit" "unsealedFrom" "I") (List.mem_cons_of_mem _ (List.mem_append_left _ (List.mem_append_left _ (List.mem_append_left _ (List.mem_append_left _ (List.mem_append_left _ (List.mem_append_left _ (List.mem_append_left _ (List.mem_of_getElem? (i := 2) rfl)))))))))
  have k_51 := hts (.fieldLink RX7 51 "RelatorsBench" "today" "I") (List.mem_cons_of_mem _ (List.mem_append_left _ (List.mem_append_left _ (List.mem_append_left _ (List.mem_append_left _ (List.mem_append_left _ (List.mem_append_left _ (List.mem_append_left _ (List.mem_of_getElem? (i := 3) rfl)))))))))
  have hinX7 : ∀ w ∈ wsX70, w ∈ wsX7_choose := fun _ h => List.mem_cons_of_mem _ (List.mem_append_left _ (List.mem_append_left _ (List.mem_append_left _ (List.mem_append_left _ (List.mem_append_right _ (h))))))
  have km := hts (.methodLink RX7 201 Lib.Math.min.name) (List.mem_cons_of_mem _ (List.mem_append_left _ (List.mem_append_left _ (List.mem_append_left _ (List.mem_append_left _ (List.mem_append_left _ (List.mem_append_left _ (List.mem_append_left _ (List.mem_of_getElem? (i := 4) rfl)))))))))
  have kst := hts (.static Lib.Math.min.name) (List.mem_cons_of_mem _ (List.mem_append_left _ (List.mem_append_left _ (List.mem_append_left _ (List.mem_append_left _ (List.mem_append_left _ (List.mem_append_left _ (List.mem_append_left _ (List.mem_of_getElem? (i := 5) rfl)))))))))
  have kin := hts (.initialized "java/lang/Math") (List.mem_cons_of_mem _ (List.mem_append_left _ (List.mem_append_left _ (List.mem_append_left _ (List.mem_append_left _ (List.mem_append_left _ (List.mem_append_left _ (List.mem_append_left _ (List.mem_of_getElem? (i := 6) rfl)))))))))
  have kco := hts (.code Lib.Math.min.name Lib.Math.min.code 2 (some .int)) (List.mem_cons_of_mem _ (List.mem_append_left _ (List.mem_append_left _ (List.mem_append_left _ (List.mem_append_left _ (List.mem_append_left _ (List.mem_append_left _ (List.mem_append_left _ (List.mem_of_getElem? (i := 7) rfl)))))))))
  have hl := lv_entry ([.ref (ga g 18 0), .int k, .int what]) (n := 5) (Nat.le_of_ble_eq_true rfl)
  rw [lg_entry_eq]
  generalize (lg_sl ([.ref (ga g 18 0), .int k, .int what]) ++ List.replicate (5 - (lg_sl ([.ref (ga g 18 0), .int k, .int what])).length) Slot.unset).toArray = ls at hl ⊢
  have hl : lv_has ls 5 [(0, .ref (ga g 18 0)), (1, .int k), (2, .int what)] := hl
  have hG : fX7_choose S k what = fX7_choose S k what := rfl
  refine lv_aload_n hx hb dX7_choose_0 rfl (lv_at hl 0 rfl) ?_
  refine lv_iload_n hx hb dX7_choose_1 rfl (lv_at hl 1 rfl) ?_
  by_cases c_1 : okI k (S 28 0)
  · have hG := hG.trans (if_pos c_1)
    refine cr_callR (As := [.int k]) (rest := []) hC hI (qX7_suitAt l D cy g S e0 hV k c_1) (cwV 1 hts gX7_choose_X7_suitAt rfl rfl rfl (by decide +kernel) ⟨Nat.le_of_ble_eq_true rfl, Nat.le_of_ble_eq_true rfl⟩) (cr_prev (ci := 8) hC hI 18 0 rfl rfl rfl) rfl hl.1 rfl (Nat.le_of_ble_eq_true rfl) dX7_choose_2 ⟨Nat.zero_le _, Nat.zero_le _⟩ (fun H locs hI => ?_)
    refine lv_astore_n (lv' := [(3, .ref (ga g 8 (ix k))), (0, .ref (ga g 18 0)), (1, .int k), (2, .int what)]) hx hb dX7_choose_5 rfl hl (by decide) rfl (fun ls hl => ?_)
    refine lv_iload_n hx hb dX7_choose_6 rfl (lv_at hl 3 rfl) ?_
    refine lv_iconst (v := 1) hx hb dX7_choose_7 (by decide) ?_
    refine lv_iconst (v := 3) hx hb dX7_choose_8 (by decide) ?_
    by_cases c_2 : okR what 1 3
    · have hG := hG.trans (if_pos c_2)
      refine cr_pass (As := [.int what, .int 1, .int 3]) (rest := []) hC hI (qX7_checkRange l what 1 3 c_2) (va_cwS 3 hts gX7_choose_X7_checkRange rfl rfl rfl (by decide +kernel) ⟨Nat.le_of_ble_eq_true rfl, Nat.le_of_ble_eq_true rfl⟩) rfl hl.1 rfl (Nat.le_of_ble_eq_true rfl) dX7_choose_9 ⟨Nat.zero_le _, Nat.zero_le _⟩ (fun H locs hI => ?_)
      refine lv_aload_n hx hb dX7_choose_12 rfl (lv_at hl 0 rfl) ?_
      refine cr_call (As := []) (rest := []) hC hI (qX5_isOver l D cy g S e0 hV (ix k) (okI_l c_1 hN.n28 (by have := hN.b28; omega))) (cwV 0 hts gX7_choose_X5_isOver rfl rfl rfl (by decide +kernel) ⟨Nat.le_of_ble_eq_true rfl, Nat.le_of_ble_eq_true rfl⟩) (cr_prev (ci := 6) hC hI 8 (ix k) (hT.v8 (okI_l c_1 hN.n28 (by have := hN.b28; omega))) rfl rfl) rfl hl.1 rfl (Nat.le_of_ble_eq_true rfl) dX7_choose_13 ⟨Nat.zero_le _, Nat.zero_le _⟩ (fun H locs hI => ?_)
      refine lv_if_ne (tgt := 23) hx hb dX7_choose_16 (by decide) (fun c_3 => ?_) (fun c_3 => ?_)
      · have hG := hG.trans (if_neg c_3)
        refine lv_iconst (v := 0) hx hb dX7_choose_23 (by decide) ?_
        exact ct_s (As := [.int 0]) (rest := []) hC.1 hI.2 hJ (tX7_checkState l hfl 0 (by decide)) (va_cwS 1 hts gX7_choose_X7_checkState rfl rfl rfl (by decide +kernel) ⟨Nat.le_of_ble_eq_true rfl, Nat.le_of_ble_eq_true rfl⟩) rfl hl.1 rfl (Nat.le_of_ble_eq_true rfl) dX7_choose_24 ⟨Nat.le_of_ble_eq_true rfl, Nat.le_of_ble_eq_true rfl⟩ hno hlocks (xf_of hI (by decide) (congrArg (fun z => z.2.1) hG)) (fun _ h => h) (Nat.le_of_ble_eq_true rfl) (Nat.le_of_ble_eq_true rfl)
      · have hG := hG.trans (if_pos c_3)
        refine lv_iconst (v := 1) hx hb dX7_choose_19 (by decide) ?_
        refine lv_goto (tgt := 24) hx hb dX7_choose_20 (by decide) ?_
        refine cr_pass (As := [.int 1]) (rest := []) hC hI (qX7_checkState l 1 (by decide)) (va_cwS 1 hts gX7_choose_X7_checkState rfl rfl rfl (by decide +kernel) ⟨Nat.le_of_ble_eq_true rfl, Nat.le_of_ble_eq_true rfl⟩) rfl hl.1 rfl (Nat.le_of_ble_eq_true rfl) dX7_choose_24 ⟨Nat.zero_le _, Nat.zero_le _⟩ (fun H locs hI => ?_)
        refine lv_iload_n hx hb dX7_choose_27 rfl (lv_at hl 3 rfl) ?_
        refine lv_iconst (v := 2) hx hb dX7_choose_28 (by decide) ?_
        refine lv_icmp_ne (tgt := 40) hx hb dX7_choose_29 (by decide) (fun c_4 => ?_) (fun c_4 => ?_)
        · have hG := hG.trans (if_neg c_4)
          refine lv_iconst (v := 1) hx hb dX7_choose_40 (by decide) ?_
          refine lv_goto (tgt := 45) hx hb dX7_choose_41 (by decide) ?_
          refine cr_pass (As := [.int 1]) (rest := []) hC hI (qX7_checkState l 1 (by decide)) (va_cwS 1 hts gX7_choose_X7_checkState rfl rfl rfl (by decide +kernel) ⟨Nat.le_of_ble_eq_true rfl, Nat.le_of_ble_eq_true rfl⟩) rfl hl.1 rfl (Nat.le_of_ble_eq_true rfl) dX7_choose_45 ⟨Nat.zero_le _, Nat.zero_le _⟩ (fun H locs hI => ?_)
          refine lv_aload_n hx hb dX7_choose_48 rfl (lv_at hl 0 rfl) ?_
          refine cr_get (ci := 6) hC hI 8 (ix k) (hT.v8 (okI_l c_1 hN.n28 (by have := hN.b28; omega))) rfl rfl hinX5 7 (by decide) k_195 (fun _ h => h) (v := .int (S 34 (ix k))) rfl dX7_choose_49 ?_
          refine lv_istore (lv' := [(4, .int (S 34 (ix k))), (3, .ref (ga g 8 (ix k))), (0, .ref (ga g 18 0)), (1, .int k), (2, .int what)]) hx hb dX7_choose_52 hl (by decide) rfl (fun ls hl => ?_)
          refine lv_aload_n hx hb dX7_choose_54 rfl (lv_at hl 1 rfl) ?_
          refine lv_iload_n hx hb dX7_choose_55 rfl (lv_at hl 4 rfl) ?_
          refine cr_put (ci := 6) (v := .int what) (ty := .int) (S' := (up S 34 (ix k) what)) hC hL hI 8 (ix k) (hT.v8 (okI_l c_1 hN.n28 (by have := hN.b28; omega))) rfl rfl hinX5 tyX5 tyX5_ok nmX5 7 (by decide) k_195 (fun _ h => h) rfl (by decide +kernel) rfl rfl (Nat.le_of_ble_eq_true rfl) (cn_34 (ix k) _) (cu_34 (ix k) _) dX7_choose_56 (fun H locs hI => ?_)
          refine lv_aload_n hx hb dX7_choose_59 rfl (lv_at hl 1 rfl) ?_
          refine lv_aload_n hx hb dX7_choose_60 rfl (lv_at hl 1 rfl) ?_
          refine cr_get (ci := 6) hC hI 8 (ix k) (hT.v8 (okI_l c_1 hN.n28 (by have := hN.b28; omega))) rfl rfl hinX5 8 (by decide) k_198 (fun _ h => h) (v := .int (S 35 (ix k))) (congrArg (fun z => some (Value.int z)) (congrFun (up_ne (by decide)) _)) dX7_choose_61 ?_
          refine lv_if_ne (tgt := 72) hx hb dX7_choose_64 (by decide) (fun c_5 => ?_) (fun c_5 => ?_)
          · have hG := hG.trans (if_neg c_5)
            refine lv_iconst (v := 1) hx hb dX7_choose_72 (by decide) ?_
            refine lv_goto (tgt := 77) hx hb dX7_choose_73 (by decide) ?_
            refine cr_put (ci := 6) (v := .int 1) (ty := .boolean) (S' := (up (up S 34 (ix k) what) 35 (ix k) 1)) hC hL hI 8 (ix k) (hT.v8 (okI_l c_1 hN.n28 (by have := hN.b28; omega))) rfl rfl hinX5 tyX5 tyX5_ok nmX5 8 (by decide) k_198 (fun _ h => h) rfl (by decide +kernel) rfl rfl (Nat.le_of_ble_eq_true rfl) (cn_35 (ix k) _) (cu_35 (ix k) _) dX7_choose_77 (fun H locs hI => ?_)
            refine lv_aload_n hx hb dX7_choose_80 rfl (lv_at hl 1 rfl) ?_
            refine lv_aload_n hx hb dX7_choose_81 rfl (lv_at hl 1 rfl) ?_
            refine cr_get (ci := 6) hC hI 8 (ix k) (hT.v8 (okI_l c_1 hN.n28 (by have := hN.b28; omega))) rfl rfl hinX5 10 (by decide) k_192 (fun _ h => h) (v := .int (S 36 (ix k))) (congrArg (fun z => some (Value.int z)) ((congrFun (up_ne (by decide)) _).trans (congrFun (up_ne (by decide)) _))) dX7_choose_82 ?_
            refine lv_aload_n hx hb dX7_choose_85 rfl (lv_at hl 2 rfl) ?_
            refine cr_get (ci := 8) hC hI 18 0 rfl rfl rfl hinX7 10 (by decide) k_51 (fun _ h => h) (v := .int (S 1 0)) (congrArg (fun z => some (Value.int z)) ((congrFun (up_ne (by decide)) _).trans (congrFun (up_ne (by decide)) _))) dX7_choose_86 ?_
            refine va_mmin hx hb (hml.trans hl.1.symm) hown km kst kin kco (Nat.le_of_ble_eq_true rfl) (Nat.le_of_ble_eq_true rfl) (Nat.le_of_ble_eq_true rfl) (Nat.le_of_ble_eq_true rfl) dX7_choose_89 ?_
            refine cr_put (ci := 6) (v := .int (if (S 1 0) < (S 36 (ix k)) then S 1 0 else S 36 (ix k))) (ty := .int) (S' := (up (up (up S 34 (ix k) what) 35 (ix k) 1) 36 (ix k) (if (S 1 0) < (S 36 (ix k)) then S 1 0 else S 36 (ix k)))) hC hL hI 8 (ix k) (hT.v8 (okI_l c_1 hN.n28 (by have := hN.b28; omega))) rfl rfl hinX5 tyX5 tyX5_ok nmX5 10 (by decide) k_192 (fun _ h => h) rfl (by decide +kernel) rfl rfl (Nat.le_of_ble_eq_true rfl) (cn_36 (ix k) _) (cu_36 (ix k) _) dX7_choose_92 (fun H locs hI => ?_)
            refine lv_iload hx hb dX7_choose_95 (lv_at hl 0 rfl) ?_
            refine vx_ret ?_
            refine W.widen (k := 1) (n := 6) (Nat.zero_le _) (Nat.zero_le _) ?_
            exact W.iret (v := (S 34 (ix k))) hx hb hr (fun t9 ht9 hW9 => ⟨⟨S 34 (ix k), (), rfl, ⟨congrArg (fun z => z.2.1) hG, (congrArg Prod.fst hG).symm⟩, by show CH D cy g _ t9.heap; rw [ht9, hG]; exact hI.1⟩, hI.2.F ht9⟩) hI.2.2.2 dX7_choose_97
          · have hG := hG.trans (if_pos c_5)
            refine lv_iload_n hx hb dX7_choose_67 rfl (lv_at hl 4 rfl) ?_
            refine lv_iconst (v := 1) hx hb dX7_choose_68 (by decide) ?_
            refine lv_icmp_ne (tgt := 76) hx hb dX7_choose_69 (by decide) (fun c_6 => ?_) (fun c_6 => ?_)
            · have hG := hG.trans (if_neg c_6)
              refine lv_iconst (v := 0) hx hb dX7_choose_76 (by decide) ?_
              refine cr_put (ci := 6) (v := .int 0) (ty := .boolean) (S' := (up (up S 34 (ix k) what) 35 (ix k) 0)) hC hL hI 8 (ix k) (hT.v8 (okI_l c_1 hN.n28 (by have := hN.b28; omega))) rfl rfl hinX5 tyX5 tyX5_ok nmX5 8 (by decide) k_198 (fun _ h => h) rfl (by decide +kernel) rfl rfl (Nat.le_of_ble_eq_true rfl) (cn_35 (ix k) _) (cu_35 (ix k) _) dX7_choose_77 (fun H locs hI => ?_)
              refine lv_aload_n hx hb dX7_choose_80 rfl (lv_at hl 1 rfl) ?_
              refine lv_aload_n hx hb dX7_choose_81 rfl (lv_at hl 1 rfl) ?_
              refine cr_get (ci := 6) hC hI 8 (ix k) (hT.v8 (okI_l c_1 hN.n28 (by have := hN.b28; omega))) rfl rfl hinX5 10 (by decide) k_192 (fun _ h => h) (v := .int (S 36 (ix k))) (congrArg (fun z => some (Value.int z)) ((congrFun (up_ne (by decide)) _).trans (congrFun (up_ne (by decide)) _))) dX7_choose_82 ?_
              refine lv_aload_n hx hb dX7_choose_85 rfl (lv_at hl 2 rfl) ?_
              refine cr_get (ci := 8) hC hI 18 0 rfl rfl rfl hinX7 10 (by decide) k_51 (fun _ h => h) (v := .int (S 1 0)) (congrArg (fun z => some (Value.int z)) ((congrFun (up_ne (by decide)) _).trans (congrFun (up_ne (by decide)) _))) dX7_choose_86 ?_
              refine va_mmin hx hb (hml.trans hl.1.symm) hown km kst kin kco (Nat.le_of_ble_eq_true rfl) (Nat.le_of_ble_eq_true rfl) (Nat.le_of_ble_eq_true rfl) (Nat.le_of_ble_eq_true rfl) dX7_choose_89 ?_
              refine cr_put (ci := 6) (v := .int (if (S 1 0) < (S 36 (ix k)) then S 1 0 else S 36 (ix k))) (ty := .int) (S' := (up (up (up S 34 (ix k) what) 35 (ix k) 0) 36 (ix k) (if (S 1 0) < (S 36 (ix k)) then S 1 0 else S 36 (ix k)))) hC hL hI 8 (ix k) (hT.v8 (okI_l c_1 hN.n28 (by have := hN.b28; omega))) rfl rfl hinX5 tyX5 tyX5_ok nmX5 10 (by decide) k_192 (fun _ h => h) rfl (by decide +kernel) rfl rfl (Nat.le_of_ble_eq_true rfl) (cn_36 (ix k) _) (cu_36 (ix k) _) dX7_choose_92 (fun H locs hI => ?_)
              refine lv_iload hx hb dX7_choose_95 (lv_at hl 0 rfl) ?_
              refine vx_ret ?_
              refine W.widen (k := 1) (n := 6) (Nat.zero_le _) (Nat.zero_le _) ?_
              exact W.iret (v := (S 34 (ix k))) hx hb hr (fun t9 ht9 hW9 => ⟨⟨S 34 (ix k), (), rfl, ⟨congrArg (fun z => z.2.1) hG, (congrArg Prod.fst hG).symm⟩, by show CH D cy g _ t9.heap; rw [ht9, hG]; exact hI.1⟩, hI.2.F ht9⟩) hI.2.2.2 dX7_choose_97
            · have hG := hG.trans (if_pos c_6)
              refine lv_iconst (v := 1) hx hb dX7_choose_72 (by decide) ?_
              refine lv_goto (tgt := 77) hx hb dX7_choose_73 (by decide) ?_
              refine cr_put (ci := 6) (v := .int 1) (ty := .boolean) (S' := (up (up S 34 (ix k) what) 35 (ix k) 1)) hC hL hI 8 (ix k) (hT.v8 (okI_l c_1 hN.n28 (by have := hN.b28; omega))) rfl rfl hinX5 tyX5 tyX5_ok nmX5 8 (by decide) k_198 (fun _ h => h) rfl (by decide +kernel) rfl rfl (Nat.le_of_ble_eq_true rfl) (cn_35 (ix k) _) (cu_35 (ix k) _) dX7_choose_77 (fun H locs hI => ?_)
              refine lv_aload_n hx hb dX7_choose_80 rfl (lv_at hl 1 rfl) ?_
              refine lv_aload_n hx hb dX7_choose_81 rfl (lv_at hl 1 rfl) ?_
              refine cr_get (ci := 6) hC hI 8 (ix k) (hT.v8 (okI_l c_1 hN.n28 (by have := hN.b28; omega))) rfl rfl hinX5 10 (by decide) k_192 (fun _ h => h) (v := .int (S 36 (ix k))) (congrArg (fun z => some (Value.int z)) ((congrFun (up_ne (by decide)) _).trans (congrFun (up_ne (by decide)) _))) dX7_choose_82 ?_
              refine lv_aload_n hx hb dX7_choose_85 rfl (lv_at hl 2 rfl) ?_
              refine cr_get (ci := 8) hC hI 18 0 rfl rfl rfl hinX7 10 (by decide) k_51 (fun _ h => h) (v := .int (S 1 0)) (congrArg (fun z => some (Value.int z)) ((congrFun (up_ne (by decide)) _).trans (congrFun (up_ne (by decide)) _))) dX7_choose_86 ?_
              refine va_mmin hx hb (hml.trans hl.1.symm) hown km kst kin kco (Nat.le_of_ble_eq_true rfl) (Nat.le_of_ble_eq_true rfl) (Nat.le_of_ble_eq_true rfl) (Nat.le_of_ble_eq_true rfl) dX7_choose_89 ?_
              refine cr_put (ci := 6) (v := .int (if (S 1 0) < (S 36 (ix k)) then S 1 0 else S 36 (ix k))) (ty := .int) (S' := (up (up (up S 34 (ix k) what) 35 (ix k) 1) 36 (ix k) (if (S 1 0) < (S 36 (ix k)) then S 1 0 else S 36 (ix k)))) hC hL hI 8 (ix k) (hT.v8 (okI_l c_1 hN.n28 (by have := hN.b28; omega))) rfl rfl hinX5 tyX5 tyX5_ok nmX5 10 (by decide) k_192 (fun _ h => h) rfl (by decide +kernel) rfl rfl (Nat.le_of_ble_eq_true rfl) (cn_36 (ix k) _) (cu_36 (ix k) _) dX7_choose_92 (fun H locs hI => ?_)
              refine lv_iload hx hb dX7_choose_95 (lv_at hl 0 rfl) ?_
              refine vx_ret ?_
              refine W.widen (k := 1) (n := 6) (Nat.zero_le _) (Nat.zero_le _) ?_
              exact W.iret (v := (S 34 (ix k))) hx hb hr (fun t9 ht9 hW9 => ⟨⟨S 34 (ix k), (), rfl, ⟨congrArg (fun z => z.2.1) hG, (congrArg Prod.fst hG).symm⟩, by show CH D cy g _ t9.heap; rw [ht9, hG]; exact hI.1⟩, hI.2.F ht9⟩) hI.2.2.2 dX7_choose_97
        · have hG := hG.trans (if_pos c_4)
          refine lv_aload_n hx hb dX7_choose_32 rfl (lv_at hl 0 rfl) ?_
          refine cr_get (ci := 6) hC hI 8 (ix k) (hT.v8 (okI_l c_1 hN.n28 (by have := hN.b28; omega))) rfl rfl hinX5 7 (by decide) k_195 (fun _ h => h) (v := .int (S 34 (ix k))) rfl dX7_choose_33 ?_
          refine lv_iconst (v := 1) hx hb dX7_choose_36 (by decide) ?_
          refine lv_icmp_eq (tgt := 44) hx hb dX7_choose_37 (by decide) (fun c_7 => ?_) (fun c_7 => ?_)
          · have hG := hG.trans (if_pos c_7)
            refine lv_iconst (v := 0) hx hb dX7_choose_44 (by decide) ?_
            exact ct_s (As := [.int 0]) (rest := []) hC.1 hI.2 hJ (tX7_checkState l hfl 0 (by decide)) (va_cwS 1 hts gX7_choose_X7_checkState rfl rfl rfl (by decide +kernel) ⟨Nat.le_of_ble_eq_true rfl, Nat.le_of_ble_eq_true rfl⟩) rfl hl.1 rfl (Nat.le_of_ble_eq_true rfl) dX7_choose_45 ⟨Nat.le_of_ble_eq_true rfl, Nat.le_of_ble_eq_true rfl⟩ hno hlocks (xf_of hI (by decide) (congrArg (fun z => z.2.1) hG)) (fun _ h => h) (Nat.le_of_ble_eq_true rfl) (Nat.le_of_ble_eq_true rfl)
          · have hG := hG.trans (if_neg c_7)
            refine lv_iconst (v := 1) hx hb dX7_choose_40 (by decide) ?_
            refine lv_goto (tgt := 45) hx hb dX7_choose_41 (by decide) ?_
            refine cr_pass (As := [.int 1]) (rest := []) hC hI (qX7_checkState l 1 (by decide)) (va_cwS 1 hts gX7_choose_X7_checkState rfl rfl rfl (by decide +kernel) ⟨Nat.le_of_ble_eq_true rfl, Nat.le_of_ble_eq_true rfl⟩) rfl hl.1 rfl (Nat.le_of_ble_eq_true rfl) dX7_choose_45 ⟨Nat.zero_le _, Nat.zero_le _⟩ (fun H locs hI => ?_)
            refine lv_aload_n hx hb dX7_choose_48 rfl (lv_at hl 0 rfl) ?_
            refine cr_get (ci := 6) hC hI 8 (ix k) (hT.v8 (okI_l c_1 hN.n28 (by have := hN.b28; omega))) rfl rfl hinX5 7 (by decide) k_195 (fun _ h => h) (v := .int (S 34 (ix k))) rfl dX7_choose_49 ?_
            refine lv_istore (lv' := [(4, .int (S 34 (ix k))), (3, .ref (ga g 8 (ix k))), (0, .ref (ga g 18 0)), (1, .int k), (2, .int what)]) hx hb dX7_choose_52 hl (by decide) rfl (fun ls hl => ?_)
            refine lv_aload_n hx hb dX7_choose_54 rfl (lv_at hl 1 rfl) ?_
            refine lv_iload_n hx hb dX7_choose_55 rfl (lv_at hl 4 rfl) ?_
            refine cr_put (ci := 6) (v := .int what) (ty := .int) (S' := (up S 34 (ix k) what)) hC hL hI 8 (ix k) (hT.v8 (okI_l c_1 hN.n28 (by have := hN.b28; omega))) rfl rfl hinX5 tyX5 tyX5_ok nmX5 7 (by decide) k_195 (fun _ h => h) rfl (by decide +kernel) rfl rfl (Nat.le_of_ble_eq_true rfl) (cn_34 (ix k) _) (cu_34 (ix k) _) dX7_choose_56 (fun H locs hI => ?_)
            refine lv_aload_n hx hb dX7_choose_59 rfl (lv_at hl 1 rfl) ?_
            refine lv_aload_n hx hb dX7_choose_60 rfl (lv_at hl 1 rfl) ?_
            refine cr_get (ci := 6) hC hI 8 (ix k) (hT.v8 (okI_l c_1 hN.n28 (by have := hN.b28; omega))) rfl rfl hinX5 8 (by decide) k_198 (fun _ h => h) (v := .int (S 35 (ix k))) (congrArg (fun z => some (Value.int z)) (congrFun (up_ne (by decide)) _)) dX7_choose_61 ?_
            refine lv_if_ne (tgt := 72) hx hb dX7_choose_64 (by decide) (fun c_8 => ?_) (fun c_8 => ?_)
            · have hG := hG.trans (if_neg c_8)
              refine lv_iconst (v := 1) hx hb dX7_choose_72 (by decide) ?_
              refine lv_goto (tgt := 77) hx hb dX7_choose_73 (by decide) ?_
              refine cr_put (ci := 6) (v := .int 1) (ty := .boolean) (S' := (up (up S 34 (ix k) what) 35 (ix k) 1)) hC hL hI 8 (ix k) (hT.v8 (okI_l c_1 hN.n28 (by have := hN.b28; omega))) rfl rfl hinX5 tyX5 tyX5_ok nmX5 8 (by decide) k_198 (fun _ h => h) rfl (by decide +kernel) rfl rfl (Nat.le_of_ble_eq_true rfl) (cn_35 (ix k) _) (cu_35 (ix k) _) dX7_choose_77 (fun H locs hI => ?_)
              refine lv_aload_n hx hb dX7_choose_80 rfl (lv_at hl 1 rfl) ?_
              refine lv_aload_n hx hb dX7_choose_81 rfl (lv_at hl 1 rfl) ?_
              refine cr_get (ci := 6) hC hI 8 (ix k) (hT.v8 (okI_l c_1 hN.n28 (by have := hN.b28; omega))) rfl rfl hinX5 10 (by decide) k_192 (fun _ h => h) (v := .int (S 36 (ix k))) (congrArg (fun z => some (Value.int z)) ((congrFun (up_ne (by decide)) _).trans (congrFun (up_ne (by decide)) _))) dX7_choose_82 ?_
              refine lv_aload_n hx hb dX7_choose_85 rfl (lv_at hl 2 rfl) ?_
              refine cr_get (ci := 8) hC hI 18 0 rfl rfl rfl hinX7 10 (by decide) k_51 (fun _ h => h) (v := .int (S 1 0)) (congrArg (fun z => some (Value.int z)) ((congrFun (up_ne (by decide)) _).trans (congrFun (up_ne (by decide)) _))) dX7_choose_86 ?_
              refine va_mmin hx hb (hml.trans hl.1.symm) hown km kst kin kco (Nat.le_of_ble_eq_true rfl) (Nat.le_of_ble_eq_true rfl) (Nat.le_of_ble_eq_true rfl) (Nat.le_of_ble_eq_true rfl) dX7_choose_89 ?_
              refine cr_put (ci := 6) (v := .int (if (S 1 0) < (S 36 (ix k)) then S 1 0 else S 36 (ix k))) (ty := .int) (S' := (up (up (up S 34 (ix k) what) 35 (ix k) 1) 36 (ix k) (if (S 1 0) < (S 36 (ix k)) then S 1 0 else S 36 (ix k)))) hC hL hI 8 (ix k) (hT.v8 (okI_l c_1 hN.n28 (by have := hN.b28; omega))) rfl rfl hinX5 tyX5 tyX5_ok nmX5 10 (by decide) k_192 (fun _ h => h) rfl (by decide +kernel) rfl rfl (Nat.le_of_ble_eq_true rfl) (cn_36 (ix k) _) (cu_36 (ix k) _) dX7_choose_92 (fun H locs hI => ?_)
              refine lv_iload hx hb dX7_choose_95 (lv_at hl 0 rfl) ?_
              refine vx_ret ?_
              refine W.widen (k := 1) (n := 6) (Nat.zero_le _) (Nat.zero_le _) ?_
              exact W.iret (v := (S 34 (ix k))) hx hb hr (fun t9 ht9 hW9 => ⟨⟨S 34 (ix k), (), rfl, ⟨congrArg (fun z => z.2.1) hG, (congrArg Prod.fst hG).symm⟩, by show CH D cy g _ t9.heap; rw [ht9, hG]; exact hI.1⟩, hI.2.F ht9⟩) hI.2.2.2 dX7_choose_97
            · have hG := hG.trans (if_pos c_8)
              refine lv_iload_n hx hb dX7_choose_67 rfl (lv_at hl 4 rfl) ?_
              refine lv_iconst (v := 1) hx hb dX7_choose_68 (by decide) ?_
              refine lv_icmp_ne (tgt := 76) hx hb dX7_choose_69 (by decide) (fun c_9 => ?_) (fun c_9 => ?_)
              · have hG := hG.trans (if_neg c_9)
                refine lv_iconst (v := 0) hx hb dX7_choose_76 (by decide) ?_
                refine cr_put (ci := 6) (v := .int 0) (ty := .boolean) (S' := (up (up S 34 (ix k) what) 35 (ix k) 0)) hC hL hI 8 (ix k) (hT.v8 (okI_l c_1 hN.n28 (by have := hN.b28; omega))) rfl rfl hinX5 tyX5 tyX5_ok nmX5 8 (by decide) k_198 (fun _ h => h) rfl (by decide +kernel) rfl rfl (Nat.le_of_ble_eq_true rfl) (cn_35 (ix k) _) (cu_35 (ix k) _) dX7_choose_77 (fun H locs hI => ?_)
                refine lv_aload_n hx hb dX7_choose_80 rfl (lv_at hl 1 rfl) ?_
                refine lv_aload_n hx hb dX7_choose_81 rfl (lv_at hl 1 rfl) ?_
                refine cr_get (ci := 6) hC hI 8 (ix k) (hT.v8 (okI_l c_1 hN.n28 (by have := hN.b28; omega))) rfl rfl hinX5 10 (by decide) k_192 (fun _ h => h) (v := .int (S 36 (ix k))) (congrArg (fun z => some (Value.int z)) ((congrFun (up_ne (by decide)) _).trans (congrFun (up_ne (by decide)) _))) dX7_choose_82 ?_
                refine lv_aload_n hx hb dX7_choose_85 rfl (lv_at hl 2 rfl) ?_
                refine cr_get (ci := 8) hC hI 18 0 rfl rfl rfl hinX7 10 (by decide) k_51 (fun _ h => h) (v := .int (S 1 0)) (congrArg (fun z => some (Value.int z)) ((congrFun (up_ne (by decide)) _).trans (congrFun (up_ne (by decide)) _))) dX7_choose_86 ?_
                refine va_mmin hx hb (hml.trans hl.1.symm) hown km kst kin kco (Nat.le_of_ble_eq_true rfl) (Nat.le_of_ble_eq_true rfl) (Nat.le_of_ble_eq_true rfl) (Nat.le_of_ble_eq_true rfl) dX7_choose_89 ?_
                refine cr_put (ci := 6) (v := .int (if (S 1 0) < (S 36 (ix k)) then S 1 0 else S 36 (ix k))) (ty := .int) (S' := (up (up (up S 34 (ix k) what) 35 (ix k) 0) 36 (ix k) (if (S 1 0) < (S 36 (ix k)) then S 1 0 else S 36 (ix k)))) hC hL hI 8 (ix k) (hT.v8 (okI_l c_1 hN.n28 (by have := hN.b28; omega))) rfl rfl hinX5 tyX5 tyX5_ok nmX5 10 (by decide) k_192 (fun _ h => h) rfl (by decide +kernel) rfl rfl (Nat.le_of_ble_eq_true rfl) (cn_36 (ix k) _) (cu_36 (ix k) _) dX7_choose_92 (fun H locs hI => ?_)
                refine lv_iload hx hb dX7_choose_95 (lv_at hl 0 rfl) ?_
                refine vx_ret ?_
                refine W.widen (k := 1) (n := 6) (Nat.zero_le _) (Nat.zero_le _) ?_
                exact W.iret (v := (S 34 (ix k))) hx hb hr (fun t9 ht9 hW9 => ⟨⟨S 34 (ix k), (), rfl, ⟨congrArg (fun z => z.2.1) hG, (congrArg Prod.fst hG).symm⟩, by show CH D cy g _ t9.heap; rw [ht9, hG]; exact hI.1⟩, hI.2.F ht9⟩) hI.2.2.2 dX7_choose_97
              · have hG := hG.trans (if_pos c_9)
                refine lv_iconst (v := 1) hx hb dX7_choose_72 (by decide) ?_
                refine lv_goto (tgt := 77) hx hb dX7_choose_73 (by decide) ?_
                refine cr_put (ci := 6) (v := .int 1) (ty := .boolean) (S' := (up (up S 34 (ix k) what) 35 (ix k) 1)) hC hL hI 8 (ix k) (hT.v8 (okI_l c_1 hN.n28 (by have := hN.b28; omega))) rfl rfl hinX5 tyX5 tyX5_ok nmX5 8 (by decide) k_198 (fun _ h => h) rfl (by decide +kernel) rfl rfl (Nat.le_of_ble_eq_true rfl) (cn_35 (ix k) _) (cu_35 (ix k) _) dX7_choose_77 (fun H locs hI => ?_)
                refine lv_aload_n hx hb dX7_choose_80 rfl (lv_at hl 1 rfl) ?_
                refine lv_aload_n hx hb dX7_choose_81 rfl (lv_at hl 1 rfl) ?_
                refine cr_get (ci := 6) hC hI 8 (ix k) (hT.v8 (okI_l c_1 hN.n28 (by have := hN.b28; omega))) rfl rfl hinX5 10 (by decide) k_192 (fun _ h => h) (v := .int (S 36 (ix k))) (congrArg (fun z => some (Value.int z)) ((congrFun (up_ne (by decide)) _).trans (congrFun (up_ne (by decide)) _))) dX7_choose_82 ?_
                refine lv_aload_n hx hb dX7_choose_85 rfl (lv_at hl 2 rfl) ?_
                refine cr_get (ci := 8) hC hI 18 0 rfl rfl rfl hinX7 10 (by decide) k_51 (fun _ h => h) (v := .int (S 1 0)) (congrArg (fun z => some (Value.int z)) ((congrFun (up_ne (by decide)) _).trans (congrFun (up_ne (by decide)) _))) dX7_choose_86 ?_
                refine va_mmin hx hb (hml.trans hl.1.symm) hown km kst kin kco (Nat.le_of_ble_eq_true rfl) (Nat.le_of_ble_eq_true rfl) (Nat.le_of_ble_eq_true rfl) (Nat.le_of_ble_eq_true rfl) dX7_choose_89 ?_
                refine cr_put (ci := 6) (v := .int (if (S 1 0) < (S 36 (ix k)) then S 1 0 else S 36 (ix k))) (ty := .int) (S' := (up (up (up S 34 (ix k) what) 35 (ix k) 1) 36 (ix k) (if (S 1 0) < (S 36 (ix k)) then S 1 0 else S 36 (ix k)))) hC hL hI 8 (ix k) (hT.v8 (okI_l c_1 hN.n28 (by have := hN.b28; omega))) rfl rfl hinX5 tyX5 tyX5_ok nmX5 10 (by decide) k_192 (fun _ h => h) rfl (by decide +kernel) rfl rfl (Nat.le_of_ble_eq_true rfl) (cn_36 (ix k) _) (cu_36 (ix k) _) dX7_choose_92 (fun H locs hI => ?_)
                refine lv_iload hx hb dX7_choose_95 (lv_at hl 0 rfl) ?_
                refine vx_ret ?_
                refine W.widen (k := 1) (n := 6) (Nat.zero_le _) (Nat.zero_le _) ?_
                exact W.iret (v := (S 34 (ix k))) hx hb hr (fun t9 ht9 hW9 => ⟨⟨S 34 (ix k), (), rfl, ⟨congrArg (fun z => z.2.1) hG, (congrArg Prod.fst hG).symm⟩, by show CH D cy g _ t9.heap; rw [ht9, hG]; exact hI.1⟩, hI.2.F ht9⟩) hI.2.2.2 dX7_choose_97
    · have hG := hG.trans (if_neg c_2)
      exact ct_s (As := [.int what, .int 1, .int 3]) (rest := []) hC.1 hI.2 hJ (tX7_checkRange l hfl what 1 3 c_2) (va_cwS 3 hts gX7_choose_X7_checkRange rfl rfl rfl (by decide +kernel) ⟨Nat.le_of_ble_eq_true rfl, Nat.le_of_ble_eq_true rfl⟩) rfl hl.1 rfl (Nat.le_of_ble_eq_true rfl) dX7_choose_9 ⟨Nat.le_of_ble_eq_true rfl, Nat.le_of_ble_eq_true rfl⟩ hno hlocks (xf_of hI (by decide) (congrArg (fun z => z.2.1) hG)) (fun _ h => h) (Nat.le_of_ble_eq_true rfl) (Nat.le_of_ble_eq_true rfl)
  · have hG := hG.trans (if_neg c_1)
    exact ct_v (As := [.int k]) (rest := []) hC hI hJ (tX7_suitAt l hfl D cy g S e0 hV k c_1) (cwV 1 hts gX7_choose_X7_suitAt rfl rfl rfl (by decide +kernel) ⟨Nat.le_of_ble_eq_true rfl, Nat.le_of_ble_eq_true rfl⟩) rfl hl.1 rfl (Nat.le_of_ble_eq_true rfl) dX7_choose_2 ⟨Nat.le_of_ble_eq_true rfl, Nat.le_of_ble_eq_true rfl⟩ hno hlocks (xf_of hI (by decide) (congrArg (fun z => z.2.1) hG)) (fun _ h => h) (Nat.le_of_ble_eq_true rfl) (Nat.le_of_ble_eq_true rfl)
set_option maxHeartbeats 4000000 in
set_option maxRecDepth 100000 in
theorem qX7_help (l : Launch) (hfl : l.stackTraces = false) (A : Nat → Prop) (D : va_G) (cy : Nat → ClassId) (g : CWt) (hL : CL A g) (S : St) (e0 : Nat) (hV : CV e0 g S) (k : Int32) (much : Int32) : vx_Met l yX7_help wsX7_help ({ frames := 8, cells := 1, slots := 6, locals := 124 } : Room) (va_Pc [.ref (ga g 18 0), .int k, .int much] (fun U => CP D cy g S U ∧ JT A U U.heap)) (va_Qi (fun (r : Int32) (_ : Unit) => (fX7_help S k much).2.1 = 0 ∧ r = (fX7_help S k much).1) (fun _ t9 => CH D cy g (fX7_help S k much).2.2 t9.heap) A) (XF A D cy g S (fX7_help S k much).2.1) 1 6 A := by
  refine vx_ofW (cc := cX7_help) (maxL := 5) (ret := (some .int)) (by decide) rfl ?_
  intro p e s m args below meth c s₁ B hml hno hv
  obtain ⟨rfl, ⟨hM, hK⟩, hJ⟩ := hv
  have hx := B.exec
  have hb := B.bytes
  have hr := B.returns
  have hts := atoms_spec (ws := wsX7_help) B.pre
  have hown : s.vm.findClass RX7 = some m.cls := findClass_of_methodNamed B.named
  have hlocks := B.notSynchronized
  have hC : CC p s m _ c cX7_help 5 RX7 D cy wsX7_help := ⟨⟨hx, hb, hml, hown, hts⟩, hK⟩
  have hI : CI A D cy g s S s.heap [] := ⟨hM, va_S.rf⟩
  have hT := hV.2.1
  have hN := hV.2.2.1
  have hQ := hV.2.2.2
  have hb7 := hN.b7
  have hb15 := hN.b15
  have hb23 := hN.b23
  have hb28 := hN.b28
  have hb42 := hN.b42
  have hb64 := hQ.b64
  have k_207 := hts (.fieldLink RX7 207 "RelatorsBench$Suit" "help" "I") (List.mem_cons_of_mem _ (List.mem_append_left _ (List.mem_append_left _ (List.mem_append_left _ (List.mem_append_left _ (List.mem_append_left _ (List.mem_append_left _ (List.mem_append_left _ (List.mem_of_getElem? (i := 0) rfl)))))))))
  have hinX5 : ∀ w ∈ wsX50, w ∈ wsX7_help := fun _ h => List.mem_cons_of_mem _ (List.mem_append_left _ (List.mem_append_left _ (List.mem_append_left _ (List.mem_append_left _ (List.mem_append_left _ (List.mem_append_right _ (h)))))))
  have hl := lv_entry ([.ref (ga g 18 0), .int k, .int much]) (n := 5) (Nat.le_of_ble_eq_true rfl)
  rw [lg_entry_eq]
  generalize (lg_sl ([.ref (ga g 18 0), .int k, .int much]) ++ List.replicate (5 - (lg_sl ([.ref (ga g 18 0), .int k, .int much])).length) Slot.unset).toArray = ls at hl ⊢
  have hl : lv_has ls 5 [(0, .ref (ga g 18 0)), (1, .int k), (2, .int much)] := hl
  have hG : fX7_help S k much = fX7_help S k much := rfl
  refine lv_aload_n hx hb dX7_help_0 rfl (lv_at hl 0 rfl) ?_
  refine lv_iload_n hx hb dX7_help_1 rfl (lv_at hl 1 rfl) ?_
  by_cases c_1 : okI k (S 28 0)
  · have hG := hG.trans (if_pos c_1)
    refine cr_callR (As := [.int k]) (rest := []) hC hI (qX7_suitAt l D cy g S e0 hV k c_1) (cwV 1 hts gX7_help_X7_suitAt rfl rfl rfl (by decide +kernel) ⟨Nat.le_of_ble_eq_true rfl, Nat.le_of_ble_eq_true rfl⟩) (cr_prev (ci := 8) hC hI 18 0 rfl rfl rfl) rfl hl.1 rfl (Nat.le_of_ble_eq_true rfl) dX7_help_2 ⟨Nat.zero_le _, Nat.zero_le _⟩ (fun H locs hI => ?_)
    refine lv_astore_n (lv' := [(3, .ref (ga g 8 (ix k))), (0, .ref (ga g 18 0)), (1, .int k), (2, .int much)]) hx hb dX7_help_5 rfl hl (by decide) rfl (fun ls hl => ?_)
    refine lv_iload_n hx hb dX7_help_6 rfl (lv_at hl 3 rfl) ?_
    refine lv_iconst (v := 0) hx hb dX7_help_7 (by decide) ?_
    refine lv_bipush (v := 10) hx hb dX7_help_8 (by decide) ?_
    by_cases c_2 : okR much 0 10
    · have hG := hG.trans (if_pos c_2)
      refine cr_pass (As := [.int much, .int 0, .int 10]) (rest := []) hC hI (qX7_checkRange l much 0 10 c_2) (va_cwS 3 hts gX7_help_X7_checkRange rfl rfl rfl (by decide +kernel) ⟨Nat.le_of_ble_eq_true rfl, Nat.le_of_ble_eq_true rfl⟩) rfl hl.1 rfl (Nat.le_of_ble_eq_true rfl) dX7_help_10 ⟨Nat.zero_le _, Nat.zero_le _⟩ (fun H locs hI => ?_)
      refine lv_aload_n hx hb dX7_help_13 rfl (lv_at hl 0 rfl) ?_
      refine cr_call (As := []) (rest := []) hC hI (qX5_isOver l D cy g S e0 hV (ix k) (okI_l c_1 hN.n28 (by have := hN.b28; omega))) (cwV 0 hts gX7_help_X5_isOver rfl rfl rfl (by decide +kernel) ⟨Nat.le_of_ble_eq_true rfl, Nat.le_of_ble_eq_true rfl⟩) (cr_prev (ci := 6) hC hI 8 (ix k) (hT.v8 (okI_l c_1 hN.n28 (by have := hN.b28; omega))) rfl rfl) rfl hl.1 rfl (Nat.le_of_ble_eq_true rfl) dX7_help_14 ⟨Nat.zero_le _, Nat.zero_le _⟩ (fun H locs hI => ?_)
      refine lv_if_ne (tgt := 24) hx hb dX7_help_17 (by decide) (fun c_3 => ?_) (fun c_3 => ?_)
      · have hG := hG.trans (if_neg c_3)
        refine lv_iconst (v := 0) hx hb dX7_help_24 (by decide) ?_
        exact ct_s (As := [.int 0]) (rest := []) hC.1 hI.2 hJ (tX7_checkState l hfl 0 (by decide)) (va_cwS 1 hts gX7_help_X7_checkState rfl rfl rfl (by decide +kernel) ⟨Nat.le_of_ble_eq_true rfl, Nat.le_of_ble_eq_true rfl⟩) rfl hl.1 rfl (Nat.le_of_ble_eq_true rfl) dX7_help_25 ⟨Nat.le_of_ble_eq_true rfl, Nat.le_of_ble_eq_true rfl⟩ hno hlocks (xf_of hI (by decide) (congrArg (fun z => z.2.1) hG)) (fun _ h => h) (Nat.le_of_ble_eq_true rfl) (Nat.le_of_ble_eq_true rfl)
      · have hG := hG.trans (if_pos c_3)
        refine lv_iconst (v := 1) hx hb dX7_help_20 (by decide) ?_
        refine lv_goto (tgt := 25) hx hb dX7_help_21 (by decide) ?_
        refine cr_pass (As := [.int 1]) (rest := []) hC hI (qX7_checkState l 1 (by decide)) (va_cwS 1 hts gX7_help_X7_checkState rfl rfl rfl (by decide +kernel) ⟨Nat.le_of_ble_eq_true rfl, Nat.le_of_ble_eq_true rfl⟩) rfl hl.1 rfl (Nat.le_of_ble_eq_true rfl) dX7_help_25 ⟨Nat.zero_le _, Nat.zero_le _⟩ (fun H locs hI => ?_)
        refine lv_aload_n hx hb dX7_help_28 rfl (lv_at hl 0 rfl) ?_
        refine cr_get (ci := 6) hC hI 8 (ix k) (hT.v8 (okI_l c_1 hN.n28 (by have := hN.b28; omega))) rfl rfl hinX5 11 (by decide) k_207 (fun _ h => h) (v := .int (S 38 (ix k))) rfl dX7_help_29 ?_
        refine lv_istore (lv' := [(4, .int (S 38 (ix k))), (3, .ref (ga g 8 (ix k))), (0, .ref (ga g 18 0)), (1, .int k), (2, .int much)]) hx hb dX7_help_32 hl (by decide) rfl (fun ls hl => ?_)
        refine lv_aload_n hx hb dX7_help_34 rfl (lv_at hl 1 rfl) ?_
        refine lv_iload_n hx hb dX7_help_35 rfl (lv_at hl 4 rfl) ?_
        refine cr_put (ci := 6) (v := .int much) (ty := .int) (S' := (up S 38 (ix k) much)) hC hL hI 8 (ix k) (hT.v8 (okI_l c_1 hN.n28 (by have := hN.b28; omega))) rfl rfl hinX5 tyX5 tyX5_ok nmX5 11 (by decide) k_207 (fun _ h => h) rfl (by decide +kernel) rfl rfl (Nat.le_of_ble_eq_true rfl) (cn_38 (ix k) _) (cu_38 (ix k) _) dX7_help_36 (fun H locs hI => ?_)
        refine lv_iload hx hb dX7_help_39 (lv_at hl 0 rfl) ?_
        refine vx_ret ?_
        refine W.widen (k := 1) (n := 6) (Nat.zero_le _) (Nat.zero_le _) ?_
        exact W.iret (v := (S 38 (ix k))) hx hb hr (fun t9 ht9 hW9 => ⟨⟨S 38 (ix k), (), rfl, ⟨congrArg (fun z => z.2.1) hG, (congrArg Prod.fst hG).symm⟩, by show CH D cy g _ t9.heap; rw [ht9, hG]; exact hI.1⟩, hI.2.F ht9⟩) hI.2.2.2 dX7_help_41
    · have hG := hG.trans (if_neg c_2)
      exact ct_s (As := [.int much, .int 0, .int 10]) (rest := []) hC.1 hI.2 hJ (tX7_checkRange l hfl much 0 10 c_2) (va_cwS 3 hts gX7_help_X7_checkRange rfl rfl rfl (by decide +kernel) ⟨Nat.le_of_ble_eq_true rfl, Nat.le_of_ble_eq_true rfl⟩) rfl hl.1 rfl (Nat.le_of_ble_eq_true rfl) dX7_help_10 ⟨Nat.le_of_ble_eq_true rfl, Nat.le_of_ble_eq_true rfl⟩ hno hlocks (xf_of hI (by decide) (congrArg (fun z => z.2.1) hG)) (fun _ h => h) (Nat.le_of_ble_eq_true rfl) (Nat.le_of_ble_eq_true rfl)
  · have hG := hG.trans (if_neg c_1)
    exact ct_v (As := [.int k]) (rest := []) hC hI hJ (tX7_suitAt l hfl D cy g S e0 hV k c_1) (cwV 1 hts gX7_help_X7_suitAt rfl rfl rfl (by decide +kernel) ⟨Nat.le_of_ble_eq_true rfl, Nat.le_of_ble_eq_true rfl⟩) rfl hl.1 rfl (Nat.le_of_ble_eq_true rfl) dX7_help_2 ⟨Nat.le_of_ble_eq_true rfl, Nat.le_of_ble_eq_true rfl⟩ hno hlocks (xf_of hI (by decide) (congrArg (fun z => z.2.1) hG)) (fun _ h => h) (Nat.le_of_ble_eq_true rfl) (Nat.le_of_ble_eq_true rfl)
set_option maxHeartbeats 4000000 in
set_option maxRecDepth 100000 in
theorem qX7_judge (l : Launch) (hfl : l.stackTraces = false) (A : Nat → Prop) (D : va_G) (cy : Nat → ClassId) (g : CWt) (hL : CL A g) (S : St) (e0 : Nat) (hV : CV e0 g S) (k : Int32) : vx_Met l yX7_judge wsX7_judge ({ frames := 8, cells := 1, slots := 6, locals := 184 } : Room) (va_Pc [.ref (ga g 18 0), .int k] (fun U => CP D cy g S U ∧ JT A U U.heap)) (va_Qi (fun (r : Int32) (_ : Unit) => (fX7_judge S k).2.1 = 0 ∧ r = (fX7_judge S k).1) (fun _ t9 => CH D cy g (fX7_judge S k).2.2 t9.heap) A) (XF A D cy g S (fX7_judge S k).2.1) 1 6 A := by
  refine vx_ofW (cc := cX7_judge) (maxL := 3) (ret := (some .int)) (by decide) rfl ?_
  intro p e s m args below meth c s₁ B hml hno hv
  obtain ⟨rfl, ⟨hM, hK⟩, hJ⟩ := hv
  have hx := B.exec
  have hb := B.bytes
  have hr := B.returns
  have hts := atoms_spec (ws := wsX7_judge) B.pre
  have hown : s.vm.findClass RX7 = some m.cls := findClass_of_methodNamed B.named
  have hlocks := B.notSynchronized
  have hC : CC p s m _ c cX7_judge 3 RX7 D cy wsX7_judge := ⟨⟨hx, hb, hml, hown, hts⟩, hK⟩
  have hI : CI A D cy g s S s.heap [] := ⟨hM, va_S.rf⟩
  have hT := hV.2.1
  have hN := hV.2.2.1
  have hQ := hV.2.2.2
  have hb7 := hN.b7
  have hb15 := hN.b15
  have hb23 := hN.b23
  have hb28 := hN.b28
  have hb42 := hN.b42
  have hb64 := hQ.b64
  have k_217 := hts (.fieldLink RX7 217 "RelatorsBench$Suit" "firm" "I") (List.mem_cons_of_mem _ (List.mem_append_left _ (List.mem_append_left _ (List.mem_append_left _ (List.mem_append_left _ (List.mem_append_left _ (List.mem_append_left _ (List.mem_append_left _ (List.mem_append_left _ (List.mem_append_left _ (List.mem_append_left _ (List.mem_append_left _ (List.mem_append_left _ (List.mem_of_getElem? (i := 0) rfl))))))))))))))
  have hinX5 : ∀ w ∈ wsX50, w ∈ wsX7_judge := fun _ h => List.mem_cons_of_mem _ (List.mem_append_left _ (List.mem_append_left _ (List.mem_append_left _ (List.mem_append_left _ (List.mem_append_left _ (List.mem_append_left _ (List.mem_append_left _ (List.mem_append_left _ (List.mem_append_left _ (List.mem_append_left _ (List.mem_append_right _ (h))))))))))))
  have k_74 := hts (.fieldLink RX7 74 "RelatorsBench$Firm" "money" "I") (List.mem_cons_of_mem _ (List.mem_append_left _ (List.mem_append_left _ (List.mem_append_left _ (List.mem_append_left _ (List.mem_append_left _ (List.mem_append_left _ (List.mem_append_left _ (List.mem_append_left _ (List.mem_append_left _ (List.mem_append_left _ (List.mem_append_left _ (List.mem_append_left _ (List.mem_of_getElem? (i := 1) rfl))))))))))))))
  have hinX2 : ∀ w ∈ wsX20, w ∈ wsX7_judge := fun _ h => List.mem_cons_of_mem _ (List.mem_append_left _ (List.mem_append_left _ (List.mem_append_left _ (List.mem_append_left _ (List.mem_append_left _ (List.mem_append_left _ (List.mem_append_left _ (List.mem_append_left _ (List.mem_append_left _ (List.mem_append_right _ (h)))))))))))
  have km := hts (.methodLink RX7 201 Lib.Math.min.name) (List.mem_cons_of_mem _ (List.mem_append_left _ (List.mem_append_left _ (List.mem_append_left _ (List.mem_append_left _ (List.mem_append_left _ (List.mem_append_left _ (List.mem_append_left _ (List.mem_append_left _ (List.mem_append_left _ (List.mem_append_left _ (List.mem_append_left _ (List.mem_append_left _ (List.mem_of_getElem? (i := 2) rfl))))))))))))))
  have kst := hts (.static Lib.Math.min.name) (List.mem_cons_of_mem _ (List.mem_append_left _ (List.mem_append_left _ (List.mem_append_left _ (List.mem_append_left _ (List.mem_append_left _ (List.mem_append_left _ (List.mem_append_left _ (List.mem_append_left _ (List.mem_append_left _ (List.mem_append_left _ (List.mem_append_left _ (List.mem_append_left _ (List.mem_of_getElem? (i := 3) rfl))))))))))))))
  have kin := hts (.initialized "java/lang/Math") (List.mem_cons_of_mem _ (List.mem_append_left _ (List.mem_append_left _ (List.mem_append_left _ (List.mem_append_left _ (List.mem_append_left _ (List.mem_append_left _ (List.mem_append_left _ (List.mem_append_left _ (List.mem_append_left _ (List.mem_append_left _ (List.mem_append_left _ (List.mem_append_left _ (List.mem_of_getElem? (i := 4) rfl))))))))))))))
  have kco := hts (.code Lib.Math.min.name Lib.Math.min.code 2 (some .int)) (List.mem_cons_of_mem _ (List.mem_append_left _ (List.mem_append_left _ (List.mem_append_left _ (List.mem_append_left _ (List.mem_append_left _ (List.mem_append_left _ (List.mem_append_left _ (List.mem_append_left _ (List.mem_append_left _ (List.mem_append_left _ (List.mem_append_left _ (List.mem_append_left _ (List.mem_of_getElem? (i := 5) rfl))))))))))))))
  have k_224 := hts (.fieldLink RX7 224 "RelatorsBench$Suit" "paid" "I") (List.mem_cons_of_mem _ (List.mem_append_left _ (List.mem_append_left _ (List.mem_append_left _ (List.mem_append_left _ (List.mem_append_left _ (List.mem_append_left _ (List.mem_append_left _ (List.mem_append_left _ (List.mem_append_left _ (List.mem_append_left _ (List.mem_append_left _ (List.mem_append_left _ (List.mem_of_getElem? (i := 6) rfl))))))))))))))
  have hl := lv_entry ([.ref (ga g 18 0), .int k]) (n := 3) (Nat.le_of_ble_eq_true rfl)
  rw [lg_entry_eq]
  generalize (lg_sl ([.ref (ga g 18 0), .int k]) ++ List.replicate (3 - (lg_sl ([.ref (ga g 18 0), .int k])).length) Slot.unset).toArray = ls at hl ⊢
  have hl : lv_has ls 3 [(0, .ref (ga g 18 0)), (1, .int k)] := hl
  have hG : fX7_judge S k = fX7_judge S k := rfl
  refine lv_aload_n hx hb dX7_judge_0 rfl (lv_at hl 0 rfl) ?_
  refine lv_iload_n hx hb dX7_judge_1 rfl (lv_at hl 1 rfl) ?_
  by_cases c_1 : okI k (S 28 0)
  · have hG := hG.trans (if_pos c_1)
    refine cr_callR (As := [.int k]) (rest := []) hC hI (qX7_suitAt l D cy g S e0 hV k c_1) (cwV 1 hts gX7_judge_X7_suitAt rfl rfl rfl (by decide +kernel) ⟨Nat.le_of_ble_eq_true rfl, Nat.le_of_ble_eq_true rfl⟩) (cr_prev (ci := 8) hC hI 18 0 rfl rfl rfl) rfl hl.1 rfl (Nat.le_of_ble_eq_true rfl) dX7_judge_2 ⟨Nat.zero_le _, Nat.zero_le _⟩ (fun H locs hI => ?_)
    refine lv_astore_n (lv' := [(2, .ref (ga g 8 (ix k))), (0, .ref (ga g 18 0)), (1, .int k)]) hx hb dX7_judge_5 rfl hl (by decide) rfl (fun ls hl => ?_)
    refine lv_aload_n hx hb dX7_judge_6 rfl (lv_at hl 0 rfl) ?_
    refine cr_call (As := []) (rest := []) hC hI (qX5_isReady l D cy g S e0 hV (ix k) (okI_l c_1 hN.n28 (by have := hN.b28; omega))) (cwV 0 hts gX7_judge_X5_isReady rfl rfl rfl (by decide +kernel) ⟨Nat.le_of_ble_eq_true rfl, Nat.le_of_ble_eq_true rfl⟩) (cr_prev (ci := 6) hC hI 8 (ix k) (hT.v8 (okI_l c_1 hN.n28 (by have := hN.b28; omega))) rfl rfl) rfl hl.1 rfl (Nat.le_of_ble_eq_true rfl) dX7_judge_7 ⟨Nat.zero_le _, Nat.zero_le _⟩ (fun H locs hI => ?_)
    by_cases c_2 : ¬ (fX5_isReady S (ix k)) = 0
    · have hG := hG.trans (if_pos c_2)
      refine cr_pass (As := [.int (fX5_isReady S (ix k))]) (rest := []) hC hI (qX7_checkState l (fX5_isReady S (ix k)) c_2) (va_cwS 1 hts gX7_judge_X7_checkState rfl rfl rfl (by decide +kernel) ⟨Nat.le_of_ble_eq_true rfl, Nat.le_of_ble_eq_true rfl⟩) rfl hl.1 rfl (Nat.le_of_ble_eq_true rfl) dX7_judge_10 ⟨Nat.zero_le _, Nat.zero_le _⟩ (fun H locs hI => ?_)
      refine lv_aload_n hx hb dX7_judge_13 rfl (lv_at hl 1 rfl) ?_
      refine lv_aload_n hx hb dX7_judge_14 rfl (lv_at hl 0 rfl) ?_
      refine lv_aload_n hx hb dX7_judge_15 rfl (lv_at hl 1 rfl) ?_
      refine lv_aload_n hx hb dX7_judge_16 rfl (lv_at hl 0 rfl) ?_
      refine cr_call (As := [.ref (ga g 8 (ix k))]) (rest := [.ref (ga g 8 (ix k)), .ref (ga g 18 0)]) hC hI (qX7_dueBy l D cy g S e0 hV (ix k) (okI_l c_1 hN.n28 (by have := hN.b28; omega))) (cwV 1 hts gX7_judge_X7_dueBy rfl rfl rfl (by decide +kernel) ⟨Nat.le_of_ble_eq_true rfl, Nat.le_of_ble_eq_true rfl⟩) (cr_prev (ci := 8) hC hI 18 0 rfl rfl rfl) rfl hl.1 rfl (Nat.le_of_ble_eq_true rfl) dX7_judge_17 ⟨Nat.zero_le _, Nat.zero_le _⟩ (fun H locs hI => ?_)
      refine lv_aload_n hx hb dX7_judge_20 rfl (lv_at hl 1 rfl) ?_
      refine lv_aload_n hx hb dX7_judge_21 rfl (lv_at hl 0 rfl) ?_
      refine cr_get (ci := 6) hC hI 8 (ix k) (hT.v8 (okI_l c_1 hN.n28 (by have := hN.b28; omega))) rfl rfl hinX5 2 (by decide) k_217 (fun _ h => h) (v := .int (S 30 (ix k))) rfl dX7_judge_22 ?_
      refine cr_callR (As := [.int (S 30 (ix k))]) (rest := [.int (fX7_dueBy S (ix k)), .ref (ga g 8 (ix k)), .ref (ga g 18 0)]) hC hI (qX7_firmAt l D cy g S e0 hV (S 30 (ix k)) (okI_6 (hN.v30 (ix k)))) (cwV 1 hts gX7_judge_X7_firmAt rfl rfl rfl (by decide +kernel) ⟨Nat.le_of_ble_eq_true rfl, Nat.le_of_ble_eq_true rfl⟩) (cr_prev (ci := 8) hC hI 18 0 rfl rfl rfl) rfl hl.1 rfl (Nat.le_of_ble_eq_true rfl) dX7_judge_25 ⟨Nat.zero_le _, Nat.zero_le _⟩ (fun H locs hI => ?_)
      refine cr_get (ci := 3) hC hI 0 (ix (S 30 (ix k))) (okI_l (N := 6) (okI_6 (hN.v30 (ix k))) (by decide) (by decide)) rfl rfl hinX2 0 (by decide) k_74 (fun _ h => h) (v := .int (S 2 (ix (S 30 (ix k))))) rfl dX7_judge_28 ?_
      refine va_mmin hx hb (hml.trans hl.1.symm) hown km kst kin kco (Nat.le_of_ble_eq_true rfl) (Nat.le_of_ble_eq_true rfl) (Nat.le_of_ble_eq_true rfl) (Nat.le_of_ble_eq_true rfl) dX7_judge_31 ?_
      refine cr_callMV (As := [.ref (ga g 8 (ix k)), .int (if (S 2 (ix (S 30 (ix k)))) < (fX7_dueBy S (ix k)) then S 2 (ix (S 30 (ix k))) else (fX7_dueBy S (ix k)))]) (rest := []) hC hI (qX7_win l A D cy g hL S e0 hV (ix k) (okI_l c_1 hN.n28 (by have := hN.b28; omega)) (if (S 2 (ix (S 30 (ix k)))) < (fX7_dueBy S (ix k)) then S 2 (ix (S 30 (ix k))) else (fX7_dueBy S (ix k)))) (cwV 2 hts gX7_judge_X7_win rfl rfl rfl (by decide +kernel) ⟨Nat.le_of_ble_eq_true rfl, Nat.le_of_ble_eq_true rfl⟩) (cr_prev (ci := 8) hC hI 18 0 rfl rfl rfl) rfl hl.1 rfl (Nat.le_of_ble_eq_true rfl) dX7_judge_34 ⟨Nat.zero_le _, Nat.zero_le _⟩ (fun H locs hI => ?_)
      refine lv_aload_n hx hb dX7_judge_37 rfl (lv_at hl 0 rfl) ?_
      refine cr_get (ci := 6) hC hI 8 (ix k) (hT.v8 (okI_l c_1 hN.n28 (by have := hN.b28; omega))) rfl rfl hinX5 12 (by decide) k_224 (fun _ h => h) (v := .int ((fX7_win S (ix k) (if (S 2 (ix (S 30 (ix k)))) < (fX7_dueBy S (ix k)) then S 2 (ix (S 30 (ix k))) else (fX7_dueBy S (ix k)))) 39 (ix k))) rfl dX7_judge_38 ?_
      refine vx_ret ?_
      refine W.widen (k := 1) (n := 6) (Nat.zero_le _) (Nat.zero_le _) ?_
      exact W.iret (v := ((fX7_win S (ix k) (if (S 2 (ix (S 30 (ix k)))) < (fX7_dueBy S (ix k)) then S 2 (ix (S 30 (ix k))) else (fX7_dueBy S (ix k)))) 39 (ix k))) hx hb hr (fun t9 ht9 hW9 => ⟨⟨(fX7_win S (ix k) (if (S 2 (ix (S 30 (ix k)))) < (fX7_dueBy S (ix k)) then S 2 (ix (S 30 (ix k))) else (fX7_dueBy S (ix k)))) 39 (ix k), (), rfl, ⟨congrArg (fun z => z.2.1) hG, (congrArg Prod.fst hG).symm⟩, by show CH D cy g _ t9.heap; rw [ht9, hG]; exact hI.1⟩, hI.2.F ht9⟩) hI.2.2.2 dX7_judge_41
    · have hG := hG.trans (if_neg c_2)
      exact ct_s (As := [.int (fX5_isReady S (ix k))]) (rest := []) hC.1 hI.2 hJ (tX7_checkState l hfl (fX5_isReady S (ix k)) (Decidable.not_not.mp c_2)) (va_cwS 1 hts gX7_judge_X7_checkState rfl rfl rfl (by decide +kernel) ⟨Nat.le_of_ble_eq_true rfl, Nat.le_of_ble_eq_true rfl⟩) rfl hl.1 rfl (Nat.le_of_ble_eq_true rfl) dX7_judge_10 ⟨Nat.le_of_ble_eq_true rfl, Nat.le_of_ble_eq_true rfl⟩ hno hlocks (xf_of hI (by decide) (congrArg (fun z => z.2.1) hG)) (fun _ h => h) (Nat.le_of_ble_eq_true rfl) (Nat.le_of_ble_eq_true rfl)
  · have hG := hG.trans (if_neg c_1)
    exact ct_v (As := [.int k]) (rest := []) hC hI hJ (tX7_suitAt l hfl D cy g S e0 hV k c_1) (cwV 1 hts gX7_judge_X7_suitAt rfl rfl rfl (by decide +kernel) ⟨Nat.le_of_ble_eq_true rfl, Nat.le_of_ble_eq_true rfl⟩) rfl hl.1 rfl (Nat.le_of_ble_eq_true rfl) dX7_judge_2 ⟨Nat.le_of_ble_eq_true rfl, Nat.le_of_ble_eq_true rfl⟩ hno hlocks (xf_of hI (by decide) (congrArg (fun z => z.2.1) hG)) (fun _ h => h) (Nat.le_of_ble_eq_true rfl) (Nat.le_of_ble_eq_true rfl)
set_option maxHeartbeats 4000000 in
set_option maxRecDepth 100000 in
theorem qX7_settle (l : Launch) (hfl : l.stackTraces = false) (A : Nat → Prop) (D : va_G) (cy : Nat → ClassId) (g : CWt) (hL : CL A g) (S : St) (e0 : Nat) (hV : CV e0 g S) (k : Int32) (sum : Int32) : vx_Met l yX7_settle wsX7_settle ({ frames := 8, cells := 1, slots := 6, locals := 184 } : Room) (va_Pc [.ref (ga g 18 0), .int k, .int sum] (fun U => CP D cy g S U ∧ JT A U U.heap)) (va_Qi (fun (r : Int32) (_ : Unit) => (fX7_settle S k sum).2.1 = 0 ∧ r = (fX7_settle S k sum).1) (fun _ t9 => CH D cy g (fX7_settle S k sum).2.2 t9.heap) A) (XF A D cy g S (fX7_settle S k sum).2.1) 1 6 A := by
  refine vx_ofW (cc := cX7_settle) (maxL := 4) (ret := (some .int)) (by decide) rfl ?_
  intro p e s m args below meth c s₁ B hml hno hv
  obtain ⟨rfl, ⟨hM, hK⟩, hJ⟩ := hv
  have hx := B.exec
  have hb := B.bytes
  have hr := B.returns
  have hts := atoms_spec (ws := wsX7_settle) B.pre
  have hown : s.vm.findClass RX7 = some m.cls := findClass_of_methodNamed B.named
  have hlocks := B.notSynchronized
  have hC : CC p s m _ c cX7_settle 4 RX7 D cy wsX7_settle := ⟨⟨hx, hb, hml, hown, hts⟩, hK⟩
  have hI : CI A D cy g s S s.heap [] := ⟨hM, va_S.rf⟩
  have hT := hV.2.1
  have hN := hV.2.2.1
  have hQ := hV.2.2.2
  have hb7 := hN.b7
  have hb15 := hN.b15
  have hb23 := hN.b23
  have hb28 := hN.b28
  have hb42 := hN.b42
  have hb64 := hQ.b64
  have k_77 := hts (.constant RX7 77 (100000000)) (List.mem_cons_of_mem _ (List.mem_append_left _ (List.mem_append_left _ (List.mem_append_left _ (List.mem_append_left _ (List.mem_append_left _ (List.mem_append_left _ (List.mem_append_left _ (List.mem_append_left _ (List.mem_append_left _ (List.mem_append_left _ (List.mem_append_left _ (List.mem_append_left _ (List.mem_append_left _ (List.mem_of_getElem? (i := 0) rfl)))))))))))))))
  have k_217 := hts (.fieldLink RX7 217 "RelatorsBench$Suit" "firm" "I") (List.mem_cons_of_mem _ (List.mem_append_left _ (List.mem_append_left _ (List.mem_append_left _ (List.mem_append_left _ (List.mem_append_left _ (List.mem_append_left _ (List.mem_append_left _ (List.mem_append_left _ (List.mem_append_left _ (List.mem_append_left _ (List.mem_append_left _ (List.mem_append_left _ (List.mem_append_left _ (List.mem_of_getElem? (i := 1) rfl)))))))))))))))
  have hinX5 : ∀ w ∈ wsX50, w ∈ wsX7_settle := fun _ h => List.mem_cons_of_mem _ (List.mem_append_left _ (List.mem_append_left _ (List.mem_append_left _ (List.mem_append_left _ (List.mem_append_left _ (List.mem_append_left _ (List.mem_append_left _ (List.mem_append_left _ (List.mem_append_left _ (List.mem_append_left _ (List.mem_append_left _ (List.mem_append_right _ (h)))))))))))))
  have k_74 := hts (.fieldLink RX7 74 "RelatorsBench$Firm" "money" "I") (List.mem_cons_of_mem _ (List.mem_append_left _ (List.mem_append_left _ (List.mem_append_left _ (List.mem_append_left _ (List.mem_append_left _ (List.mem_append_left _ (List.mem_append_left _ (List.mem_append_left _ (List.mem_append_left _ (List.mem_append_left _ (List.mem_append_left _ (List.mem_append_left _ (List.mem_append_left _ (List.mem_of_getElem? (i := 2) rfl)))))))))))))))
  have hinX2 : ∀ w ∈ wsX20, w ∈ wsX7_settle := fun _ h => List.mem_cons_of_mem _ (List.mem_append_left _ (List.mem_append_left _ (List.mem_append_left _ (List.mem_append_left _ (List.mem_append_left _ (List.mem_append_left _ (List.mem_append_left _ (List.mem_append_left _ (List.mem_append_left _ (List.mem_append_left _ (List.mem_append_right _ (h))))))))))))
  have k_195 := hts (.fieldLink RX7 195 "RelatorsBench$Suit" "state" "I") (List.mem_cons_of_mem _ (List.mem_append_left _ (List.mem_append_left _ (List.mem_append_left _ (List.mem_append_left _ (List.mem_append_left _ (List.mem_append_left _ (List.mem_append_left _ (List.mem_append_left _ (List.mem_append_left _ (List.mem_append_left _ (List.mem_append_left _ (List.mem_append_left _ (List.mem_append_left _ (List.mem_of_getElem? (i := 3) rfl)))))))))))))))
  have k_227 := hts (.fieldLink RX7 227 "RelatorsBench$Suit" "share" "I") (List.mem_cons_of_mem _ (List.mem_append_left _ (List.mem_append_left _ (List.mem_append_left _ (List.mem_append_left _ (List.mem_append_left _ (List.mem_append_left _ (List.mem_append_left _ (List.mem_append_left _ (List.mem_append_left _ (List.mem_append_left _ (List.mem_append_left _ (List.mem_append_left _ (List.mem_append_left _ (List.mem_of_getElem? (i := 4) rfl)))))))))))))))
  have hl := lv_entry ([.ref (ga g 18 0), .int k, .int sum]) (n := 4) (Nat.le_of_ble_eq_true rfl)
  rw [lg_entry_eq]
  generalize (lg_sl ([.ref (ga g 18 0), .int k, .int sum]) ++ List.replicate (4 - (lg_sl ([.ref (ga g 18 0), .int k, .int sum])).length) Slot.unset).toArray = ls at hl ⊢
  have hl : lv_has ls 4 [(0, .ref (ga g 18 0)), (1, .int k), (2, .int sum)] := hl
  have hG : fX7_settle S k sum = fX7_settle S k sum := rfl
  refine lv_aload_n hx hb dX7_settle_0 rfl (lv_at hl 0 rfl) ?_
  refine lv_iload_n hx hb dX7_settle_1 rfl (lv_at hl 1 rfl) ?_
  by_cases c_1 : okI k (S 28 0)
  · have hG := hG.trans (if_pos c_1)
    refine cr_callR (As := [.int k]) (rest := []) hC hI (qX7_suitAt l D cy g S e0 hV k c_1) (cwV 1 hts gX7_settle_X7_suitAt rfl rfl rfl (by decide +kernel) ⟨Nat.le_of_ble_eq_true rfl, Nat.le_of_ble_eq_true rfl⟩) (cr_prev (ci := 8) hC hI 18 0 rfl rfl rfl) rfl hl.1 rfl (Nat.le_of_ble_eq_true rfl) dX7_settle_2 ⟨Nat.zero_le _, Nat.zero_le _⟩ (fun H locs hI => ?_)
    refine lv_astore_n (lv' := [(3, .ref (ga g 8 (ix k))), (0, .ref (ga g 18 0)), (1, .int k), (2, .int sum)]) hx hb dX7_settle_5 rfl hl (by decide) rfl (fun ls hl => ?_)
    refine lv_iload_n hx hb dX7_settle_6 rfl (lv_at hl 3 rfl) ?_
    refine lv_iconst (v := 0) hx hb dX7_settle_7 (by decide) ?_
    refine lv_ldc hx hb hown k_77 dX7_settle_8 ?_
    by_cases c_2 : okR sum 0 100000000
    · have hG := hG.trans (if_pos c_2)
      refine cr_pass (As := [.int sum, .int 0, .int 100000000]) (rest := []) hC hI (qX7_checkRange l sum 0 100000000 c_2) (va_cwS 3 hts gX7_settle_X7_checkRange rfl rfl rfl (by decide +kernel) ⟨Nat.le_of_ble_eq_true rfl, Nat.le_of_ble_eq_true rfl⟩) rfl hl.1 rfl (Nat.le_of_ble_eq_true rfl) dX7_settle_10 ⟨Nat.zero_le _, Nat.zero_le _⟩ (fun H locs hI => ?_)
      refine lv_aload_n hx hb dX7_settle_13 rfl (lv_at hl 0 rfl) ?_
      refine cr_call (As := []) (rest := []) hC hI (qX5_isReady l D cy g S e0 hV (ix k) (okI_l c_1 hN.n28 (by have := hN.b28; omega))) (cwV 0 hts gX7_settle_X5_isReady rfl rfl rfl (by decide +kernel) ⟨Nat.le_of_ble_eq_true rfl, Nat.le_of_ble_eq_true rfl⟩) (cr_prev (ci := 6) hC hI 8 (ix k) (hT.v8 (okI_l c_1 hN.n28 (by have := hN.b28; omega))) rfl rfl) rfl hl.1 rfl (Nat.le_of_ble_eq_true rfl) dX7_settle_14 ⟨Nat.zero_le _, Nat.zero_le _⟩ (fun H locs hI => ?_)
      by_cases c_3 : ¬ (fX5_isReady S (ix k)) = 0
      · have hG := hG.trans (if_pos c_3)
        refine cr_pass (As := [.int (fX5_isReady S (ix k))]) (rest := []) hC hI (qX7_checkState l (fX5_isReady S (ix k)) c_3) (va_cwS 1 hts gX7_settle_X7_checkState rfl rfl rfl (by decide +kernel) ⟨Nat.le_of_ble_eq_true rfl, Nat.le_of_ble_eq_true rfl⟩) rfl hl.1 rfl (Nat.le_of_ble_eq_true rfl) dX7_settle_17 ⟨Nat.zero_le _, Nat.zero_le _⟩ (fun H locs hI => ?_)
        refine lv_iload_n hx hb dX7_settle_20 rfl (lv_at hl 3 rfl) ?_
        refine lv_aload_n hx hb dX7_settle_21 rfl (lv_at hl 1 rfl) ?_
        refine lv_aload_n hx hb dX7_settle_22 rfl (lv_at hl 0 rfl) ?_
        refine cr_get (ci := 6) hC hI 8 (ix k) (hT.v8 (okI_l c_1 hN.n28 (by have := hN.b28; omega))) rfl rfl hinX5 2 (by decide) k_217 (fun _ h => h) (v := .int (S 30 (ix k))) rfl dX7_settle_23 ?_
        refine cr_callR (As := [.int (S 30 (ix k))]) (rest := [.int sum]) hC hI (qX7_firmAt l D cy g S e0 hV (S 30 (ix k)) (okI_6 (hN.v30 (ix k)))) (cwV 1 hts gX7_settle_X7_firmAt rfl rfl rfl (by decide +kernel) ⟨Nat.le_of_ble_eq_true rfl, Nat.le_of_ble_eq_true rfl⟩) (cr_prev (ci := 8) hC hI 18 0 rfl rfl rfl) rfl hl.1 rfl (Nat.le_of_ble_eq_true rfl) dX7_settle_26 ⟨Nat.zero_le _, Nat.zero_le _⟩ (fun H locs hI => ?_)
        refine cr_get (ci := 3) hC hI 0 (ix (S 30 (ix k))) (okI_l (N := 6) (okI_6 (hN.v30 (ix k))) (by decide) (by decide)) rfl rfl hinX2 0 (by decide) k_74 (fun _ h => h) (v := .int (S 2 (ix (S 30 (ix k))))) rfl dX7_settle_29 ?_
        refine lv_icmp_gt (tgt := 39) hx hb dX7_settle_32 (by decide) (fun c_4 => ?_) (fun c_4 => ?_)
        · have hG := hG.trans (if_pos c_4)
          refine lv_iconst (v := 0) hx hb dX7_settle_39 (by decide) ?_
          exact ct_s (As := [.int 0]) (rest := []) hC.1 hI.2 hJ (tX7_checkState l hfl 0 (by decide)) (va_cwS 1 hts gX7_settle_X7_checkState rfl rfl rfl (by decide +kernel) ⟨Nat.le_of_ble_eq_true rfl, Nat.le_of_ble_eq_true rfl⟩) rfl hl.1 rfl (Nat.le_of_ble_eq_true rfl) dX7_settle_40 ⟨Nat.le_of_ble_eq_true rfl, Nat.le_of_ble_eq_true rfl⟩ hno hlocks (xf_of hI (by decide) (congrArg (fun z => z.2.1) hG)) (fun _ h => h) (Nat.le_of_ble_eq_true rfl) (Nat.le_of_ble_eq_true rfl)
        · have hG := hG.trans (if_neg c_4)
          refine lv_iconst (v := 1) hx hb dX7_settle_35 (by decide) ?_
          refine lv_goto (tgt := 40) hx hb dX7_settle_36 (by decide) ?_
          refine cr_pass (As := [.int 1]) (rest := []) hC hI (qX7_checkState l 1 (by decide)) (va_cwS 1 hts gX7_settle_X7_checkState rfl rfl rfl (by decide +kernel) ⟨Nat.le_of_ble_eq_true rfl, Nat.le_of_ble_eq_true rfl⟩) rfl hl.1 rfl (Nat.le_of_ble_eq_true rfl) dX7_settle_40 ⟨Nat.zero_le _, Nat.zero_le _⟩ (fun H locs hI => ?_)
          refine lv_aload_n hx hb dX7_settle_43 rfl (lv_at hl 0 rfl) ?_
          refine cr_get (ci := 6) hC hI 8 (ix k) (hT.v8 (okI_l c_1 hN.n28 (by have := hN.b28; omega))) rfl rfl hinX5 7 (by decide) k_195 (fun _ h => h) (v := .int (S 34 (ix k))) rfl dX7_settle_44 ?_
          refine lv_iconst (v := 2) hx hb dX7_settle_47 (by decide) ?_
          refine lv_icmp_ne (tgt := 62) hx hb dX7_settle_48 (by decide) (fun c_5 => ?_) (fun c_5 => ?_)
          · have hG := hG.trans (if_neg c_5)
            refine lv_iconst (v := 1) hx hb dX7_settle_62 (by decide) ?_
            refine lv_goto (tgt := 67) hx hb dX7_settle_63 (by decide) ?_
            refine cr_pass (As := [.int 1]) (rest := []) hC hI (qX7_checkState l 1 (by decide)) (va_cwS 1 hts gX7_settle_X7_checkState rfl rfl rfl (by decide +kernel) ⟨Nat.le_of_ble_eq_true rfl, Nat.le_of_ble_eq_true rfl⟩) rfl hl.1 rfl (Nat.le_of_ble_eq_true rfl) dX7_settle_67 ⟨Nat.zero_le _, Nat.zero_le _⟩ (fun H locs hI => ?_)
            refine lv_aload_n hx hb dX7_settle_70 rfl (lv_at hl 1 rfl) ?_
            refine lv_aload_n hx hb dX7_settle_71 rfl (lv_at hl 0 rfl) ?_
            refine lv_iload_n hx hb dX7_settle_72 rfl (lv_at hl 3 rfl) ?_
            refine cr_callMV (As := [.ref (ga g 8 (ix k)), .int sum]) (rest := []) hC hI (qX7_win l A D cy g hL S e0 hV (ix k) (okI_l c_1 hN.n28 (by have := hN.b28; omega)) sum) (cwV 2 hts gX7_settle_X7_win rfl rfl rfl (by decide +kernel) ⟨Nat.le_of_ble_eq_true rfl, Nat.le_of_ble_eq_true rfl⟩) (cr_prev (ci := 8) hC hI 18 0 rfl rfl rfl) rfl hl.1 rfl (Nat.le_of_ble_eq_true rfl) dX7_settle_73 ⟨Nat.zero_le _, Nat.zero_le _⟩ (fun H locs hI => ?_)
            refine lv_aload_n hx hb dX7_settle_76 rfl (lv_at hl 0 rfl) ?_
            refine cr_get (ci := 6) hC hI 8 (ix k) (hT.v8 (okI_l c_1 hN.n28 (by have := hN.b28; omega))) rfl rfl hinX5 13 (by decide) k_227 (fun _ h => h) (v := .int ((fX7_win S (ix k) sum) 40 (ix k))) rfl dX7_settle_77 ?_
            refine vx_ret ?_
            refine W.widen (k := 1) (n := 6) (Nat.zero_le _) (Nat.zero_le _) ?_
            exact W.iret (v := ((fX7_win S (ix k) sum) 40 (ix k))) hx hb hr (fun t9 ht9 hW9 => ⟨⟨(fX7_win S (ix k) sum) 40 (ix k), (), rfl, ⟨congrArg (fun z => z.2.1) hG, (congrArg Prod.fst hG).symm⟩, by show CH D cy g _ t9.heap; rw [ht9, hG]; exact hI.1⟩, hI.2.F ht9⟩) hI.2.2.2 dX7_settle_80
          · have hG := hG.trans (if_pos c_5)
            refine lv_iconst (v := 5) hx hb dX7_settle_51 (by decide) ?_
            refine lv_iload_n hx hb dX7_settle_52 rfl (lv_at hl 3 rfl) ?_
            refine lv_imul hx hb dX7_settle_53 ?_
            refine lv_aload_n hx hb dX7_settle_54 rfl (lv_at hl 1 rfl) ?_
            refine lv_aload_n hx hb dX7_settle_55 rfl (lv_at hl 0 rfl) ?_
            refine cr_call (As := [.ref (ga g 8 (ix k))]) (rest := [.int (5 * sum)]) hC hI (qX7_dueBy l D cy g S e0 hV (ix k) (okI_l c_1 hN.n28 (by have := hN.b28; omega))) (cwV 1 hts gX7_settle_X7_dueBy rfl rfl rfl (by decide +kernel) ⟨Nat.le_of_ble_eq_true rfl, Nat.le_of_ble_eq_true rfl⟩) (cr_prev (ci := 8) hC hI 18 0 rfl rfl rfl) rfl hl.1 rfl (Nat.le_of_ble_eq_true rfl) dX7_settle_56 ⟨Nat.zero_le _, Nat.zero_le _⟩ (fun H locs hI => ?_)
            refine lv_icmp_lt (tgt := 66) hx hb dX7_settle_59 (by decide) (fun c_6 => ?_) (fun c_6 => ?_)
            · have hG := hG.trans (if_pos c_6)
              refine lv_iconst (v := 0) hx hb dX7_settle_66 (by decide) ?_
              exact ct_s (As := [.int 0]) (rest := []) hC.1 hI.2 hJ (tX7_checkState l hfl 0 (by decide)) (va_cwS 1 hts gX7_settle_X7_checkState rfl rfl rfl (by decide +kernel) ⟨Nat.le_of_ble_eq_true rfl, Nat.le_of_ble_eq_true rfl⟩) rfl hl.1 rfl (Nat.le_of_ble_eq_true rfl) dX7_settle_67 ⟨Nat.le_of_ble_eq_true rfl, Nat.le_of_ble_eq_true rfl⟩ hno hlocks (xf_of hI (by decide) (congrArg (fun z => z.2.1) hG)) (fun _ h => h) (Nat.le_of_ble_eq_true rfl) (Nat.le_of_ble_eq_true rfl)
            · have hG := hG.trans (if_neg c_6)
              refine lv_iconst (v := 1) hx hb dX7_settle_62 (by decide) ?_
              refine lv_goto (tgt := 67) hx hb dX7_settle_63 (by decide) ?_
              refine cr_pass (As := [.int 1]) (rest := []) hC hI (qX7_checkState l 1 (by decide)) (va_cwS 1 hts gX7_settle_X7_checkState rfl rfl rfl (by decide +kernel) ⟨Nat.le_of_ble_eq_true rfl, Nat.le_of_ble_eq_true rfl⟩) rfl hl.1 rfl (Nat.le_of_ble_eq_true rfl) dX7_settle_67 ⟨Nat.zero_le _, Nat.zero_le _⟩ (fun H locs hI => ?_)
              refine lv_aload_n hx hb dX7_settle_70 rfl (lv_at hl 1 rfl) ?_
              refine lv_aload_n hx hb dX7_settle_71 rfl (lv_at hl 0 rfl) ?_
              refine lv_iload_n hx hb dX7_settle_72 rfl (lv_at hl 3 rfl) ?_
              refine cr_callMV (As := [.ref (ga g 8 (ix k)), .int sum]) (rest := []) hC hI (qX7_win l A D cy g hL S e0 hV (ix k) (okI_l c_1 hN.n28 (by have := hN.b28; omega)) sum) (cwV 2 hts gX7_settle_X7_win rfl rfl rfl (by decide +kernel) ⟨Nat.le_of_ble_eq_true rfl, Nat.le_of_ble_eq_true rfl⟩) (cr_prev (ci := 8) hC hI 18 0 rfl rfl rfl) rfl hl.1 rfl (Nat.le_of_ble_eq_true rfl) dX7_settle_73 ⟨Nat.zero_le _, Nat.zero_le _⟩ (fun H locs hI => ?_)
              refine lv_aload_n hx hb dX7_settle_76 rfl (lv_at hl 0 rfl) ?_
              refine cr_get (ci := 6) hC hI 8 (ix k) (hT.v8 (okI_l c_1 hN.n28 (by have := hN.b28; omega))) rfl rfl hinX5 13 (by decide) k_227 (fun _ h => h) (v := .int ((fX7_win S (ix k) sum) 40 (ix k))) rfl dX7_settle_77 ?_
              refine vx_ret ?_
              refine W.widen (k := 1) (n := 6) (Nat.zero_le _) (Nat.zero_le _) ?_
              exact W.iret (v := ((fX7_win S (ix k) sum) 40 (ix k))) hx hb hr (fun t9 ht9 hW9 => ⟨⟨(fX7_win S (ix k) sum) 40 (ix k), (), rfl, ⟨congrArg (fun z => z.2.1) hG, (congrArg Prod.fst hG).symm⟩, by show CH D cy g _ t9.heap; rw [ht9, hG]; exact hI.1⟩, hI.2.F ht9⟩) hI.2.2.2 dX7_settle_80
      · have hG := hG.trans (if_neg c_3)
        exact ct_s (As := [.int (fX5_isReady S (ix k))]) (rest := []) hC.1 hI.2 hJ (tX7_checkState l hfl (fX5_isReady S (ix k)) (Decidable.not_not.mp c_3)) (va_cwS 1 hts gX7_settle_X7_checkState rfl rfl rfl (by decide +kernel) ⟨Nat.le_of_ble_eq_true rfl, Nat.le_of_ble_eq_true rfl⟩) rfl hl.1 rfl (Nat.le_of_ble_eq_true rfl) dX7_settle_17 ⟨Nat.le_of_ble_eq_true rfl, Nat.le_of_ble_eq_true rfl⟩ hno hlocks (xf_of hI (by decide) (congrArg (fun z => z.2.1) hG)) (fun _ h => h) (Nat.le_of_ble_eq_true rfl) (Nat.le_of_ble_eq_true rfl)
    · have hG := hG.trans (if_neg c_2)
      exact ct_s (As := [.int sum, .int 0, .int 100000000]) (rest := []) hC.1 hI.2 hJ (tX7_checkRange l hfl sum 0 100000000 c_2) (va_cwS 3 hts gX7_settle_X7_checkRange rfl rfl rfl (by decide +kernel) ⟨Nat.le_of_ble_eq_true rfl, Nat.le_of_ble_eq_true rfl⟩) rfl hl.1 rfl (Nat.le_of_ble_eq_true rfl) dX7_settle_10 ⟨Nat.le_of_ble_eq_true rfl, Nat.le_of_ble_eq_true rfl⟩ hno hlocks (xf_of hI (by decide) (congrArg (fun z => z.2.1) hG)) (fun _ h => h) (Nat.le_of_ble_eq_true rfl) (Nat.le_of_ble_eq_true rfl)
  · have hG := hG.trans (if_neg c_1)
    exact ct_v (As := [.int k]) (rest := []) hC hI hJ (tX7_suitAt l hfl D cy g S e0 hV k c_1) (cwV 1 hts gX7_settle_X7_suitAt rfl rfl rfl (by decide +kernel) ⟨Nat.le_of_ble_eq_true rfl, Nat.le_of_ble_eq_true rfl⟩) rfl hl.1 rfl (Nat.le_of_ble_eq_true rfl) dX7_settle_2 ⟨Nat.le_of_ble_eq_true rfl, Nat.le_of_ble_eq_true rfl⟩ hno hlocks (xf_of hI (by decide) (congrArg (fun z => z.2.1) hG)) (fun _ h => h) (Nat.le_of_ble_eq_true rfl) (Nat.le_of_ble_eq_true rfl)
set_option maxHeartbeats 4000000 in
set_option maxRecDepth 100000 in
theorem qX7_work (l : Launch) (hfl : l.stackTraces = false) (A : Nat → Prop) (D : va_G) (cy : Nat → ClassId) (g : CWt) (hL : CL A g) (S : St) (e0 : Nat) (hV : CV e0 g S) (t : Int32) (f : Int32) (its : Int32) : vx_Met l yX7_work wsX7_work ({ frames := 8, cells := 1, slots := 6, locals := 124 } : Room) (va_Pc [.ref (ga g 18 0), .int t, .int f, .int its] (fun U => CP D cy g S U ∧ JT A U U.heap)) (va_Qi (fun (r : Int32) (_ : Unit) => (fX7_work S t f its).2.1 = 0 ∧ r = (fX7_work S t f its).1) (fun _ t9 => CH D cy g (fX7_work S t f its).2.2 t9.heap) A) (XF A D cy g S (fX7_work S t f its).2.1) 1 6 A := by
  refine vx_ofW (cc := cX7_work) (maxL := 6) (ret := (some .int)) (by decide) rfl ?_
  intro p e s m args below meth c s₁ B hml hno hv
  obtain ⟨rfl, ⟨hM, hK⟩, hJ⟩ := hv
  have hx := B.exec
  have hb := B.bytes
  have hr := B.returns
  have hts := atoms_spec (ws := wsX7_work) B.pre
  have hown : s.vm.findClass RX7 = some m.cls := findClass_of_methodNamed B.named
  have hlocks := B.notSynchronized
  have hC : CC p s m _ c cX7_work 6 RX7 D cy wsX7_work := ⟨⟨hx, hb, hml, hown, hts⟩, hK⟩
  have hI : CI A D cy g s S s.heap [] := ⟨hM, va_S.rf⟩
  have hT := hV.2.1
  have hN := hV.2.2.1
  have hQ := hV.2.2.2
  have hb7 := hN.b7
  have hb15 := hN.b15
  have hb23 := hN.b23
  have hb28 := hN.b28
  have hb42 := hN.b42
  have hb64 := hQ.b64
  have k_230 := hts (.fieldLink RX7 230 "RelatorsBench$Teller" "employer" "I") (List.mem_cons_of_mem _ (List.mem_append_left _ (List.mem_append_left _ (List.mem_append_left _ (List.mem_append_left _ (List.mem_of_getElem? (i := 0) rfl))))))
  have hinX6 : ∀ w ∈ wsX60, w ∈ wsX7_work := fun _ h => List.mem_cons_of_mem _ (List.mem_append_left _ (List.mem_append_left _ (List.mem_append_left _ (List.mem_append_right _ (h)))))
  have k_233 := hts (.fieldLink RX7 233 "RelatorsBench$Teller" "wage" "I") (List.mem_cons_of_mem _ (List.mem_append_left _ (List.mem_append_left _ (List.mem_append_left _ (List.mem_append_left _ (List.mem_of_getElem? (i := 1) rfl))))))
  have hl := lv_entry ([.ref (ga g 18 0), .int t, .int f, .int its]) (n := 6) (Nat.le_of_ble_eq_true rfl)
  rw [lg_entry_eq]
  generalize (lg_sl ([.ref (ga g 18 0), .int t, .int f, .int its]) ++ List.replicate (6 - (lg_sl ([.ref (ga g 18 0), .int t, .int f, .int its])).length) Slot.unset).toArray = ls at hl ⊢
  have hl : lv_has ls 6 [(0, .ref (ga g 18 0)), (1, .int t), (2, .int f), (3, .int its)] := hl
  have hG : fX7_work S t f its = fX7_work S t f its := rfl
  refine lv_aload_n hx hb dX7_work_0 rfl (lv_at hl 0 rfl) ?_
  refine lv_iload_n hx hb dX7_work_1 rfl (lv_at hl 1 rfl) ?_
  by_cases c_1 : okI t 8
  · have hG := hG.trans (if_pos c_1)
    refine cr_callR (As := [.int t]) (rest := []) hC hI (qX7_tellerAt l D cy g S e0 hV t c_1) (cwV 1 hts gX7_work_X7_tellerAt rfl rfl rfl (by decide +kernel) ⟨Nat.le_of_ble_eq_true rfl, Nat.le_of_ble_eq_true rfl⟩) (cr_prev (ci := 8) hC hI 18 0 rfl rfl rfl) rfl hl.1 rfl (Nat.le_of_ble_eq_true rfl) dX7_work_2 ⟨Nat.zero_le _, Nat.zero_le _⟩ (fun H locs hI => ?_)
    refine lv_astore (lv' := [(4, .ref (ga g 4 (ix t))), (0, .ref (ga g 18 0)), (1, .int t), (2, .int f), (3, .int its)]) hx hb dX7_work_5 hl (by decide) rfl (fun ls hl => ?_)
    refine lv_iload_n hx hb dX7_work_7 rfl (lv_at hl 3 rfl) ?_
    refine lv_bipush (v := 6) hx hb dX7_work_8 (by decide) ?_
    by_cases c_2 : okI f 6
    · have hG := hG.trans (if_pos c_2)
      refine cr_pass (As := [.int f, .int 6]) (rest := []) hC hI (qX7_checkIndex l f 6 c_2) (va_cwS 2 hts gX7_work_X7_checkIndex rfl rfl rfl (by decide +kernel) ⟨Nat.le_of_ble_eq_true rfl, Nat.le_of_ble_eq_true rfl⟩) rfl hl.1 rfl (Nat.le_of_ble_eq_true rfl) dX7_work_10 ⟨Nat.zero_le _, Nat.zero_le _⟩ (fun H locs hI => ?_)
      refine lv_iload_n hx hb dX7_work_13 rfl (lv_at hl 4 rfl) ?_
      refine lv_iconst (v := 0) hx hb dX7_work_14 (by decide) ?_
      refine lv_sipush (v := 999) hx hb dX7_work_15 (by decide) ?_
      by_cases c_3 : okR its 0 999
      · have hG := hG.trans (if_pos c_3)
        refine cr_pass (As := [.int its, .int 0, .int 999]) (rest := []) hC hI (qX7_checkRange l its 0 999 c_3) (va_cwS 3 hts gX7_work_X7_checkRange rfl rfl rfl (by decide +kernel) ⟨Nat.le_of_ble_eq_true rfl, Nat.le_of_ble_eq_true rfl⟩) rfl hl.1 rfl (Nat.le_of_ble_eq_true rfl) dX7_work_18 ⟨Nat.zero_le _, Nat.zero_le _⟩ (fun H locs hI => ?_)
        refine lv_aload hx hb dX7_work_21 (lv_at hl 0 rfl) ?_
        refine cr_get (ci := 7) hC hI 4 (ix t) (okI_l (N := 8) c_1 (by decide) (by decide)) rfl rfl hinX6 2 (by decide) k_230 (fun _ h => h) (v := .int (S 49 (ix t))) rfl dX7_work_23 ?_
        refine lv_istore (lv' := [(5, .int (S 49 (ix t))), (4, .ref (ga g 4 (ix t))), (0, .ref (ga g 18 0)), (1, .int t), (2, .int f), (3, .int its)]) hx hb dX7_work_26 hl (by decide) rfl (fun ls hl => ?_)
        refine lv_aload hx hb dX7_work_28 (lv_at hl 1 rfl) ?_
        refine lv_iload_n hx hb dX7_work_30 rfl (lv_at hl 4 rfl) ?_
        refine cr_put (ci := 7) (v := .int f) (ty := .int) (S' := (up S 49 (ix t) f)) hC hL hI 4 (ix t) (okI_l (N := 8) c_1 (by decide) (by decide)) rfl rfl hinX6 tyX6 tyX6_ok nmX6 2 (by decide) k_230 (fun _ h => h) rfl (by decide +kernel) rfl rfl (Nat.le_of_ble_eq_true rfl) (cn_49 (ix t) _) (cu_49 (ix t) _) dX7_work_31 (fun H locs hI => ?_)
        refine lv_aload hx hb dX7_work_34 (lv_at hl 1 rfl) ?_
        refine lv_iload_n hx hb dX7_work_36 rfl (lv_at hl 5 rfl) ?_
        refine cr_put (ci := 7) (v := .int its) (ty := .int) (S' := (up (up S 49 (ix t) f) 50 (ix t) its)) hC hL hI 4 (ix t) (okI_l (N := 8) c_1 (by decide) (by decide)) rfl rfl hinX6 tyX6 tyX6_ok nmX6 3 (by decide) k_233 (fun _ h => h) rfl (by decide +kernel) rfl rfl (Nat.le_of_ble_eq_true rfl) (cn_50 (ix t) _) (cu_50 (ix t) _) dX7_work_37 (fun H locs hI => ?_)
        refine lv_iload hx hb dX7_work_40 (lv_at hl 0 rfl) ?_
        refine vx_ret ?_
        refine W.widen (k := 1) (n := 6) (Nat.zero_le _) (Nat.zero_le _) ?_
        exact W.iret (v := (S 49 (ix t))) hx hb hr (fun t9 ht9 hW9 => ⟨⟨S 49 (ix t), (), rfl, ⟨congrArg (fun z => z.2.1) hG, (congrArg Prod.fst hG).symm⟩, by show CH D cy g _ t9.heap; rw [ht9, hG]; exact hI.1⟩, hI.2.F ht9⟩) hI.2.2.2 dX7_work_42
      · have hG := hG.trans (if_neg c_3)
        exact ct_s (As := [.int its, .int 0, .int 999]) (rest := []) hC.1 hI.2 hJ (tX7_checkRange l hfl its 0 999 c_3) (va_cwS 3 hts gX7_work_X7_checkRange rfl rfl rfl (by decide +kernel) ⟨Nat.le_of_ble_eq_true rfl, Nat.le_of_ble_eq_true rfl⟩) rfl hl.1 rfl (Nat.le_of_ble_eq_true rfl) dX7_work_18 ⟨Nat.le_of_ble_eq_true rfl, Nat.le_of_ble_eq_true rfl⟩ hno hlocks (xf_of hI (by decide) (congrArg (fun z => z.2.1) hG)) (fun _ h => h) (Nat.le_of_ble_eq_true rfl) (Nat.le_of_ble_eq_true rfl)
    · have hG := hG.trans (if_neg c_2)
      exact ct_s (As := [.int f, .int 6]) (rest := []) hC.1 hI.2 hJ (tX7_checkIndex l hfl f 6 c_2) (va_cwS 2 hts gX7_work_X7_checkIndex rfl rfl rfl (by decide +kernel) ⟨Nat.le_of_ble_eq_true rfl, Nat.le_of_ble_eq_true rfl⟩) rfl hl.1 rfl (Nat.le_of_ble_eq_true rfl) dX7_work_10 ⟨Nat.le_of_ble_eq_true rfl, Nat.le_of_ble_eq_true rfl⟩ hno hlocks (xf_of hI (by decide) (congrArg (fun z => z.2.1) hG)) (fun _ h => h) (Nat.le_of_ble_eq_true rfl) (Nat.le_of_ble_eq_true rfl)
  · have hG := hG.trans (if_neg c_1)
    exact ct_v (As := [.int t]) (rest := []) hC hI hJ (tX7_tellerAt l hfl D cy g S e0 hV t c_1) (cwV 1 hts gX7_work_X7_tellerAt rfl rfl rfl (by decide +kernel) ⟨Nat.le_of_ble_eq_true rfl, Nat.le_of_ble_eq_true rfl⟩) rfl hl.1 rfl (Nat.le_of_ble_eq_true rfl) dX7_work_2 ⟨Nat.le_of_ble_eq_true rfl, Nat.le_of_ble_eq_true rfl⟩ hno hlocks (xf_of hI (by decide) (congrArg (fun z => z.2.1) hG)) (fun _ h => h) (Nat.le_of_ble_eq_true rfl) (Nat.le_of_ble_eq_true rfl)
set_option maxHeartbeats 4000000 in
set_option maxRecDepth 100000 in
theorem qX7_tell (l : Launch) (hfl : l.stackTraces = false) (A : Nat → Prop) (D : va_G) (cy : Nat → ClassId) (g : CWt) (hL : CL A g) (S : St) (e0 : Nat) (hV : CV e0 g S) (f : Int32) (t : Int32) : vx_Met l yX7_tell wsX7_tell ({ frames := 8, cells := 1, slots := 6, locals := 124 } : Room) (va_Pc [.ref (ga g 18 0), .int f, .int t] (fun U => CP D cy g S U ∧ JT A U U.heap)) (va_Qi (fun (r : Int32) (_ : Unit) => (fX7_tell S f t).2.1 = 0 ∧ r = (fX7_tell S f t).1) (fun _ t9 => CH D cy g (fX7_tell S f t).2.2 t9.heap) A) (XF A D cy g S (fX7_tell S f t).2.1) 1 6 A := by
  refine vx_ofW (cc := cX7_tell) (maxL := 4) (ret := (some .int)) (by decide) rfl ?_
  intro p e s m args below meth c s₁ B hml hno hv
  obtain ⟨rfl, ⟨hM, hK⟩, hJ⟩ := hv
  have hx := B.exec
  have hb := B.bytes
  have hr := B.returns
  have hts := atoms_spec (ws := wsX7_tell) B.pre
  have hown : s.vm.findClass RX7 = some m.cls := findClass_of_methodNamed B.named
  have hlocks := B.notSynchronized
  have hC : CC p s m _ c cX7_tell 4 RX7 D cy wsX7_tell := ⟨⟨hx, hb, hml, hown, hts⟩, hK⟩
  have hI : CI A D cy g s S s.heap [] := ⟨hM, va_S.rf⟩
  have hT := hV.2.1
  have hN := hV.2.2.1
  have hQ := hV.2.2.2
  have hb7 := hN.b7
  have hb15 := hN.b15
  have hb23 := hN.b23
  have hb28 := hN.b28
  have hb42 := hN.b42
  have hb64 := hQ.b64
  have k_236 := hts (.fieldLink RX7 236 "RelatorsBench$Firm" "toldOn" "[I") (List.mem_cons_of_mem _ (List.mem_append_left _ (List.mem_append_left _ (List.mem_append_left _ (List.mem_append_left _ (List.mem_append_left _ (List.mem_append_left _ (List.mem_of_getElem? (i := 0) rfl))))))))
  have hinX2 : ∀ w ∈ wsX20, w ∈ wsX7_tell := fun _ h => List.mem_cons_of_mem _ (List.mem_append_left _ (List.mem_append_left _ (List.mem_append_left _ (List.mem_append_left _ (List.mem_append_right _ (h))))))
  have k_51 := hts (.fieldLink RX7 51 "RelatorsBench" "today" "I") (List.mem_cons_of_mem _ (List.mem_append_left _ (List.mem_append_left _ (List.mem_append_left _ (List.mem_append_left _ (List.mem_append_left _ (List.mem_append_left _ (List.mem_of_getElem? (i := 1) rfl))))))))
  have hinX7 : ∀ w ∈ wsX70, w ∈ wsX7_tell := fun _ h => List.mem_cons_of_mem _ (List.mem_append_left _ (List.mem_append_left _ (List.mem_append_left _ (List.mem_append_right _ (h)))))
  have hl := lv_entry ([.ref (ga g 18 0), .int f, .int t]) (n := 4) (Nat.le_of_ble_eq_true rfl)
  rw [lg_entry_eq]
  generalize (lg_sl ([.ref (ga g 18 0), .int f, .int t]) ++ List.replicate (4 - (lg_sl ([.ref (ga g 18 0), .int f, .int t])).length) Slot.unset).toArray = ls at hl ⊢
  have hl : lv_has ls 4 [(0, .ref (ga g 18 0)), (1, .int f), (2, .int t)] := hl
  have hG : fX7_tell S f t = fX7_tell S f t := rfl
  refine lv_aload_n hx hb dX7_tell_0 rfl (lv_at hl 0 rfl) ?_
  refine lv_iload_n hx hb dX7_tell_1 rfl (lv_at hl 1 rfl) ?_
  by_cases c_1 : okI f 6
  · have hG := hG.trans (if_pos c_1)
    refine cr_callR (As := [.int f]) (rest := []) hC hI (qX7_firmAt l D cy g S e0 hV f c_1) (cwV 1 hts gX7_tell_X7_firmAt rfl rfl rfl (by decide +kernel) ⟨Nat.le_of_ble_eq_true rfl, Nat.le_of_ble_eq_true rfl⟩) (cr_prev (ci := 8) hC hI 18 0 rfl rfl rfl) rfl hl.1 rfl (Nat.le_of_ble_eq_true rfl) dX7_tell_2 ⟨Nat.zero_le _, Nat.zero_le _⟩ (fun H locs hI => ?_)
    refine lv_astore_n (lv' := [(3, .ref (ga g 0 (ix f))), (0, .ref (ga g 18 0)), (1, .int f), (2, .int t)]) hx hb dX7_tell_5 rfl hl (by decide) rfl (fun ls hl => ?_)
    refine lv_iload_n hx hb dX7_tell_6 rfl (lv_at hl 3 rfl) ?_
    refine lv_bipush (v := 8) hx hb dX7_tell_7 (by decide) ?_
    by_cases c_2 : okI t 8
    · have hG := hG.trans (if_pos c_2)
      refine cr_pass (As := [.int t, .int 8]) (rest := []) hC hI (qX7_checkIndex l t 8 c_2) (va_cwS 2 hts gX7_tell_X7_checkIndex rfl rfl rfl (by decide +kernel) ⟨Nat.le_of_ble_eq_true rfl, Nat.le_of_ble_eq_true rfl⟩) rfl hl.1 rfl (Nat.le_of_ble_eq_true rfl) dX7_tell_9 ⟨Nat.zero_le _, Nat.zero_le _⟩ (fun H locs hI => ?_)
      refine lv_aload_n hx hb dX7_tell_12 rfl (lv_at hl 0 rfl) ?_
      refine cr_get (ci := 3) hC hI 0 (ix f) (okI_l (N := 6) c_1 (by decide) (by decide)) rfl rfl hinX2 4 (by decide) k_236 (fun _ h => h) (v := .ref (ga g 1 (ix f))) rfl dX7_tell_13 ?_
      refine lv_iload_n hx hb dX7_tell_16 rfl (lv_at hl 3 rfl) ?_
      refine cr_iald (N := 8) (f := (fun u9 => S 51 (8 * (ix f) + u9))) hC hI 1 (ix f) (okI_l (N := 6) c_1 (by decide) (by decide)) rfl (okI_in (N := 8) c_2 (by decide) (by decide)) (v := (S 51 (8 * (ix f) + (ix t)))) rfl dX7_tell_17 ?_
      refine lv_iconst (v := (-1)) hx hb dX7_tell_18 (by decide) ?_
      refine lv_icmp_ne (tgt := 32) hx hb dX7_tell_19 (by decide) (fun c_3 => ?_) (fun c_3 => ?_)
      · have hG := hG.trans (if_neg c_3)
        refine lv_aload_n hx hb dX7_tell_32 rfl (lv_at hl 1 rfl) ?_
        refine lv_iload_n hx hb dX7_tell_33 rfl (lv_at hl 2 rfl) ?_
        refine lv_iload_n hx hb dX7_tell_34 rfl (lv_at hl 3 rfl) ?_
        refine cr_call (As := [.int f, .int t]) (rest := []) hC hI (qX7_dayOfKnowing l D cy g S e0 hV f t c_1 c_2) (cwV 2 hts gX7_tell_X7_dayOfKnowing rfl rfl rfl (by decide +kernel) ⟨Nat.le_of_ble_eq_true rfl, Nat.le_of_ble_eq_true rfl⟩) (cr_prev (ci := 8) hC hI 18 0 rfl rfl rfl) rfl hl.1 rfl (Nat.le_of_ble_eq_true rfl) dX7_tell_35 ⟨Nat.zero_le _, Nat.zero_le _⟩ (fun H locs hI => ?_)
        refine vx_ret ?_
        refine W.widen (k := 1) (n := 6) (Nat.zero_le _) (Nat.zero_le _) ?_
        exact W.iret (v := (fX7_dayOfKnowing S f t)) hx hb hr (fun t9 ht9 hW9 => ⟨⟨(fX7_dayOfKnowing S f t), (), rfl, ⟨congrArg (fun z => z.2.1) hG, (congrArg Prod.fst hG).symm⟩, by show CH D cy g _ t9.heap; rw [ht9, hG]; exact hI.1⟩, hI.2.F ht9⟩) hI.2.2.2 dX7_tell_38
      · have hG := hG.trans (if_pos c_3)
        refine lv_aload_n hx hb dX7_tell_22 rfl (lv_at hl 0 rfl) ?_
        refine cr_get (ci := 3) hC hI 0 (ix f) (okI_l (N := 6) c_1 (by decide) (by decide)) rfl rfl hinX2 4 (by decide) k_236 (fun _ h => h) (v := .ref (ga g 1 (ix f))) rfl dX7_tell_23 ?_
        refine lv_iload_n hx hb dX7_tell_26 rfl (lv_at hl 3 rfl) ?_
        refine lv_aload_n hx hb dX7_tell_27 rfl (lv_at hl 1 rfl) ?_
        refine cr_get (ci := 8) hC hI 18 0 rfl rfl rfl hinX7 10 (by decide) k_51 (fun _ h => h) (v := .int (S 1 0)) rfl dX7_tell_28 ?_
        refine cr_iast (N := 8) (f := (fun u9 => S 51 (8 * (ix f) + u9))) (f' := (fun u9 => (up S 51 (8 * (ix f) + (ix t)) (S 1 0)) 51 (8 * (ix f) + u9))) (S' := (up S 51 (8 * (ix f) + (ix t)) (S 1 0))) hC hL hI 1 (ix f) (okI_l (N := 6) c_1 (by decide) (by decide)) rfl (okI_in (N := 8) c_2 (by decide) (by decide)) rfl (st_ff rfl) (cu_51 (ix f) (ix t) ((okI_l (N := 8) c_2 (by decide) (by decide))) _) dX7_tell_31 (fun H locs hI => ?_)
        refine lv_aload_n hx hb dX7_tell_32 rfl (lv_at hl 1 rfl) ?_
        refine lv_iload_n hx hb dX7_tell_33 rfl (lv_at hl 2 rfl) ?_
        refine lv_iload_n hx hb dX7_tell_34 rfl (lv_at hl 3 rfl) ?_
        refine cr_call (As := [.int f, .int t]) (rest := []) hC hI (qX7_dayOfKnowing l D cy g (up S 51 (8 * (ix f) + (ix t)) (S 1 0)) e0 (hV.congr ⟨rfl, rfl, rfl, rfl, rfl, rfl, rfl, rfl, rfl, rfl, rfl, rfl, rfl, rfl⟩ ⟨rfl, rfl⟩) f t c_1 c_2) (cwV 2 hts gX7_tell_X7_dayOfKnowing rfl rfl rfl (by decide +kernel) ⟨Nat.le_of_ble_eq_true rfl, Nat.le_of_ble_eq_true rfl⟩) (cr_prev (ci := 8) hC hI 18 0 rfl rfl rfl) rfl hl.1 rfl (Nat.le_of_ble_eq_true rfl) dX7_tell_35 ⟨Nat.zero_le _, Nat.zero_le _⟩ (fun H locs hI => ?_)
        refine vx_ret ?_
        refine W.widen (k := 1) (n := 6) (Nat.zero_le _) (Nat.zero_le _) ?_
        exact W.iret (v := (fX7_dayOfKnowing (up S 51 (8 * (ix f) + (ix t)) (S 1 0)) f t)) hx hb hr (fun t9 ht9 hW9 => ⟨⟨(fX7_dayOfKnowing (up S 51 (8 * (ix f) + (ix t)) (S 1 0)) f t), (), rfl, ⟨congrArg (fun z => z.2.1) hG, (congrArg Prod.fst hG).symm⟩, by show CH D cy g _ t9.heap; rw [ht9, hG]; exact hI.1⟩, hI.2.F ht9⟩) hI.2.2.2 dX7_tell_38
    · have hG := hG.trans (if_neg c_2)
      exact ct_s (As := [.int t, .int 8]) (rest := []) hC.1 hI.2 hJ (tX7_checkIndex l hfl t 8 c_2) (va_cwS 2 hts gX7_tell_X7_checkIndex rfl rfl rfl (by decide +kernel) ⟨Nat.le_of_ble_eq_true rfl, Nat.le_of_ble_eq_true rfl⟩) rfl hl.1 rfl (Nat.le_of_ble_eq_true rfl) dX7_tell_9 ⟨Nat.le_of_ble_eq_true rfl, Nat.le_of_ble_eq_true rfl⟩ hno hlocks (xf_of hI (by decide) (congrArg (fun z => z.2.1) hG)) (fun _ h => h) (Nat.le_of_ble_eq_true rfl) (Nat.le_of_ble_eq_true rfl)
  · have hG := hG.trans (if_neg c_1)
    exact ct_v (As := [.int f]) (rest := []) hC hI hJ (tX7_firmAt l hfl D cy g S e0 hV f c_1) (cwV 1 hts gX7_tell_X7_firmAt rfl rfl rfl (by decide +kernel) ⟨Nat.le_of_ble_eq_true rfl, Nat.le_of_ble_eq_true rfl⟩) rfl hl.1 rfl (Nat.le_of_ble_eq_true rfl) dX7_tell_2 ⟨Nat.le_of_ble_eq_true rfl, Nat.le_of_ble_eq_true rfl⟩ hno hlocks (xf_of hI (by decide) (congrArg (fun z => z.2.1) hG)) (fun _ h => h) (Nat.le_of_ble_eq_true rfl) (Nat.le_of_ble_eq_true rfl)
set_option maxHeartbeats 4000000 in
set_option maxRecDepth 100000 in
theorem qX7_fire (l : Launch) (hfl : l.stackTraces = false) (A : Nat → Prop) (D : va_G) (cy : Nat → ClassId) (g : CWt) (hL : CL A g) (S : St) (e0 : Nat) (hV : CV e0 g S) (f : Int32) (t : Int32) : vx_Met l yX7_fire wsX7_fire ({ frames := 8, cells := 1, slots := 6, locals := 124 } : Room) (va_Pc [.ref (ga g 18 0), .int f, .int t] (fun U => CP D cy g S U ∧ JT A U U.heap)) (va_Qi (fun (r : Int32) (_ : Unit) => (fX7_fire S f t).2.1 = 0 ∧ r = (fX7_fire S f t).1) (fun _ t9 => CH D cy g (fX7_fire S f t).2.2 t9.heap) A) (XF A D cy g S (fX7_fire S f t).2.1) 1 6 A := by
  refine vx_ofW (cc := cX7_fire) (maxL := 6) (ret := (some .boolean)) (by decide) rfl ?_
  intro p e s m args below meth c s₁ B hml hno hv
  obtain ⟨rfl, ⟨hM, hK⟩, hJ⟩ := hv
  have hx := B.exec
  have hb := B.bytes
  have hr := B.returns
  have hts := atoms_spec (ws := wsX7_fire) B.pre
  have hown : s.vm.findClass RX7 = some m.cls := findClass_of_methodNamed B.named
  have hlocks := B.notSynchronized
  have hC : CC p s m _ c cX7_fire 6 RX7 D cy wsX7_fire := ⟨⟨hx, hb, hml, hown, hts⟩, hK⟩
  have hI : CI A D cy g s S s.heap [] := ⟨hM, va_S.rf⟩
  have hT := hV.2.1
  have hN := hV.2.2.1
  have hQ := hV.2.2.2
  have hb7 := hN.b7
  have hb15 := hN.b15
  have hb23 := hN.b23
  have hb28 := hN.b28
  have hb42 := hN.b42
  have hb64 := hQ.b64
  have k_230 := hts (.fieldLink RX7 230 "RelatorsBench$Teller" "employer" "I") (List.mem_cons_of_mem _ (List.mem_append_left _ (List.mem_append_left _ (List.mem_append_left _ (List.mem_append_left _ (List.mem_append_left _ (List.mem_append_left _ (List.mem_append_left _ (List.mem_append_left _ (List.mem_of_getElem? (i := 0) rfl))))))))))
  have hinX6 : ∀ w ∈ wsX60, w ∈ wsX7_fire := fun _ h => List.mem_cons_of_mem _ (List.mem_append_left _ (List.mem_append_left _ (List.mem_append_left _ (List.mem_append_left _ (List.mem_append_left _ (List.mem_append_left _ (List.mem_append_right _ (h))))))))
  have k_246 := hts (.fieldLink RX7 246 "RelatorsBench$Firm" "awardFrom" "[I") (List.mem_cons_of_mem _ (List.mem_append_left _ (List.mem_append_left _ (List.mem_append_left _ (List.mem_append_left _ (List.mem_append_left _ (List.mem_append_left _ (List.mem_append_left _ (List.mem_append_left _ (List.mem_of_getElem? (i := 1) rfl))))))))))
  have hinX2 : ∀ w ∈ wsX20, w ∈ wsX7_fire := fun _ h => List.mem_cons_of_mem _ (List.mem_append_left _ (List.mem_append_left _ (List.mem_append_left _ (List.mem_append_left _ (List.mem_append_left _ (List.mem_append_right _ (h)))))))
  have k_249 := hts (.fieldLink RX7 249 "RelatorsBench$Firm" "lostWage" "[I") (List.mem_cons_of_mem _ (List.mem_append_left _ (List.mem_append_left _ (List.mem_append_left _ (List.mem_append_left _ (List.mem_append_left _ (List.mem_append_left _ (List.mem_append_left _ (List.mem_append_left _ (List.mem_of_getElem? (i := 3) rfl))))))))))
  have k_233 := hts (.fieldLink RX7 233 "RelatorsBench$Teller" "wage" "I") (List.mem_cons_of_mem _ (List.mem_append_left _ (List.mem_append_left _ (List.mem_append_left _ (List.mem_append_left _ (List.mem_append_left _ (List.mem_append_left _ (List.mem_append_left _ (List.mem_append_left _ (List.mem_of_getElem? (i := 4) rfl))))))))))
  have k_51 := hts (.fieldLink RX7 51 "RelatorsBench" "today" "I") (List.mem_cons_of_mem _ (List.mem_append_left _ (List.mem_append_left _ (List.mem_append_left _ (List.mem_append_left _ (List.mem_append_left _ (List.mem_append_left _ (List.mem_append_left _ (List.mem_append_left _ (List.mem_of_getElem? (i := 2) rfl))))))))))
  have hinX7 : ∀ w ∈ wsX70, w ∈ wsX7_fire := fun _ h => List.mem_cons_of_mem _ (List.mem_append_left _ (List.mem_append_left _ (List.mem_append_left _ (List.mem_append_left _ (List.mem_append_right _ (h))))))
  have hl := lv_entry ([.ref (ga g 18 0), .int f, .int t]) (n := 6) (Nat.le_of_ble_eq_true rfl)
  rw [lg_entry_eq]
  generalize (lg_sl ([.ref (ga g 18 0), .int f, .int t]) ++ List.replicate (6 - (lg_sl ([.ref (ga g 18 0), .int f, .int t])).length) Slot.unset).toArray = ls at hl ⊢
  have hl : lv_has ls 6 [(0, .ref (ga g 18 0)), (1, .int f), (2, .int t)] := hl
  have hG : fX7_fire S f t = fX7_fire S f t := rfl
  refine lv_aload_n hx hb dX7_fire_0 rfl (lv_at hl 0 rfl) ?_
  refine lv_iload_n hx hb dX7_fire_1 rfl (lv_at hl 1 rfl) ?_
  by_cases c_1 : okI f 6
  · have hG := hG.trans (if_pos c_1)
    refine cr_callR (As := [.int f]) (rest := []) hC hI (qX7_firmAt l D cy g S e0 hV f c_1) (cwV 1 hts gX7_fire_X7_firmAt rfl rfl rfl (by decide +kernel) ⟨Nat.le_of_ble_eq_true rfl, Nat.le_of_ble_eq_true rfl⟩) (cr_prev (ci := 8) hC hI 18 0 rfl rfl rfl) rfl hl.1 rfl (Nat.le_of_ble_eq_true rfl) dX7_fire_2 ⟨Nat.zero_le _, Nat.zero_le _⟩ (fun H locs hI => ?_)
    refine lv_astore_n (lv' := [(3, .ref (ga g 0 (ix f))), (0, .ref (ga g 18 0)), (1, .int f), (2, .int t)]) hx hb dX7_fire_5 rfl hl (by decide) rfl (fun ls hl => ?_)
    refine lv_aload_n hx hb dX7_fire_6 rfl (lv_at hl 1 rfl) ?_
    refine lv_iload_n hx hb dX7_fire_7 rfl (lv_at hl 3 rfl) ?_
    by_cases c_2 : okI t 8
    · have hG := hG.trans (if_pos c_2)
      refine cr_callR (As := [.int t]) (rest := []) hC hI (qX7_tellerAt l D cy g S e0 hV t c_2) (cwV 1 hts gX7_fire_X7_tellerAt rfl rfl rfl (by decide +kernel) ⟨Nat.le_of_ble_eq_true rfl, Nat.le_of_ble_eq_true rfl⟩) (cr_prev (ci := 8) hC hI 18 0 rfl rfl rfl) rfl hl.1 rfl (Nat.le_of_ble_eq_true rfl) dX7_fire_8 ⟨Nat.zero_le _, Nat.zero_le _⟩ (fun H locs hI => ?_)
      refine lv_astore (lv' := [(4, .ref (ga g 4 (ix t))), (3, .ref (ga g 0 (ix f))), (0, .ref (ga g 18 0)), (1, .int f), (2, .int t)]) hx hb dX7_fire_11 hl (by decide) rfl (fun ls hl => ?_)
      refine lv_aload hx hb dX7_fire_13 (lv_at hl 0 rfl) ?_
      refine cr_get (ci := 7) hC hI 4 (ix t) (okI_l (N := 8) c_2 (by decide) (by decide)) rfl rfl hinX6 2 (by decide) k_230 (fun _ h => h) (v := .int (S 49 (ix t))) rfl dX7_fire_15 ?_
      refine lv_iload_n hx hb dX7_fire_18 rfl (lv_at hl 3 rfl) ?_
      refine lv_icmp_ne (tgt := 26) hx hb dX7_fire_19 (by decide) (fun c_3 => ?_) (fun c_3 => ?_)
      · have hG := hG.trans (if_neg c_3)
        refine lv_iconst (v := 0) hx hb dX7_fire_26 (by decide) ?_
        exact ct_s (As := [.int 0]) (rest := []) hC.1 hI.2 hJ (tX7_checkState l hfl 0 (by decide)) (va_cwS 1 hts gX7_fire_X7_checkState rfl rfl rfl (by decide +kernel) ⟨Nat.le_of_ble_eq_true rfl, Nat.le_of_ble_eq_true rfl⟩) rfl hl.1 rfl (Nat.le_of_ble_eq_true rfl) dX7_fire_27 ⟨Nat.le_of_ble_eq_true rfl, Nat.le_of_ble_eq_true rfl⟩ hno hlocks (xf_of hI (by decide) (congrArg (fun z => z.2.1) hG)) (fun _ h => h) (Nat.le_of_ble_eq_true rfl) (Nat.le_of_ble_eq_true rfl)
      · have hG := hG.trans (if_pos c_3)
        refine lv_iconst (v := 1) hx hb dX7_fire_22 (by decide) ?_
        refine lv_goto (tgt := 27) hx hb dX7_fire_23 (by decide) ?_
        refine cr_pass (As := [.int 1]) (rest := []) hC hI (qX7_checkState l 1 (by decide)) (va_cwS 1 hts gX7_fire_X7_checkState rfl rfl rfl (by decide +kernel) ⟨Nat.le_of_ble_eq_true rfl, Nat.le_of_ble_eq_true rfl⟩) rfl hl.1 rfl (Nat.le_of_ble_eq_true rfl) dX7_fire_27 ⟨Nat.zero_le _, Nat.zero_le _⟩ (fun H locs hI => ?_)
        refine lv_aload_n hx hb dX7_fire_30 rfl (lv_at hl 2 rfl) ?_
        refine lv_iload_n hx hb dX7_fire_31 rfl (lv_at hl 3 rfl) ?_
        refine lv_iload_n hx hb dX7_fire_32 rfl (lv_at hl 4 rfl) ?_
        refine cr_call (As := [.int f, .int t]) (rest := []) hC hI (qX7_wouldFireForTelling l D cy g S e0 hV f t c_1 c_2) (cwV 2 hts gX7_fire_X7_wouldFireForTelling rfl rfl rfl (by decide +kernel) ⟨Nat.le_of_ble_eq_true rfl, Nat.le_of_ble_eq_true rfl⟩) (cr_prev (ci := 8) hC hI 18 0 rfl rfl rfl) rfl hl.1 rfl (Nat.le_of_ble_eq_true rfl) dX7_fire_33 ⟨Nat.zero_le _, Nat.zero_le _⟩ (fun H locs hI => ?_)
        refine lv_istore (lv' := [(5, .int (fX7_wouldFireForTelling S f t)), (4, .ref (ga g 4 (ix t))), (3, .ref (ga g 0 (ix f))), (0, .ref (ga g 18 0)), (1, .int f), (2, .int t)]) hx hb dX7_fire_36 hl (by decide) rfl (fun ls hl => ?_)
        refine lv_aload_n hx hb dX7_fire_38 rfl (lv_at hl 2 rfl) ?_
        refine cr_get (ci := 3) hC hI 0 (ix f) (okI_l (N := 6) c_1 (by decide) (by decide)) rfl rfl hinX2 5 (by decide) k_246 (fun _ h => h) (v := .ref (ga g 2 (ix f))) rfl dX7_fire_39 ?_
        refine lv_iload_n hx hb dX7_fire_42 rfl (lv_at hl 5 rfl) ?_
        refine lv_iload hx hb dX7_fire_43 (lv_at hl 0 rfl) ?_
        refine lv_if_eq (tgt := 55) hx hb dX7_fire_45 (by decide) (fun c_4 => ?_) (fun c_4 => ?_)
        · have hG := hG.trans (if_pos c_4)
          refine lv_iconst (v := (-1)) hx hb dX7_fire_55 (by decide) ?_
          refine cr_iast (N := 8) (f := (fun u9 => S 62 (8 * (ix f) + u9))) (f' := (fun u9 => (up S 62 (8 * (ix f) + (ix t)) (-1)) 62 (8 * (ix f) + u9))) (S' := (up S 62 (8 * (ix f) + (ix t)) (-1))) hC hL hI 2 (ix f) (okI_l (N := 6) c_1 (by decide) (by decide)) rfl (okI_in (N := 8) c_2 (by decide) (by decide)) rfl (st_ff rfl) (cu_62 (ix f) (ix t) ((okI_l (N := 8) c_2 (by decide) (by decide))) _) dX7_fire_56 (fun H locs hI => ?_)
          refine lv_aload_n hx hb dX7_fire_57 rfl (lv_at hl 2 rfl) ?_
          refine cr_get (ci := 3) hC hI 0 (ix f) (okI_l (N := 6) c_1 (by decide) (by decide)) rfl rfl hinX2 6 (by decide) k_249 (fun _ h => h) (v := .ref (ga g 3 (ix f))) rfl dX7_fire_58 ?_
          refine lv_iload_n hx hb dX7_fire_61 rfl (lv_at hl 5 rfl) ?_
          refine lv_aload hx hb dX7_fire_62 (lv_at hl 1 rfl) ?_
          refine cr_get (ci := 7) hC hI 4 (ix t) (okI_l (N := 8) c_2 (by decide) (by decide)) rfl rfl hinX6 3 (by decide) k_233 (fun _ h => h) (v := .int (S 50 (ix t))) (congrArg (fun z => some (Value.int z)) (congrFun (up_ne (by decide)) _)) dX7_fire_64 ?_
          refine cr_iast (N := 8) (f := (fun u9 => (up S 62 (8 * (ix f) + (ix t)) (-1)) 53 (8 * (ix f) + u9))) (f' := (fun u9 => (up (up S 62 (8 * (ix f) + (ix t)) (-1)) 53 (8 * (ix f) + (ix t)) (S 50 (ix t))) 53 (8 * (ix f) + u9))) (S' := (up (up S 62 (8 * (ix f) + (ix t)) (-1)) 53 (8 * (ix f) + (ix t)) (S 50 (ix t)))) hC hL hI 3 (ix f) (okI_l (N := 6) c_1 (by decide) (by decide)) rfl (okI_in (N := 8) c_2 (by decide) (by decide)) rfl (st_ff rfl) (cu_53 (ix f) (ix t) ((okI_l (N := 8) c_2 (by decide) (by decide))) _) dX7_fire_67 (fun H locs hI => ?_)
          refine lv_aload hx hb dX7_fire_68 (lv_at hl 1 rfl) ?_
          refine lv_iconst (v := (-1)) hx hb dX7_fire_70 (by decide) ?_
          refine cr_put (ci := 7) (v := .int (-1)) (ty := .int) (S' := (up (up (up S 62 (8 * (ix f) + (ix t)) (-1)) 53 (8 * (ix f) + (ix t)) (S 50 (ix t))) 49 (ix t) (-1))) hC hL hI 4 (ix t) (okI_l (N := 8) c_2 (by decide) (by decide)) rfl rfl hinX6 tyX6 tyX6_ok nmX6 2 (by decide) k_230 (fun _ h => h) rfl (by decide +kernel) rfl rfl (Nat.le_of_ble_eq_true rfl) (cn_49 (ix t) _) (cu_49 (ix t) _) dX7_fire_71 (fun H locs hI => ?_)
          refine lv_iload hx hb dX7_fire_74 (lv_at hl 0 rfl) ?_
          refine vx_ret ?_
          refine W.widen (k := 1) (n := 6) (Nat.zero_le _) (Nat.zero_le _) ?_
          exact W.zret (v := (fX7_wouldFireForTelling S f t)) (ty := .boolean) hx hb hr (would_nar _ _ _) (fun t9 ht9 hW9 => ⟨⟨(fX7_wouldFireForTelling S f t), (), rfl, ⟨congrArg (fun z => z.2.1) hG, (congrArg Prod.fst hG).symm⟩, by show CH D cy g _ t9.heap; rw [ht9, hG]; exact hI.1⟩, hI.2.F ht9⟩) hI.2.2.2 dX7_fire_76
        · have hG := hG.trans (if_neg c_4)
          refine lv_aload_n hx hb dX7_fire_48 rfl (lv_at hl 3 rfl) ?_
          refine cr_get (ci := 8) hC hI 18 0 rfl rfl rfl hinX7 10 (by decide) k_51 (fun _ h => h) (v := .int (S 1 0)) rfl dX7_fire_49 ?_
          refine lv_goto (tgt := 56) hx hb dX7_fire_52 (by decide) ?_
          refine cr_iast (N := 8) (f := (fun u9 => S 62 (8 * (ix f) + u9))) (f' := (fun u9 => (up S 62 (8 * (ix f) + (ix t)) (S 1 0)) 62 (8 * (ix f) + u9))) (S' := (up S 62 (8 * (ix f) + (ix t)) (S 1 0))) hC hL hI 2 (ix f) (okI_l (N := 6) c_1 (by decide) (by decide)) rfl (okI_in (N := 8) c_2 (by decide) (by decide)) rfl (st_ff rfl) (cu_62 (ix f) (ix t) ((okI_l (N := 8) c_2 (by decide) (by decide))) _) dX7_fire_56 (fun H locs hI => ?_)
          refine lv_aload_n hx hb dX7_fire_57 rfl (lv_at hl 2 rfl) ?_
          refine cr_get (ci := 3) hC hI 0 (ix f) (okI_l (N := 6) c_1 (by decide) (by decide)) rfl rfl hinX2 6 (by decide) k_249 (fun _ h => h) (v := .ref (ga g 3 (ix f))) rfl dX7_fire_58 ?_
          refine lv_iload_n hx hb dX7_fire_61 rfl (lv_at hl 5 rfl) ?_
          refine lv_aload hx hb dX7_fire_62 (lv_at hl 1 rfl) ?_
          refine cr_get (ci := 7) hC hI 4 (ix t) (okI_l (N := 8) c_2 (by decide) (by decide)) rfl rfl hinX6 3 (by decide) k_233 (fun _ h => h) (v := .int (S 50 (ix t))) (congrArg (fun z => some (Value.int z)) (congrFun (up_ne (by decide)) _)) dX7_fire_64 ?_
          refine cr_iast (N := 8) (f := (fun u9 => (up S 62 (8 * (ix f) + (ix t)) (S 1 0)) 53 (8 * (ix f) + u9))) (f' := (fun u9 => (up (up S 62 (8 * (ix f) + (ix t)) (S 1 0)) 53 (8 * (ix f) + (ix t)) (S 50 (ix t))) 53 (8 * (ix f) + u9))) (S' := (up (up S 62 (8 * (ix f) + (ix t)) (S 1 0)) 53 (8 * (ix f) + (ix t)) (S 50 (ix t)))) hC hL hI 3 (ix f) (okI_l (N := 6) c_1 (by decide) (by decide)) rfl (okI_in (N := 8) c_2 (by decide) (by decide)) rfl (st_ff rfl) (cu_53 (ix f) (ix t) ((okI_l (N := 8) c_2 (by decide) (by decide))) _) dX7_fire_67 (fun H locs hI => ?_)
          refine lv_aload hx hb dX7_fire_68 (lv_at hl 1 rfl) ?_
          refine lv_iconst (v := (-1)) hx hb dX7_fire_70 (by decide) ?_
          refine cr_put (ci := 7) (v := .int (-1)) (ty := .int) (S' := (up (up (up S 62 (8 * (ix f) + (ix t)) (S 1 0)) 53 (8 * (ix f) + (ix t)) (S 50 (ix t))) 49 (ix t) (-1))) hC hL hI 4 (ix t) (okI_l (N := 8) c_2 (by decide) (by decide)) rfl rfl hinX6 tyX6 tyX6_ok nmX6 2 (by decide) k_230 (fun _ h => h) rfl (by decide +kernel) rfl rfl (Nat.le_of_ble_eq_true rfl) (cn_49 (ix t) _) (cu_49 (ix t) _) dX7_fire_71 (fun H locs hI => ?_)
          refine lv_iload hx hb dX7_fire_74 (lv_at hl 0 rfl) ?_
          refine vx_ret ?_
          refine W.widen (k := 1) (n := 6) (Nat.zero_le _) (Nat.zero_le _) ?_
          exact W.zret (v := (fX7_wouldFireForTelling S f t)) (ty := .boolean) hx hb hr (would_nar _ _ _) (fun t9 ht9 hW9 => ⟨⟨(fX7_wouldFireForTelling S f t), (), rfl, ⟨congrArg (fun z => z.2.1) hG, (congrArg Prod.fst hG).symm⟩, by show CH D cy g _ t9.heap; rw [ht9, hG]; exact hI.1⟩, hI.2.F ht9⟩) hI.2.2.2 dX7_fire_76
    · have hG := hG.trans (if_neg c_2)
      exact ct_v (As := [.int t]) (rest := []) hC hI hJ (tX7_tellerAt l hfl D cy g S e0 hV t c_2) (cwV 1 hts gX7_fire_X7_tellerAt rfl rfl rfl (by decide +kernel) ⟨Nat.le_of_ble_eq_true rfl, Nat.le_of_ble_eq_true rfl⟩) rfl hl.1 rfl (Nat.le_of_ble_eq_true rfl) dX7_fire_8 ⟨Nat.le_of_ble_eq_true rfl, Nat.le_of_ble_eq_true rfl⟩ hno hlocks (xf_of hI (by decide) (congrArg (fun z => z.2.1) hG)) (fun _ h => h) (Nat.le_of_ble_eq_true rfl) (Nat.le_of_ble_eq_true rfl)
  · have hG := hG.trans (if_neg c_1)
    exact ct_v (As := [.int f]) (rest := []) hC hI hJ (tX7_firmAt l hfl D cy g S e0 hV f c_1) (cwV 1 hts gX7_fire_X7_firmAt rfl rfl rfl (by decide +kernel) ⟨Nat.le_of_ble_eq_true rfl, Nat.le_of_ble_eq_true rfl⟩) rfl hl.1 rfl (Nat.le_of_ble_eq_true rfl) dX7_fire_2 ⟨Nat.le_of_ble_eq_true rfl, Nat.le_of_ble_eq_true rfl⟩ hno hlocks (xf_of hI (by decide) (congrArg (fun z => z.2.1) hG)) (fun _ h => h) (Nat.le_of_ble_eq_true rfl) (Nat.le_of_ble_eq_true rfl)
set_option maxHeartbeats 4000000 in
set_option maxRecDepth 100000 in
theorem qX7_award (l : Launch) (hfl : l.stackTraces = false) (A : Nat → Prop) (D : va_G) (cy : Nat → ClassId) (g : CWt) (hL : CL A g) (S : St) (e0 : Nat) (hV : CV e0 g S) (f : Int32) (t : Int32) : vx_Met l yX7_award wsX7_award ({ frames := 8, cells := 1, slots := 6, locals := 124 } : Room) (va_Pc [.ref (ga g 18 0), .int f, .int t] (fun U => CP D cy g S U ∧ JT A U U.heap)) (va_Qi (fun (r : Int32) (_ : Unit) => (fX7_award S f t).2.1 = 0 ∧ r = (fX7_award S f t).1) (fun _ t9 => CH D cy g (fX7_award S f t).2.2 t9.heap) A) (XF A D cy g S (fX7_award S f t).2.1) 1 6 A := by
  refine vx_ofW (cc := cX7_award) (maxL := 7) (ret := (some .int)) (by decide) rfl ?_
  intro p e s m args below meth c s₁ B hml hno hv
  obtain ⟨rfl, ⟨hM, hK⟩, hJ⟩ := hv
  have hx := B.exec
  have hb := B.bytes
  have hr := B.returns
  have hts := atoms_spec (ws := wsX7_award) B.pre
  have hown : s.vm.findClass RX7 = some m.cls := findClass_of_methodNamed B.named
  have hlocks := B.notSynchronized
  have hC : CC p s m _ c cX7_award 7 RX7 D cy wsX7_award := ⟨⟨hx, hb, hml, hown, hts⟩, hK⟩
  have hI : CI A D cy g s S s.heap [] := ⟨hM, va_S.rf⟩
  have hT := hV.2.1
  have hN := hV.2.2.1
  have hQ := hV.2.2.2
  have hb7 := hN.b7
  have hb15 := hN.b15
  have hb23 := hN.b23
  have hb28 := hN.b28
  have hb42 := hN.b42
  have hb64 := hQ.b64
  have k_246 := hts (.fieldLink RX7 246 "RelatorsBench$Firm" "awardFrom" "[I") (List.mem_cons_of_mem _ (List.mem_append_left _ (List.mem_append_left _ (List.mem_append_left _ (List.mem_append_left _ (List.mem_append_left _ (List.mem_append_left _ (List.mem_of_getElem? (i := 0) rfl))))))))
  have hinX2 : ∀ w ∈ wsX20, w ∈ wsX7_award := fun _ h => List.mem_cons_of_mem _ (List.mem_append_left _ (List.mem_append_left _ (List.mem_append_left _ (List.mem_append_left _ (List.mem_append_right _ (h))))))
  have k_51 := hts (.fieldLink RX7 51 "RelatorsBench" "today" "I") (List.mem_cons_of_mem _ (List.mem_append_left _ (List.mem_append_left _ (List.mem_append_left _ (List.mem_append_left _ (List.mem_append_left _ (List.mem_append_left _ (List.mem_of_getElem? (i := 1) rfl))))))))
  have hinX7 : ∀ w ∈ wsX70, w ∈ wsX7_award := fun _ h => List.mem_cons_of_mem _ (List.mem_append_left _ (List.mem_append_left _ (List.mem_append_left _ (List.mem_append_right _ (h)))))
  have km := hts (.methodLink RX7 201 Lib.Math.min.name) (List.mem_cons_of_mem _ (List.mem_append_left _ (List.mem_append_left _ (List.mem_append_left _ (List.mem_append_left _ (List.mem_append_left _ (List.mem_append_left _ (List.mem_of_getElem? (i := 2) rfl))))))))
  have kst := hts (.static Lib.Math.min.name) (List.mem_cons_of_mem _ (List.mem_append_left _ (List.mem_append_left _ (List.mem_append_left _ (List.mem_append_left _ (List.mem_append_left _ (List.mem_append_left _ (List.mem_of_getElem? (i := 3) rfl))))))))
  have kin := hts (.initialized "java/lang/Math") (List.mem_cons_of_mem _ (List.mem_append_left _ (List.mem_append_left _ (List.mem_append_left _ (List.mem_append_left _ (List.mem_append_left _ (List.mem_append_left _ (List.mem_of_getElem? (i := 4) rfl))))))))
  have kco := hts (.code Lib.Math.min.name Lib.Math.min.code 2 (some .int)) (List.mem_cons_of_mem _ (List.mem_append_left _ (List.mem_append_left _ (List.mem_append_left _ (List.mem_append_left _ (List.mem_append_left _ (List.mem_append_left _ (List.mem_of_getElem? (i := 5) rfl))))))))
  have k_249 := hts (.fieldLink RX7 249 "RelatorsBench$Firm" "lostWage" "[I") (List.mem_cons_of_mem _ (List.mem_append_left _ (List.mem_append_left _ (List.mem_append_left _ (List.mem_append_left _ (List.mem_append_left _ (List.mem_append_left _ (List.mem_of_getElem? (i := 6) rfl))))))))
  have k_74 := hts (.fieldLink RX7 74 "RelatorsBench$Firm" "money" "I") (List.mem_cons_of_mem _ (List.mem_append_left _ (List.mem_append_left _ (List.mem_append_left _ (List.mem_append_left _ (List.mem_append_left _ (List.mem_append_left _ (List.mem_of_getElem? (i := 7) rfl))))))))
  have k_252 := hts (.fieldLink RX7 252 "RelatorsBench$Firm" "paidByAwards" "I") (List.mem_cons_of_mem _ (List.mem_append_left _ (List.mem_append_left _ (List.mem_append_left _ (List.mem_append_left _ (List.mem_append_left _ (List.mem_append_left _ (List.mem_of_getElem? (i := 8) rfl))))))))
  have k_255 := hts (.fieldLink RX7 255 "RelatorsBench$Teller" "awards" "I") (List.mem_cons_of_mem _ (List.mem_append_left _ (List.mem_append_left _ (List.mem_append_left _ (List.mem_append_left _ (List.mem_append_left _ (List.mem_append_left _ (List.mem_of_getElem? (i := 9) rfl))))))))
  have hinX6 : ∀ w ∈ wsX60, w ∈ wsX7_award := fun _ h => List.mem_cons_of_mem _ (List.mem_append_left _ (List.mem_append_left _ (List.mem_append_right _ (h))))
  have hl := lv_entry ([.ref (ga g 18 0), .int f, .int t]) (n := 7) (Nat.le_of_ble_eq_true rfl)
  rw [lg_entry_eq]
  generalize (lg_sl ([.ref (ga g 18 0), .int f, .int t]) ++ List.replicate (7 - (lg_sl ([.ref (ga g 18 0), .int f, .int t])).length) Slot.unset).toArray = ls at hl ⊢
  have hl : lv_has ls 7 [(0, .ref (ga g 18 0)), (1, .int f), (2, .int t)] := hl
  have hG : fX7_award S f t = fX7_award S f t := rfl
  refine lv_aload_n hx hb dX7_award_0 rfl (lv_at hl 0 rfl) ?_
  refine lv_iload_n hx hb dX7_award_1 rfl (lv_at hl 1 rfl) ?_
  by_cases c_1 : okI f 6
  · have hG := hG.trans (if_pos c_1)
    refine cr_callR (As := [.int f]) (rest := []) hC hI (qX7_firmAt l D cy g S e0 hV f c_1) (cwV 1 hts gX7_award_X7_firmAt rfl rfl rfl (by decide +kernel) ⟨Nat.le_of_ble_eq_true rfl, Nat.le_of_ble_eq_true rfl⟩) (cr_prev (ci := 8) hC hI 18 0 rfl rfl rfl) rfl hl.1 rfl (Nat.le_of_ble_eq_true rfl) dX7_award_2 ⟨Nat.zero_le _, Nat.zero_le _⟩ (fun H locs hI => ?_)
    refine lv_astore_n (lv' := [(3, .ref (ga g 0 (ix f))), (0, .ref (ga g 18 0)), (1, .int f), (2, .int t)]) hx hb dX7_award_5 rfl hl (by decide) rfl (fun ls hl => ?_)
    refine lv_aload_n hx hb dX7_award_6 rfl (lv_at hl 1 rfl) ?_
    refine lv_iload_n hx hb dX7_award_7 rfl (lv_at hl 3 rfl) ?_
    by_cases c_2 : okI t 8
    · have hG := hG.trans (if_pos c_2)
      refine cr_callR (As := [.int t]) (rest := []) hC hI (qX7_tellerAt l D cy g S e0 hV t c_2) (cwV 1 hts gX7_award_X7_tellerAt rfl rfl rfl (by decide +kernel) ⟨Nat.le_of_ble_eq_true rfl, Nat.le_of_ble_eq_true rfl⟩) (cr_prev (ci := 8) hC hI 18 0 rfl rfl rfl) rfl hl.1 rfl (Nat.le_of_ble_eq_true rfl) dX7_award_8 ⟨Nat.zero_le _, Nat.zero_le _⟩ (fun H locs hI => ?_)
      refine lv_astore (lv' := [(4, .ref (ga g 4 (ix t))), (3, .ref (ga g 0 (ix f))), (0, .ref (ga g 18 0)), (1, .int f), (2, .int t)]) hx hb dX7_award_11 hl (by decide) rfl (fun ls hl => ?_)
      refine lv_aload_n hx hb dX7_award_13 rfl (lv_at hl 1 rfl) ?_
      refine cr_get (ci := 3) hC hI 0 (ix f) (okI_l (N := 6) c_1 (by decide) (by decide)) rfl rfl hinX2 5 (by decide) k_246 (fun _ h => h) (v := .ref (ga g 2 (ix f))) rfl dX7_award_14 ?_
      refine lv_iload_n hx hb dX7_award_17 rfl (lv_at hl 4 rfl) ?_
      refine cr_iald (N := 8) (f := (fun u9 => S 62 (8 * (ix f) + u9))) hC hI 2 (ix f) (okI_l (N := 6) c_1 (by decide) (by decide)) rfl (okI_in (N := 8) c_2 (by decide) (by decide)) (v := (S 62 (8 * (ix f) + (ix t)))) rfl dX7_award_18 ?_
      refine lv_iconst (v := (-1)) hx hb dX7_award_19 (by decide) ?_
      refine lv_icmp_eq (tgt := 27) hx hb dX7_award_20 (by decide) (fun c_3 => ?_) (fun c_3 => ?_)
      · have hG := hG.trans (if_pos c_3)
        refine lv_iconst (v := 0) hx hb dX7_award_27 (by decide) ?_
        exact ct_s (As := [.int 0]) (rest := []) hC.1 hI.2 hJ (tX7_checkState l hfl 0 (by decide)) (va_cwS 1 hts gX7_award_X7_checkState rfl rfl rfl (by decide +kernel) ⟨Nat.le_of_ble_eq_true rfl, Nat.le_of_ble_eq_true rfl⟩) rfl hl.1 rfl (Nat.le_of_ble_eq_true rfl) dX7_award_28 ⟨Nat.le_of_ble_eq_true rfl, Nat.le_of_ble_eq_true rfl⟩ hno hlocks (xf_of hI (by decide) (congrArg (fun z => z.2.1) hG)) (fun _ h => h) (Nat.le_of_ble_eq_true rfl) (Nat.le_of_ble_eq_true rfl)
      · have hG := hG.trans (if_neg c_3)
        refine lv_iconst (v := 1) hx hb dX7_award_23 (by decide) ?_
        refine lv_goto (tgt := 28) hx hb dX7_award_24 (by decide) ?_
        refine cr_pass (As := [.int 1]) (rest := []) hC hI (qX7_checkState l 1 (by decide)) (va_cwS 1 hts gX7_award_X7_checkState rfl rfl rfl (by decide +kernel) ⟨Nat.le_of_ble_eq_true rfl, Nat.le_of_ble_eq_true rfl⟩) rfl hl.1 rfl (Nat.le_of_ble_eq_true rfl) dX7_award_28 ⟨Nat.zero_le _, Nat.zero_le _⟩ (fun H locs hI => ?_)
        refine lv_aload_n hx hb dX7_award_31 rfl (lv_at hl 2 rfl) ?_
        refine cr_get (ci := 8) hC hI 18 0 rfl rfl rfl hinX7 10 (by decide) k_51 (fun _ h => h) (v := .int (S 1 0)) rfl dX7_award_32 ?_
        refine lv_aload_n hx hb dX7_award_35 rfl (lv_at hl 1 rfl) ?_
        refine cr_get (ci := 3) hC hI 0 (ix f) (okI_l (N := 6) c_1 (by decide) (by decide)) rfl rfl hinX2 5 (by decide) k_246 (fun _ h => h) (v := .ref (ga g 2 (ix f))) rfl dX7_award_36 ?_
        refine lv_iload_n hx hb dX7_award_39 rfl (lv_at hl 4 rfl) ?_
        refine cr_iald (N := 8) (f := (fun u9 => S 62 (8 * (ix f) + u9))) hC hI 2 (ix f) (okI_l (N := 6) c_1 (by decide) (by decide)) rfl (okI_in (N := 8) c_2 (by decide) (by decide)) (v := (S 62 (8 * (ix f) + (ix t)))) rfl dX7_award_40 ?_
        refine lv_isub hx hb dX7_award_41 ?_
        refine lv_sipush (v := 400) hx hb dX7_award_42 (by decide) ?_
        refine va_mmin hx hb (hml.trans hl.1.symm) hown km kst kin kco (Nat.le_of_ble_eq_true rfl) (Nat.le_of_ble_eq_true rfl) (Nat.le_of_ble_eq_true rfl) (Nat.le_of_ble_eq_true rfl) dX7_award_45 ?_
        refine lv_istore (lv' := [(5, .int (if 400 < ((S 1 0) - (S 62 (8 * (ix f) + (ix t)))) then 400 else ((S 1 0) - (S 62 (8 * (ix f) + (ix t)))))), (4, .ref (ga g 4 (ix t))), (3, .ref (ga g 0 (ix f))), (0, .ref (ga g 18 0)), (1, .int f), (2, .int t)]) hx hb dX7_award_48 hl (by decide) rfl (fun ls hl => ?_)
        refine lv_iconst (v := 2) hx hb dX7_award_50 (by decide) ?_
        refine lv_iload hx hb dX7_award_51 (lv_at hl 0 rfl) ?_
        refine lv_imul hx hb dX7_award_53 ?_
        refine lv_aload_n hx hb dX7_award_54 rfl (lv_at hl 2 rfl) ?_
        refine cr_get (ci := 3) hC hI 0 (ix f) (okI_l (N := 6) c_1 (by decide) (by decide)) rfl rfl hinX2 6 (by decide) k_249 (fun _ h => h) (v := .ref (ga g 3 (ix f))) rfl dX7_award_55 ?_
        refine lv_iload_n hx hb dX7_award_58 rfl (lv_at hl 5 rfl) ?_
        refine cr_iald (N := 8) (f := (fun u9 => S 53 (8 * (ix f) + u9))) hC hI 3 (ix f) (okI_l (N := 6) c_1 (by decide) (by decide)) rfl (okI_in (N := 8) c_2 (by decide) (by decide)) (v := (S 53 (8 * (ix f) + (ix t)))) rfl dX7_award_59 ?_
        refine lv_imul hx hb dX7_award_60 ?_
        refine lv_aload_n hx hb dX7_award_61 rfl (lv_at hl 2 rfl) ?_
        refine cr_get (ci := 3) hC hI 0 (ix f) (okI_l (N := 6) c_1 (by decide) (by decide)) rfl rfl hinX2 0 (by decide) k_74 (fun _ h => h) (v := .int (S 2 (ix f))) rfl dX7_award_62 ?_
        refine va_mmin hx hb (hml.trans hl.1.symm) hown km kst kin kco (Nat.le_of_ble_eq_true rfl) (Nat.le_of_ble_eq_true rfl) (Nat.le_of_ble_eq_true rfl) (Nat.le_of_ble_eq_true rfl) dX7_award_65 ?_
        refine lv_istore (lv' := [(6, .int (if (S 2 (ix f)) < ((2 * (if 400 < ((S 1 0) - (S 62 (8 * (ix f) + (ix t)))) then 400 else ((S 1 0) - (S 62 (8 * (ix f) + (ix t)))))) * (S 53 (8 * (ix f) + (ix t)))) then S 2 (ix f) else ((2 * (if 400 < ((S 1 0) - (S 62 (8 * (ix f) + (ix t)))) then 400 else ((S 1 0) - (S 62 (8 * (ix f) + (ix t)))))) * (S 53 (8 * (ix f) + (ix t)))))), (5, .int (if 400 < ((S 1 0) - (S 62 (8 * (ix f) + (ix t)))) then 400 else ((S 1 0) - (S 62 (8 * (ix f) + (ix t)))))), (4, .ref (ga g 4 (ix t))), (3, .ref (ga g 0 (ix f))), (0, .ref (ga g 18 0)), (1, .int f), (2, .int t)]) hx hb dX7_award_68 hl (by decide) rfl (fun ls hl => ?_)
        refine lv_aload_n hx hb dX7_award_70 rfl (lv_at hl 3 rfl) ?_
        refine cr_get (ci := 3) hC hI 0 (ix f) (okI_l (N := 6) c_1 (by decide) (by decide)) rfl rfl hinX2 5 (by decide) k_246 (fun _ h => h) (v := .ref (ga g 2 (ix f))) rfl dX7_award_71 ?_
        refine lv_iload_n hx hb dX7_award_74 rfl (lv_at hl 6 rfl) ?_
        refine lv_iconst (v := (-1)) hx hb dX7_award_75 (by decide) ?_
        refine cr_iast (N := 8) (f := (fun u9 => S 62 (8 * (ix f) + u9))) (f' := (fun u9 => (up S 62 (8 * (ix f) + (ix t)) (-1)) 62 (8 * (ix f) + u9))) (S' := (up S 62 (8 * (ix f) + (ix t)) (-1))) hC hL hI 2 (ix f) (okI_l (N := 6) c_1 (by decide) (by decide)) rfl (okI_in (N := 8) c_2 (by decide) (by decide)) rfl (st_ff rfl) (cu_62 (ix f) (ix t) ((okI_l (N := 8) c_2 (by decide) (by decide))) _) dX7_award_76 (fun H locs hI => ?_)
        refine lv_aload_n hx hb dX7_award_77 rfl (lv_at hl 3 rfl) ?_
        refine lv_dup hx hb dX7_award_78 rfl ?_
        refine cr_get (ci := 3) hC hI 0 (ix f) (okI_l (N := 6) c_1 (by decide) (by decide)) rfl rfl hinX2 0 (by decide) k_74 (fun _ h => h) (v := .int (S 2 (ix f))) (congrArg (fun z => some (Value.int z)) (congrFun (up_ne (by decide)) _)) dX7_award_79 ?_
        refine lv_iload hx hb dX7_award_82 (lv_at hl 0 rfl) ?_
        refine lv_isub hx hb dX7_award_84 ?_
        refine cr_put (ci := 3) (v := .int ((S 2 (ix f)) - (if (S 2 (ix f)) < ((2 * (if 400 < ((S 1 0) - (S 62 (8 * (ix f) + (ix t)))) then 400 else ((S 1 0) - (S 62 (8 * (ix f) + (ix t)))))) * (S 53 (8 * (ix f) + (ix t)))) then S 2 (ix f) else ((2 * (if 400 < ((S 1 0) - (S 62 (8 * (ix f) + (ix t)))) then 400 else ((S 1 0) - (S 62 (8 * (ix f) + (ix t)))))) * (S 53 (8 * (ix f) + (ix t))))))) (ty := .int) (S' := (up (up S 62 (8 * (ix f) + (ix t)) (-1)) 2 (ix f) ((S 2 (ix f)) - (if (S 2 (ix f)) < ((2 * (if 400 < ((S 1 0) - (S 62 (8 * (ix f) + (ix t)))) then 400 else ((S 1 0) - (S 62 (8 * (ix f) + (ix t)))))) * (S 53 (8 * (ix f) + (ix t)))) then S 2 (ix f) else ((2 * (if 400 < ((S 1 0) - (S 62 (8 * (ix f) + (ix t)))) then 400 else ((S 1 0) - (S 62 (8 * (ix f) + (ix t)))))) * (S 53 (8 * (ix f) + (ix t)))))))) hC hL hI 0 (ix f) (okI_l (N := 6) c_1 (by decide) (by decide)) rfl rfl hinX2 tyX2 tyX2_ok nmX2 0 (by decide) k_74 (fun _ h => h) rfl (by decide +kernel) rfl rfl (Nat.le_of_ble_eq_true rfl) (cn_2 (ix f) _) (cu_2 (ix f) _) dX7_award_85 (fun H locs hI => ?_)
        refine lv_aload_n hx hb dX7_award_88 rfl (lv_at hl 3 rfl) ?_
        refine lv_dup hx hb dX7_award_89 rfl ?_
        refine cr_get (ci := 3) hC hI 0 (ix f) (okI_l (N := 6) c_1 (by decide) (by decide)) rfl rfl hinX2 3 (by decide) k_252 (fun _ h => h) (v := .int (S 5 (ix f))) (congrArg (fun z => some (Value.int z)) ((congrFun (up_ne (by decide)) _).trans (congrFun (up_ne (by decide)) _))) dX7_award_90 ?_
        refine lv_iload hx hb dX7_award_93 (lv_at hl 0 rfl) ?_
        refine lv_iadd hx hb dX7_award_95 ?_
        refine cr_put (ci := 3) (v := .int ((S 5 (ix f)) + (if (S 2 (ix f)) < ((2 * (if 400 < ((S 1 0) - (S 62 (8 * (ix f) + (ix t)))) then 400 else ((S 1 0) - (S 62 (8 * (ix f) + (ix t)))))) * (S 53 (8 * (ix f) + (ix t)))) then S 2 (ix f) else ((2 * (if 400 < ((S 1 0) - (S 62 (8 * (ix f) + (ix t)))) then 400 else ((S 1 0) - (S 62 (8 * (ix f) + (ix t)))))) * (S 53 (8 * (ix f) + (ix t))))))) (ty := .int) (S' := (up (up (up S 62 (8 * (ix f) + (ix t)) (-1)) 2 (ix f) ((S 2 (ix f)) - (if (S 2 (ix f)) < ((2 * (if 400 < ((S 1 0) - (S 62 (8 * (ix f) + (ix t)))) then 400 else ((S 1 0) - (S 62 (8 * (ix f) + (ix t)))))) * (S 53 (8 * (ix f) + (ix t)))) then S 2 (ix f) else ((2 * (if 400 < ((S 1 0) - (S 62 (8 * (ix f) + (ix t)))) then 400 else ((S 1 0) - (S 62 (8 * (ix f) + (ix t)))))) * (S 53 (8 * (ix f) + (ix t))))))) 5 (ix f) ((S 5 (ix f)) + (if (S 2 (ix f)) < ((2 * (if 400 < ((S 1 0) - (S 62 (8 * (ix f) + (ix t)))) then 400 else ((S 1 0) - (S 62 (8 * (ix f) + (ix t)))))) * (S 53 (8 * (ix f) + (ix t)))) then S 2 (ix f) else ((2 * (if 400 < ((S 1 0) - (S 62 (8 * (ix f) + (ix t)))) then 400 else ((S 1 0) - (S 62 (8 * (ix f) + (ix t)))))) * (S 53 (8 * (ix f) + (ix t)))))))) hC hL hI 0 (ix f) (okI_l (N := 6) c_1 (by decide) (by decide)) rfl rfl hinX2 tyX2 tyX2_ok nmX2 3 (by decide) k_252 (fun _ h => h) rfl (by decide +kernel) rfl rfl (Nat.le_of_ble_eq_true rfl) (cn_5 (ix f) _) (cu_5 (ix f) _) dX7_award_96 (fun H locs hI => ?_)
        refine lv_aload hx hb dX7_award_99 (lv_at hl 2 rfl) ?_
        refine lv_dup hx hb dX7_award_101 rfl ?_
        refine cr_get (ci := 7) hC hI 4 (ix t) (okI_l (N := 8) c_2 (by decide) (by decide)) rfl rfl hinX6 6 (by decide) k_255 (fun _ h => h) (v := .int (S 48 (ix t))) (congrArg (fun z => some (Value.int z)) ((congrFun (up_ne (by decide)) _).trans ((congrFun (up_ne (by decide)) _).trans (congrFun (up_ne (by decide)) _)))) dX7_award_102 ?_
        refine lv_iload hx hb dX7_award_105 (lv_at hl 0 rfl) ?_
        refine lv_iadd hx hb dX7_award_107 ?_
        refine cr_put (ci := 7) (v := .int ((S 48 (ix t)) + (if (S 2 (ix f)) < ((2 * (if 400 < ((S 1 0) - (S 62 (8 * (ix f) + (ix t)))) then 400 else ((S 1 0) - (S 62 (8 * (ix f) + (ix t)))))) * (S 53 (8 * (ix f) + (ix t)))) then S 2 (ix f) else ((2 * (if 400 < ((S 1 0) - (S 62 (8 * (ix f) + (ix t)))) then 400 else ((S 1 0) - (S 62 (8 * (ix f) + (ix t)))))) * (S 53 (8 * (ix f) + (ix t))))))) (ty := .int) (S' := (up (up (up (up S 62 (8 * (ix f) + (ix t)) (-1)) 2 (ix f) ((S 2 (ix f)) - (if (S 2 (ix f)) < ((2 * (if 400 < ((S 1 0) - (S 62 (8 * (ix f) + (ix t)))) then 400 else ((S 1 0) - (S 62 (8 * (ix f) + (ix t)))))) * (S 53 (8 * (ix f) + (ix t)))) then S 2 (ix f) else ((2 * (if 400 < ((S 1 0) - (S 62 (8 * (ix f) + (ix t)))) then 400 else ((S 1 0) - (S 62 (8 * (ix f) + (ix t)))))) * (S 53 (8 * (ix f) + (ix t))))))) 5 (ix f) ((S 5 (ix f)) + (if (S 2 (ix f)) < ((2 * (if 400 < ((S 1 0) - (S 62 (8 * (ix f) + (ix t)))) then 400 else ((S 1 0) - (S 62 (8 * (ix f) + (ix t)))))) * (S 53 (8 * (ix f) + (ix t)))) then S 2 (ix f) else ((2 * (if 400 < ((S 1 0) - (S 62 (8 * (ix f) + (ix t)))) then 400 else ((S 1 0) - (S 62 (8 * (ix f) + (ix t)))))) * (S 53 (8 * (ix f) + (ix t))))))) 48 (ix t) ((S 48 (ix t)) + (if (S 2 (ix f)) < ((2 * (if 400 < ((S 1 0) - (S 62 (8 * (ix f) + (ix t)))) then 400 else ((S 1 0) - (S 62 (8 * (ix f) + (ix t)))))) * (S 53 (8 * (ix f) + (ix t)))) then S 2 (ix f) else ((2 * (if 400 < ((S 1 0) - (S 62 (8 * (ix f) + (ix t)))) then 400 else ((S 1 0) - (S 62 (8 * (ix f) + (ix t)))))) * (S 53 (8 * (ix f) + (ix t)))))))) hC hL hI 4 (ix t) (okI_l (N := 8) c_2 (by decide) (by decide)) rfl rfl hinX6 tyX6 tyX6_ok nmX6 6 (by decide) k_255 (fun _ h => h) rfl (by decide +kernel) rfl rfl (Nat.le_of_ble_eq_true rfl) (cn_48 (ix t) _) (cu_48 (ix t) _) dX7_award_108 (fun H locs hI => ?_)
        refine lv_iload hx hb dX7_award_111 (lv_at hl 0 rfl) ?_
        refine vx_ret ?_
        refine W.widen (k := 1) (n := 6) (Nat.zero_le _) (Nat.zero_le _) ?_
        exact W.iret (v := (if (S 2 (ix f)) < ((2 * (if 400 < ((S 1 0) - (S 62 (8 * (ix f) + (ix t)))) then 400 else ((S 1 0) - (S 62 (8 * (ix f) + (ix t)))))) * (S 53 (8 * (ix f) + (ix t)))) then S 2 (ix f) else ((2 * (if 400 < ((S 1 0) - (S 62 (8 * (ix f) + (ix t)))) then 400 else ((S 1 0) - (S 62 (8 * (ix f) + (ix t)))))) * (S 53 (8 * (ix f) + (ix t)))))) hx hb hr (fun t9 ht9 hW9 => ⟨⟨(if (S 2 (ix f)) < ((2 * (if 400 < ((S 1 0) - (S 62 (8 * (ix f) + (ix t)))) then 400 else ((S 1 0) - (S 62 (8 * (ix f) + (ix t)))))) * (S 53 (8 * (ix f) + (ix t)))) then S 2 (ix f) else ((2 * (if 400 < ((S 1 0) - (S 62 (8 * (ix f) + (ix t)))) then 400 else ((S 1 0) - (S 62 (8 * (ix f) + (ix t)))))) * (S 53 (8 * (ix f) + (ix t))))), (), rfl, ⟨congrArg (fun z => z.2.1) hG, (congrArg Prod.fst hG).symm⟩, by show CH D cy g _ t9.heap; rw [ht9, hG]; exact hI.1⟩, hI.2.F ht9⟩) hI.2.2.2 dX7_award_113
    · have hG := hG.trans (if_neg c_2)
      exact ct_v (As := [.int t]) (rest := []) hC hI hJ (tX7_tellerAt l hfl D cy g S e0 hV t c_2) (cwV 1 hts gX7_award_X7_tellerAt rfl rfl rfl (by decide +kernel) ⟨Nat.le_of_ble_eq_true rfl, Nat.le_of_ble_eq_true rfl⟩) rfl hl.1 rfl (Nat.le_of_ble_eq_true rfl) dX7_award_8 ⟨Nat.le_of_ble_eq_true rfl, Nat.le_of_ble_eq_true rfl⟩ hno hlocks (xf_of hI (by decide) (congrArg (fun z => z.2.1) hG)) (fun _ h => h) (Nat.le_of_ble_eq_true rfl) (Nat.le_of_ble_eq_true rfl)
  · have hG := hG.trans (if_neg c_1)
    exact ct_v (As := [.int f]) (rest := []) hC hI hJ (tX7_firmAt l hfl D cy g S e0 hV f c_1) (cwV 1 hts gX7_award_X7_firmAt rfl rfl rfl (by decide +kernel) ⟨Nat.le_of_ble_eq_true rfl, Nat.le_of_ble_eq_true rfl⟩) rfl hl.1 rfl (Nat.le_of_ble_eq_true rfl) dX7_award_2 ⟨Nat.le_of_ble_eq_true rfl, Nat.le_of_ble_eq_true rfl⟩ hno hlocks (xf_of hI (by decide) (congrArg (fun z => z.2.1) hG)) (fun _ h => h) (Nat.le_of_ble_eq_true rfl) (Nat.le_of_ble_eq_true rfl)
set_option maxHeartbeats 4000000 in
set_option maxRecDepth 100000 in
theorem qX7_pass (l : Launch) (hfl : l.stackTraces = false) (A : Nat → Prop) (D : va_G) (cy : Nat → ClassId) (g : CWt) (hL : CL A g) (S : St) (e0 : Nat) (hV : CV e0 g S) (days : Int32) : vx_Met l yX7_pass wsX7_pass ({ frames := 8, cells := 1, slots := 6, locals := 124 } : Room) (va_Pc [.ref (ga g 18 0), .int days] (fun U => CP D cy g S U ∧ JT A U U.heap)) (va_Qi (fun (r : Int32) (_ : Unit) => (fX7_pass S days).2.1 = 0 ∧ r = (fX7_pass S days).1) (fun _ t9 => CH D cy g (fX7_pass S days).2.2 t9.heap) A) (XF A D cy g S (fX7_pass S days).2.1) 1 6 A := by
  refine vx_ofW (cc := cX7_pass) (maxL := 2) (ret := (some .int)) (by decide) rfl ?_
  intro p e s m args below meth c s₁ B hml hno hv
  obtain ⟨rfl, ⟨hM, hK⟩, hJ⟩ := hv
  have hx := B.exec
  have hb := B.bytes
  have hr := B.returns
  have hts := atoms_spec (ws := wsX7_pass) B.pre
  have hown : s.vm.findClass RX7 = some m.cls := findClass_of_methodNamed B.named
  have hlocks := B.notSynchronized
  have hC : CC p s m _ c cX7_pass 2 RX7 D cy wsX7_pass := ⟨⟨hx, hb, hml, hown, hts⟩, hK⟩
  have hI : CI A D cy g s S s.heap [] := ⟨hM, va_S.rf⟩
  have hT := hV.2.1
  have hN := hV.2.2.1
  have hQ := hV.2.2.2
  have hb7 := hN.b7
  have hb15 := hN.b15
  have hb23 := hN.b23
  have hb28 := hN.b28
  have hb42 := hN.b42
  have hb64 := hQ.b64
  have k_51 := hts (.fieldLink RX7 51 "RelatorsBench" "today" "I") (List.mem_cons_of_mem _ (List.mem_append_left _ (List.mem_append_left _ (List.mem_append_left _ (List.mem_of_getElem? (i := 0) rfl)))))
  have hinX7 : ∀ w ∈ wsX70, w ∈ wsX7_pass := fun _ h => List.mem_cons_of_mem _ (List.mem_append_left _ (List.mem_append_left _ (List.mem_append_right _ (h))))
  have hl := lv_entry ([.ref (ga g 18 0), .int days]) (n := 2) (Nat.le_of_ble_eq_true rfl)
  rw [lg_entry_eq]
  generalize (lg_sl ([.ref (ga g 18 0), .int days]) ++ List.replicate (2 - (lg_sl ([.ref (ga g 18 0), .int days])).length) Slot.unset).toArray = ls at hl ⊢
  have hl : lv_has ls 2 [(0, .ref (ga g 18 0)), (1, .int days)] := hl
  have hG : fX7_pass S days = fX7_pass S days := rfl
  refine lv_iload_n hx hb dX7_pass_0 rfl (lv_at hl 1 rfl) ?_
  refine lv_iconst (v := 1) hx hb dX7_pass_1 (by decide) ?_
  refine lv_sipush (v := 300) hx hb dX7_pass_2 (by decide) ?_
  by_cases c_1 : okR days 1 300
  · have hG := hG.trans (if_pos c_1)
    refine cr_pass (As := [.int days, .int 1, .int 300]) (rest := []) hC hI (qX7_checkRange l days 1 300 c_1) (va_cwS 3 hts gX7_pass_X7_checkRange rfl rfl rfl (by decide +kernel) ⟨Nat.le_of_ble_eq_true rfl, Nat.le_of_ble_eq_true rfl⟩) rfl hl.1 rfl (Nat.le_of_ble_eq_true rfl) dX7_pass_5 ⟨Nat.zero_le _, Nat.zero_le _⟩ (fun H locs hI => ?_)
    refine lv_aload_n hx hb dX7_pass_8 rfl (lv_at hl 0 rfl) ?_
    refine cr_get (ci := 8) hC hI 18 0 rfl rfl rfl hinX7 10 (by decide) k_51 (fun _ h => h) (v := .int (S 1 0)) rfl dX7_pass_9 ?_
    refine lv_iload_n hx hb dX7_pass_12 rfl (lv_at hl 1 rfl) ?_
    refine lv_iadd hx hb dX7_pass_13 ?_
    refine lv_sipush (v := 3000) hx hb dX7_pass_14 (by decide) ?_
    refine lv_icmp_gt (tgt := 24) hx hb dX7_pass_17 (by decide) (fun c_2 => ?_) (fun c_2 => ?_)
    · have hG := hG.trans (if_pos c_2)
      refine lv_iconst (v := 0) hx hb dX7_pass_24 (by decide) ?_
      exact ct_s (As := [.int 0]) (rest := []) hC.1 hI.2 hJ (tX7_checkState l hfl 0 (by decide)) (va_cwS 1 hts gX7_pass_X7_checkState rfl rfl rfl (by decide +kernel) ⟨Nat.le_of_ble_eq_true rfl, Nat.le_of_ble_eq_true rfl⟩) rfl hl.1 rfl (Nat.le_of_ble_eq_true rfl) dX7_pass_25 ⟨Nat.le_of_ble_eq_true rfl, Nat.le_of_ble_eq_true rfl⟩ hno hlocks (xf_of hI (by decide) (congrArg (fun z => z.2.1) hG)) (fun _ h => h) (Nat.le_of_ble_eq_true rfl) (Nat.le_of_ble_eq_true rfl)
    · have hG := hG.trans (if_neg c_2)
      refine lv_iconst (v := 1) hx hb dX7_pass_20 (by decide) ?_
      refine lv_goto (tgt := 25) hx hb dX7_pass_21 (by decide) ?_
      refine cr_pass (As := [.int 1]) (rest := []) hC hI (qX7_checkState l 1 (by decide)) (va_cwS 1 hts gX7_pass_X7_checkState rfl rfl rfl (by decide +kernel) ⟨Nat.le_of_ble_eq_true rfl, Nat.le_of_ble_eq_true rfl⟩) rfl hl.1 rfl (Nat.le_of_ble_eq_true rfl) dX7_pass_25 ⟨Nat.zero_le _, Nat.zero_le _⟩ (fun H locs hI => ?_)
      refine lv_aload_n hx hb dX7_pass_28 rfl (lv_at hl 0 rfl) ?_
      refine lv_dup hx hb dX7_pass_29 rfl ?_
      refine cr_get (ci := 8) hC hI 18 0 rfl rfl rfl hinX7 10 (by decide) k_51 (fun _ h => h) (v := .int (S 1 0)) rfl dX7_pass_30 ?_
      refine lv_iload_n hx hb dX7_pass_33 rfl (lv_at hl 1 rfl) ?_
      refine lv_iadd hx hb dX7_pass_34 ?_
      refine cr_put (ci := 8) (v := .int ((S 1 0) + days)) (ty := .int) (S' := (up S 1 0 ((S 1 0) + days))) hC hL hI 18 0 rfl rfl rfl hinX7 tyX7 tyX7_ok nmX7 10 (by decide) k_51 (fun _ h => h) rfl (by decide +kernel) rfl rfl (Nat.le_of_ble_eq_true rfl) (cn_1 _) (cu_1 _) dX7_pass_35 (fun H locs hI => ?_)
      refine lv_aload_n hx hb dX7_pass_38 rfl (lv_at hl 0 rfl) ?_
      refine cr_get (ci := 8) hC hI 18 0 rfl rfl rfl hinX7 10 (by decide) k_51 (fun _ h => h) (v := .int ((S 1 0) + days)) (congrArg (fun z => some (Value.int z)) (up_at _ _ _ _)) dX7_pass_39 ?_
      refine vx_ret ?_
      refine W.widen (k := 1) (n := 6) (Nat.zero_le _) (Nat.zero_le _) ?_
      exact W.iret (v := ((S 1 0) + days)) hx hb hr (fun t9 ht9 hW9 => ⟨⟨((S 1 0) + days), (), rfl, ⟨congrArg (fun z => z.2.1) hG, (congrArg Prod.fst hG).symm⟩, by show CH D cy g _ t9.heap; rw [ht9, hG]; exact hI.1⟩, hI.2.F ht9⟩) hI.2.2.2 dX7_pass_42
  · have hG := hG.trans (if_neg c_1)
    exact ct_s (As := [.int days, .int 1, .int 300]) (rest := []) hC.1 hI.2 hJ (tX7_checkRange l hfl days 1 300 c_1) (va_cwS 3 hts gX7_pass_X7_checkRange rfl rfl rfl (by decide +kernel) ⟨Nat.le_of_ble_eq_true rfl, Nat.le_of_ble_eq_true rfl⟩) rfl hl.1 rfl (Nat.le_of_ble_eq_true rfl) dX7_pass_5 ⟨Nat.le_of_ble_eq_true rfl, Nat.le_of_ble_eq_true rfl⟩ hno hlocks (xf_of hI (by decide) (congrArg (fun z => z.2.1) hG)) (fun _ h => h) (Nat.le_of_ble_eq_true rfl) (Nat.le_of_ble_eq_true rfl)
set_option maxHeartbeats 4000000 in
set_option maxRecDepth 100000 in
theorem qX7_covers (l : Launch) (hfl : l.stackTraces = false) (A : Nat → Prop) (D : va_G) (cy : Nat → ClassId) (g : CWt) (hL : CL A g) (S : St) (e0 : Nat) (hV : CV e0 g S) (k : Int32) (s_ : Int32) : vx_Met l yX7_covers wsX7_covers ({ frames := 8, cells := 1, slots := 6, locals := 124 } : Room) (va_Pc [.ref (ga g 18 0), .int k, .int s_] (fun U => CP D cy g S U ∧ JT A U U.heap)) (va_Qi (fun (r : Int32) (_ : Unit) => (fX7_covers S k s_).2.1 = 0 ∧ r = (fX7_covers S k s_).1) (fun _ t9 => CH D cy g (fX7_covers S k s_).2.2 t9.heap) A) (XF A D cy g S (fX7_covers S k s_).2.1) 1 6 A := by
  refine vx_ofW (cc := cX7_covers) (maxL := 3) (ret := (some .int)) (by decide) rfl ?_
  intro p e s m args below meth c s₁ B hml hno hv
  obtain ⟨rfl, ⟨hM, hK⟩, hJ⟩ := hv
  have hx := B.exec
  have hb := B.bytes
  have hr := B.returns
  have hts := atoms_spec (ws := wsX7_covers) B.pre
  have hown : s.vm.findClass RX7 = some m.cls := findClass_of_methodNamed B.named
  have hlocks := B.notSynchronized
  have hC : CC p s m _ c cX7_covers 3 RX7 D cy wsX7_covers := ⟨⟨hx, hb, hml, hown, hts⟩, hK⟩
  have hI : CI A D cy g s S s.heap [] := ⟨hM, va_S.rf⟩
  have hT := hV.2.1
  have hN := hV.2.2.1
  have hQ := hV.2.2.2
  have hb7 := hN.b7
  have hb15 := hN.b15
  have hb23 := hN.b23
  have hb28 := hN.b28
  have hb42 := hN.b42
  have hb64 := hQ.b64
  have hl := lv_entry ([.ref (ga g 18 0), .int k, .int s_]) (n := 3) (Nat.le_of_ble_eq_true rfl)
  rw [lg_entry_eq]
  generalize (lg_sl ([.ref (ga g 18 0), .int k, .int s_]) ++ List.replicate (3 - (lg_sl ([.ref (ga g 18 0), .int k, .int s_])).length) Slot.unset).toArray = ls at hl ⊢
  have hl : lv_has ls 3 [(0, .ref (ga g 18 0)), (1, .int k), (2, .int s_)] := hl
  have hG : fX7_covers S k s_ = fX7_covers S k s_ := rfl
  refine lv_aload_n hx hb dX7_covers_0 rfl (lv_at hl 0 rfl) ?_
  refine lv_iload_n hx hb dX7_covers_1 rfl (lv_at hl 1 rfl) ?_
  by_cases c_1 : okI k (S 28 0)
  · have hG := hG.trans (if_pos c_1)
    refine cr_callR (As := [.int k]) (rest := []) hC hI (qX7_suitAt l D cy g S e0 hV k c_1) (cwV 1 hts gX7_covers_X7_suitAt rfl rfl rfl (by decide +kernel) ⟨Nat.le_of_ble_eq_true rfl, Nat.le_of_ble_eq_true rfl⟩) (cr_prev (ci := 8) hC hI 18 0 rfl rfl rfl) rfl hl.1 rfl (Nat.le_of_ble_eq_true rfl) dX7_covers_2 ⟨Nat.zero_le _, Nat.zero_le _⟩ (fun H locs hI => ?_)
    refine lv_aload_n hx hb dX7_covers_5 rfl (lv_at hl 0 rfl) ?_
    refine lv_iload_n hx hb dX7_covers_6 rfl (lv_at hl 2 rfl) ?_
    by_cases c_2 : okI s_ (S 7 0)
    · have hG := hG.trans (if_pos c_2)
      refine cr_callR (As := [.int s_]) (rest := [.ref (ga g 8 (ix k))]) hC hI (qX7_schemeAt l D cy g S e0 hV s_ c_2) (cwV 1 hts gX7_covers_X7_schemeAt rfl rfl rfl (by decide +kernel) ⟨Nat.le_of_ble_eq_true rfl, Nat.le_of_ble_eq_true rfl⟩) (cr_prev (ci := 8) hC hI 18 0 rfl rfl rfl) rfl hl.1 rfl (Nat.le_of_ble_eq_true rfl) dX7_covers_7 ⟨Nat.zero_le _, Nat.zero_le _⟩ (fun H locs hI => ?_)
      refine cr_call (As := [.ref (ga g 5 (ix s_))]) (rest := []) hC hI (qX5_coverDay l D cy g S e0 hV (ix k) (okI_l c_1 hN.n28 (by have := hN.b28; omega)) (ix s_) (okI_l c_2 hN.n7 (by have := hN.b7; omega))) (cwV 1 hts gX7_covers_X5_coverDay rfl rfl rfl (by decide +kernel) ⟨Nat.le_of_ble_eq_true rfl, Nat.le_of_ble_eq_true rfl⟩) (cr_prev (ci := 6) hC hI 8 (ix k) (hT.v8 (okI_l c_1 hN.n28 (by have := hN.b28; omega))) rfl rfl) rfl hl.1 rfl (Nat.le_of_ble_eq_true rfl) dX7_covers_10 ⟨Nat.zero_le _, Nat.zero_le _⟩ (fun H locs hI => ?_)
      refine vx_ret ?_
      refine W.widen (k := 1) (n := 6) (Nat.zero_le _) (Nat.zero_le _) ?_
      exact W.iret (v := (fX5_coverDay S (ix k) (ix s_))) hx hb hr (fun t9 ht9 hW9 => ⟨⟨(fX5_coverDay S (ix k) (ix s_)), (), rfl, ⟨congrArg (fun z => z.2.1) hG, (congrArg Prod.fst hG).symm⟩, by show CH D cy g _ t9.heap; rw [ht9, hG]; exact hI.1⟩, hI.2.F ht9⟩) hI.2.2.2 dX7_covers_13
    · have hG := hG.trans (if_neg c_2)
      exact ct_v (As := [.int s_]) (rest := [.ref (ga g 8 (ix k))]) hC hI hJ (tX7_schemeAt l hfl D cy g S e0 hV s_ c_2) (cwV 1 hts gX7_covers_X7_schemeAt rfl rfl rfl (by decide +kernel) ⟨Nat.le_of_ble_eq_true rfl, Nat.le_of_ble_eq_true rfl⟩) rfl hl.1 rfl (Nat.le_of_ble_eq_true rfl) dX7_covers_7 ⟨Nat.le_of_ble_eq_true rfl, Nat.le_of_ble_eq_true rfl⟩ hno hlocks (xf_of hI (by decide) (congrArg (fun z => z.2.1) hG)) (fun _ h => h) (Nat.le_of_ble_eq_true rfl) (Nat.le_of_ble_eq_true rfl)
  · have hG := hG.trans (if_neg c_1)
    exact ct_v (As := [.int k]) (rest := []) hC hI hJ (tX7_suitAt l hfl D cy g S e0 hV k c_1) (cwV 1 hts gX7_covers_X7_suitAt rfl rfl rfl (by decide +kernel) ⟨Nat.le_of_ble_eq_true rfl, Nat.le_of_ble_eq_true rfl⟩) rfl hl.1 rfl (Nat.le_of_ble_eq_true rfl) dX7_covers_2 ⟨Nat.le_of_ble_eq_true rfl, Nat.le_of_ble_eq_true rfl⟩ hno hlocks (xf_of hI (by decide) (congrArg (fun z => z.2.1) hG)) (fun _ h => h) (Nat.le_of_ble_eq_true rfl) (Nat.le_of_ble_eq_true rfl)
set_option maxHeartbeats 4000000 in
set_option maxRecDepth 100000 in
theorem qX7_bars (l : Launch) (hfl : l.stackTraces = false) (A : Nat → Prop) (D : va_G) (cy : Nat → ClassId) (g : CWt) (hL : CL A g) (S : St) (e0 : Nat) (hV : CV e0 g S) (k : Int32) (s_ : Int32) : vx_Met l yX7_bars wsX7_bars ({ frames := 8, cells := 1, slots := 6, locals := 137 } : Room) (va_Pc [.ref (ga g 18 0), .int k, .int s_] (fun U => CP D cy g S U ∧ JT A U U.heap)) (va_Qi (fun (r : Int32) (_ : Unit) => (fX7_bars S k s_).2.1 = 0 ∧ r = (fX7_bars S k s_).1) (fun _ t9 => CH D cy g (fX7_bars S k s_).2.2 t9.heap) A) (XF A D cy g S (fX7_bars S k s_).2.1) 1 6 A := by
  refine vx_ofW (cc := cX7_bars) (maxL := 3) (ret := (some .int)) (by decide) rfl ?_
  intro p e s m args below meth c s₁ B hml hno hv
  obtain ⟨rfl, ⟨hM, hK⟩, hJ⟩ := hv
  have hx := B.exec
  have hb := B.bytes
  have hr := B.returns
  have hts := atoms_spec (ws := wsX7_bars) B.pre
  have hown : s.vm.findClass RX7 = some m.cls := findClass_of_methodNamed B.named
  have hlocks := B.notSynchronized
  have hC : CC p s m _ c cX7_bars 3 RX7 D cy wsX7_bars := ⟨⟨hx, hb, hml, hown, hts⟩, hK⟩
  have hI : CI A D cy g s S s.heap [] := ⟨hM, va_S.rf⟩
  have hT := hV.2.1
  have hN := hV.2.2.1
  have hQ := hV.2.2.2
  have hb7 := hN.b7
  have hb15 := hN.b15
  have hb23 := hN.b23
  have hb28 := hN.b28
  have hb42 := hN.b42
  have hb64 := hQ.b64
  have hl := lv_entry ([.ref (ga g 18 0), .int k, .int s_]) (n := 3) (Nat.le_of_ble_eq_true rfl)
  rw [lg_entry_eq]
  generalize (lg_sl ([.ref (ga g 18 0), .int k, .int s_]) ++ List.replicate (3 - (lg_sl ([.ref (ga g 18 0), .int k, .int s_])).length) Slot.unset).toArray = ls at hl ⊢
  have hl : lv_has ls 3 [(0, .ref (ga g 18 0)), (1, .int k), (2, .int s_)] := hl
  have hG : fX7_bars S k s_ = fX7_bars S k s_ := rfl
  refine lv_aload_n hx hb dX7_bars_0 rfl (lv_at hl 0 rfl) ?_
  refine lv_aload_n hx hb dX7_bars_1 rfl (lv_at hl 0 rfl) ?_
  refine lv_iload_n hx hb dX7_bars_2 rfl (lv_at hl 1 rfl) ?_
  by_cases c_1 : okI k (S 28 0)
  · have hG := hG.trans (if_pos c_1)
    refine cr_callR (As := [.int k]) (rest := [.ref (ga g 18 0)]) hC hI (qX7_suitAt l D cy g S e0 hV k c_1) (cwV 1 hts gX7_bars_X7_suitAt rfl rfl rfl (by decide +kernel) ⟨Nat.le_of_ble_eq_true rfl, Nat.le_of_ble_eq_true rfl⟩) (cr_prev (ci := 8) hC hI 18 0 rfl rfl rfl) rfl hl.1 rfl (Nat.le_of_ble_eq_true rfl) dX7_bars_3 ⟨Nat.zero_le _, Nat.zero_le _⟩ (fun H locs hI => ?_)
    refine lv_aload_n hx hb dX7_bars_6 rfl (lv_at hl 0 rfl) ?_
    refine lv_iload_n hx hb dX7_bars_7 rfl (lv_at hl 2 rfl) ?_
    by_cases c_2 : okI s_ (S 7 0)
    · have hG := hG.trans (if_pos c_2)
      refine cr_callR (As := [.int s_]) (rest := [.ref (ga g 8 (ix k)), .ref (ga g 18 0)]) hC hI (qX7_schemeAt l D cy g S e0 hV s_ c_2) (cwV 1 hts gX7_bars_X7_schemeAt rfl rfl rfl (by decide +kernel) ⟨Nat.le_of_ble_eq_true rfl, Nat.le_of_ble_eq_true rfl⟩) (cr_prev (ci := 8) hC hI 18 0 rfl rfl rfl) rfl hl.1 rfl (Nat.le_of_ble_eq_true rfl) dX7_bars_8 ⟨Nat.zero_le _, Nat.zero_le _⟩ (fun H locs hI => ?_)
      refine cr_call (As := [.ref (ga g 8 (ix k)), .ref (ga g 5 (ix s_))]) (rest := []) hC hI (qX7_barOf l D cy g S e0 hV (ix k) (okI_l c_1 hN.n28 (by have := hN.b28; omega)) (ix s_) (okI_l c_2 hN.n7 (by have := hN.b7; omega))) (cwV 2 hts gX7_bars_X7_barOf rfl rfl rfl (by decide +kernel) ⟨Nat.le_of_ble_eq_true rfl, Nat.le_of_ble_eq_true rfl⟩) (cr_prev (ci := 8) hC hI 18 0 rfl rfl rfl) rfl hl.1 rfl (Nat.le_of_ble_eq_true rfl) dX7_bars_11 ⟨Nat.zero_le _, Nat.zero_le _⟩ (fun H locs hI => ?_)
      refine vx_ret ?_
      refine W.widen (k := 1) (n := 6) (Nat.zero_le _) (Nat.zero_le _) ?_
      exact W.iret (v := (fX7_barOf S (ix k) (ix s_))) hx hb hr (fun t9 ht9 hW9 => ⟨⟨(fX7_barOf S (ix k) (ix s_)), (), rfl, ⟨congrArg (fun z => z.2.1) hG, (congrArg Prod.fst hG).symm⟩, by show CH D cy g _ t9.heap; rw [ht9, hG]; exact hI.1⟩, hI.2.F ht9⟩) hI.2.2.2 dX7_bars_14
    · have hG := hG.trans (if_neg c_2)
      exact ct_v (As := [.int s_]) (rest := [.ref (ga g 8 (ix k)), .ref (ga g 18 0)]) hC hI hJ (tX7_schemeAt l hfl D cy g S e0 hV s_ c_2) (cwV 1 hts gX7_bars_X7_schemeAt rfl rfl rfl (by decide +kernel) ⟨Nat.le_of_ble_eq_true rfl, Nat.le_of_ble_eq_true rfl⟩) rfl hl.1 rfl (Nat.le_of_ble_eq_true rfl) dX7_bars_8 ⟨Nat.le_of_ble_eq_true rfl, Nat.le_of_ble_eq_true rfl⟩ hno hlocks (xf_of hI (by decide) (congrArg (fun z => z.2.1) hG)) (fun _ h => h) (Nat.le_of_ble_eq_true rfl) (Nat.le_of_ble_eq_true rfl)
  · have hG := hG.trans (if_neg c_1)
    exact ct_v (As := [.int k]) (rest := [.ref (ga g 18 0)]) hC hI hJ (tX7_suitAt l hfl D cy g S e0 hV k c_1) (cwV 1 hts gX7_bars_X7_suitAt rfl rfl rfl (by decide +kernel) ⟨Nat.le_of_ble_eq_true rfl, Nat.le_of_ble_eq_true rfl⟩) rfl hl.1 rfl (Nat.le_of_ble_eq_true rfl) dX7_bars_3 ⟨Nat.le_of_ble_eq_true rfl, Nat.le_of_ble_eq_true rfl⟩ hno hlocks (xf_of hI (by decide) (congrArg (fun z => z.2.1) hG)) (fun _ h => h) (Nat.le_of_ble_eq_true rfl) (Nat.le_of_ble_eq_true rfl)
set_option maxHeartbeats 4000000 in
set_option maxRecDepth 100000 in
theorem qX7_first (l : Launch) (hfl : l.stackTraces = false) (A : Nat → Prop) (D : va_G) (cy : Nat → ClassId) (g : CWt) (hL : CL A g) (S : St) (e0 : Nat) (hV : CV e0 g S) (s_ : Int32) : vx_Met l yX7_first wsX7_first ({ frames := 8, cells := 1, slots := 6, locals := 124 } : Room) (va_Pc [.ref (ga g 18 0), .int s_] (fun U => CP D cy g S U ∧ JT A U U.heap)) (va_Qi (fun (r : Int32) (_ : Unit) => (fX7_first S s_).2.1 = 0 ∧ r = (fX7_first S s_).1) (fun _ t9 => CH D cy g (fX7_first S s_).2.2 t9.heap) A) (XF A D cy g S (fX7_first S s_).2.1) 1 6 A := by
  refine vx_ofW (cc := cX7_first) (maxL := 2) (ret := (some .int)) (by decide) rfl ?_
  intro p e s m args below meth c s₁ B hml hno hv
  obtain ⟨rfl, ⟨hM, hK⟩, hJ⟩ := hv
  have hx := B.exec
  have hb := B.bytes
  have hr := B.returns
  have hts := atoms_spec (ws := wsX7_first) B.pre
  have hown : s.vm.findClass RX7 = some m.cls := findClass_of_methodNamed B.named
  have hlocks := B.notSynchronized
  have hC : CC p s m _ c cX7_first 2 RX7 D cy wsX7_first := ⟨⟨hx, hb, hml, hown, hts⟩, hK⟩
  have hI : CI A D cy g s S s.heap [] := ⟨hM, va_S.rf⟩
  have hT := hV.2.1
  have hN := hV.2.2.1
  have hQ := hV.2.2.2
  have hb7 := hN.b7
  have hb15 := hN.b15
  have hb23 := hN.b23
  have hb28 := hN.b28
  have hb42 := hN.b42
  have hb64 := hQ.b64
  have hl := lv_entry ([.ref (ga g 18 0), .int s_]) (n := 2) (Nat.le_of_ble_eq_true rfl)
  rw [lg_entry_eq]
  generalize (lg_sl ([.ref (ga g 18 0), .int s_]) ++ List.replicate (2 - (lg_sl ([.ref (ga g 18 0), .int s_])).length) Slot.unset).toArray = ls at hl ⊢
  have hl : lv_has ls 2 [(0, .ref (ga g 18 0)), (1, .int s_)] := hl
  have hG : fX7_first S s_ = fX7_first S s_ := rfl
  refine lv_aload_n hx hb dX7_first_0 rfl (lv_at hl 0 rfl) ?_
  refine lv_aload_n hx hb dX7_first_1 rfl (lv_at hl 0 rfl) ?_
  refine lv_iload_n hx hb dX7_first_2 rfl (lv_at hl 1 rfl) ?_
  by_cases c_1 : okI s_ (S 7 0)
  · have hG := hG.trans (if_pos c_1)
    refine cr_callR (As := [.int s_]) (rest := [.ref (ga g 18 0)]) hC hI (qX7_schemeAt l D cy g S e0 hV s_ c_1) (cwV 1 hts gX7_first_X7_schemeAt rfl rfl rfl (by decide +kernel) ⟨Nat.le_of_ble_eq_true rfl, Nat.le_of_ble_eq_true rfl⟩) (cr_prev (ci := 8) hC hI 18 0 rfl rfl rfl) rfl hl.1 rfl (Nat.le_of_ble_eq_true rfl) dX7_first_3 ⟨Nat.zero_le _, Nat.zero_le _⟩ (fun H locs hI => ?_)
    refine cr_call (As := [.ref (ga g 5 (ix s_))]) (rest := []) hC hI (qX7_firstFor l D cy g S e0 hV (ix s_) (okI_l c_1 hN.n7 (by have := hN.b7; omega))) (cwV 1 hts gX7_first_X7_firstFor rfl rfl rfl (by decide +kernel) ⟨Nat.le_of_ble_eq_true rfl, Nat.le_of_ble_eq_true rfl⟩) (cr_prev (ci := 8) hC hI 18 0 rfl rfl rfl) rfl hl.1 rfl (Nat.le_of_ble_eq_true rfl) dX7_first_6 ⟨Nat.zero_le _, Nat.zero_le _⟩ (fun H locs hI => ?_)
    refine vx_ret ?_
    refine W.widen (k := 1) (n := 6) (Nat.zero_le _) (Nat.zero_le _) ?_
    exact W.iret (v := (fX7_firstFor S (ix s_))) hx hb hr (fun t9 ht9 hW9 => ⟨⟨(fX7_firstFor S (ix s_)), (), rfl, ⟨congrArg (fun z => z.2.1) hG, (congrArg Prod.fst hG).symm⟩, by show CH D cy g _ t9.heap; rw [ht9, hG]; exact hI.1⟩, hI.2.F ht9⟩) hI.2.2.2 dX7_first_9
  · have hG := hG.trans (if_neg c_1)
    exact ct_v (As := [.int s_]) (rest := [.ref (ga g 18 0)]) hC hI hJ (tX7_schemeAt l hfl D cy g S e0 hV s_ c_1) (cwV 1 hts gX7_first_X7_schemeAt rfl rfl rfl (by decide +kernel) ⟨Nat.le_of_ble_eq_true rfl, Nat.le_of_ble_eq_true rfl⟩) rfl hl.1 rfl (Nat.le_of_ble_eq_true rfl) dX7_first_3 ⟨Nat.le_of_ble_eq_true rfl, Nat.le_of_ble_eq_true rfl⟩ hno hlocks (xf_of hI (by decide) (congrArg (fun z => z.2.1) hG)) (fun _ h => h) (Nat.le_of_ble_eq_true rfl) (Nat.le_of_ble_eq_true rfl)
set_option maxHeartbeats 4000000 in
set_option maxRecDepth 100000 in
theorem qX7_firstAnew (l : Launch) (hfl : l.stackTraces = false) (A : Nat → Prop) (D : va_G) (cy : Nat → ClassId) (g : CWt) (hL : CL A g) (S : St) (e0 : Nat) (hV : CV e0 g S) (s_ : Int32) : vx_Met l yX7_firstAnew wsX7_firstAnew ({ frames := 8, cells := 1, slots := 6, locals := 124 } : Room) (va_Pc [.ref (ga g 18 0), .int s_] (fun U => CP D cy g S U ∧ JT A U U.heap)) (va_Qi (fun (r : Int32) (_ : Unit) => (fX7_firstAnew S s_).2.1 = 0 ∧ r = (fX7_firstAnew S s_).1) (fun _ t9 => CH D cy g (fX7_firstAnew S s_).2.2 t9.heap) A) (XF A D cy g S (fX7_firstAnew S s_).2.1) 1 6 A := by
  refine vx_ofW (cc := cX7_firstAnew) (maxL := 5) (ret := (some .int)) (by decide) rfl ?_
  intro p e s m args below meth c s₁ B hml hno hv
  obtain ⟨rfl, ⟨hM, hK⟩, hJ⟩ := hv
  have hx := B.exec
  have hb := B.bytes
  have hr := B.returns
  have hts := atoms_spec (ws := wsX7_firstAnew) B.pre
  have hown : s.vm.findClass RX7 = some m.cls := findClass_of_methodNamed B.named
  have hlocks := B.notSynchronized
  have hC : CC p s m _ c cX7_firstAnew 5 RX7 D cy wsX7_firstAnew := ⟨⟨hx, hb, hml, hown, hts⟩, hK⟩
  have hI : CI A D cy g s S s.heap [] := ⟨hM, va_S.rf⟩
  have hT := hV.2.1
  have hN := hV.2.2.1
  have hQ := hV.2.2.2
  have hb7 := hN.b7
  have hb15 := hN.b15
  have hb23 := hN.b23
  have hb28 := hN.b28
  have hb42 := hN.b42
  have hb64 := hQ.b64
  have k_44 := hts (.fieldLink RX7 44 "RelatorsBench" "paperDayCount" "I") (List.mem_cons_of_mem _ (List.mem_append_left _ (List.mem_append_left _ (List.mem_append_left _ (List.mem_append_left _ (List.mem_append_left _ (List.mem_append_left _ (List.mem_append_left _ (List.mem_of_getElem? (i := 0) rfl)))))))))
  have hinX7 : ∀ w ∈ wsX70, w ∈ wsX7_firstAnew := fun _ h => List.mem_cons_of_mem _ (List.mem_append_left _ (List.mem_append_left _ (List.mem_append_left _ (List.mem_append_left _ (List.mem_append_left _ (List.mem_append_right _ (h)))))))
  have k_41 := hts (.fieldLink RX7 41 "RelatorsBench" "paperDays" "[I") (List.mem_cons_of_mem _ (List.mem_append_left _ (List.mem_append_left _ (List.mem_append_left _ (List.mem_append_left _ (List.mem_append_left _ (List.mem_append_left _ (List.mem_append_left _ (List.mem_of_getElem? (i := 1) rfl)))))))))
  have hl := lv_entry ([.ref (ga g 18 0), .int s_]) (n := 5) (Nat.le_of_ble_eq_true rfl)
  rw [lg_entry_eq]
  generalize (lg_sl ([.ref (ga g 18 0), .int s_]) ++ List.replicate (5 - (lg_sl ([.ref (ga g 18 0), .int s_])).length) Slot.unset).toArray = ls at hl ⊢
  have hl : lv_has ls 5 [(0, .ref (ga g 18 0)), (1, .int s_)] := hl
  have hG : fX7_firstAnew S s_ = fX7_firstAnew S s_ := rfl
  refine lv_aload_n hx hb dX7_firstAnew_0 rfl (lv_at hl 0 rfl) ?_
  refine lv_iload_n hx hb dX7_firstAnew_1 rfl (lv_at hl 1 rfl) ?_
  by_cases c_1 : okI s_ (S 7 0)
  · have hG := hG.trans (if_pos c_1)
    refine cr_callR (As := [.int s_]) (rest := []) hC hI (qX7_schemeAt l D cy g S e0 hV s_ c_1) (cwV 1 hts gX7_firstAnew_X7_schemeAt rfl rfl rfl (by decide +kernel) ⟨Nat.le_of_ble_eq_true rfl, Nat.le_of_ble_eq_true rfl⟩) (cr_prev (ci := 8) hC hI 18 0 rfl rfl rfl) rfl hl.1 rfl (Nat.le_of_ble_eq_true rfl) dX7_firstAnew_2 ⟨Nat.zero_le _, Nat.zero_le _⟩ (fun H locs hI => ?_)
    refine lv_astore_n (lv' := [(2, .ref (ga g 5 (ix s_))), (0, .ref (ga g 18 0)), (1, .int s_)]) hx hb dX7_firstAnew_5 rfl hl (by decide) rfl (fun ls hl => ?_)
    refine lv_iconst (v := 0) hx hb dX7_firstAnew_6 (by decide) ?_
    refine lv_istore_n (lv' := [(3, .int 0), (2, .ref (ga g 5 (ix s_))), (0, .ref (ga g 18 0)), (1, .int s_)]) hx hb dX7_firstAnew_7 rfl hl (by decide) rfl (fun ls hl => ?_)
    refine w_loop (σ := Unit) (npd S) 8 (fun i8 z H locs ls => fX7_firstAnew S s_ = rX7_firstAnew_8 S s_ ((npd S) - i8) i8 ∧ CI A D cy g s S H locs ∧ lv_has ls 5 [(3, .int (nI i8)), (2, .ref (ga g 5 (ix s_))), (0, .ref (ga g 18 0)), (1, .int s_)]) ?_ () ⟨hG, hI, lv_sub hl [0, 1, 2, 3] rfl⟩
    intro i8 z H locs ls ⟨hG, hI, hl⟩ hi8 ih8
    refine lv_iload_n hx hb dX7_firstAnew_8 rfl (lv_at hl 0 rfl) ?_
    refine lv_aload_n hx hb dX7_firstAnew_9 rfl (lv_at hl 2 rfl) ?_
    refine cr_get (ci := 8) hC hI 18 0 rfl rfl rfl hinX7 8 (by decide) k_44 (fun _ h => h) (v := .int (S 64 0)) rfl dX7_firstAnew_10 ?_
    refine lv_icmp_ge (tgt := 44) hx hb dX7_firstAnew_13 (by decide) (fun c_2 => ?_) (fun c_2 => ?_)
    · have hxN : i8 = npd S := w_exit hQ.n64 hi8 (by have := hQ.b64; omega) c_2
      rw [show (npd S) - i8 = 0 by omega] at hG
      have hG := hG.trans (rX7_firstAnew_8_0 S s_ i8)
      refine lv_iconst (v := (-1)) hx hb dX7_firstAnew_44 (by decide) ?_
      refine vx_ret ?_
      refine W.widen (k := 1) (n := 6) (Nat.zero_le _) (Nat.zero_le _) ?_
      exact W.iret (v := (-1)) hx hb hr (fun t9 ht9 hW9 => ⟨⟨(-1), (), rfl, ⟨congrArg (fun z => z.2.1) hG, (congrArg Prod.fst hG).symm⟩, by show CH D cy g _ t9.heap; rw [ht9, hG]; exact hI.1⟩, hI.2.F ht9⟩) hI.2.2.2 dX7_firstAnew_45
    · have hlt8 : i8 < npd S := w_in hQ.n64 hi8 (by have := hQ.b64; omega) c_2
      rw [show (npd S) - i8 = ((npd S) - (i8 + 1)) + 1 by omega] at hG
      have hG := hG.trans (rX7_firstAnew_8_s S s_ i8 ((npd S) - (i8 + 1)))
      refine lv_aload_n hx hb dX7_firstAnew_16 rfl (lv_at hl 2 rfl) ?_
      refine lv_aload_n hx hb dX7_firstAnew_17 rfl (lv_at hl 2 rfl) ?_
      refine cr_get (ci := 8) hC hI 18 0 rfl rfl rfl hinX7 7 (by decide) k_41 (fun _ h => h) (v := .ref (ga g 17 0)) rfl dX7_firstAnew_18 ?_
      refine lv_iload_n hx hb dX7_firstAnew_21 rfl (lv_at hl 0 rfl) ?_
      refine cr_iald (N := 52) (f := (S 63)) hC hI 17 0 rfl rfl (show vp_in (nI i8) 52 from vp_in_nI (by omega) (by decide)) (v := (S 63 i8)) ((congrArg (S 63) (nI_clamp (by omega))).trans rfl) dX7_firstAnew_22 ?_
      refine lv_aload_n hx hb dX7_firstAnew_23 rfl (lv_at hl 1 rfl) ?_
      refine cr_call (As := [.int (S 63 i8), .ref (ga g 5 (ix s_))]) (rest := []) hC hI (qX7_lowestCoveringFrom l D cy g S e0 hV (S 63 i8) (ix s_) (okI_l c_1 hN.n7 (by have := hN.b7; omega))) (cwV 2 hts gX7_firstAnew_X7_lowestCoveringFrom rfl rfl rfl (by decide +kernel) ⟨Nat.le_of_ble_eq_true rfl, Nat.le_of_ble_eq_true rfl⟩) (cr_prev (ci := 8) hC hI 18 0 rfl rfl rfl) rfl hl.1 rfl (Nat.le_of_ble_eq_true rfl) dX7_firstAnew_24 ⟨Nat.zero_le _, Nat.zero_le _⟩ (fun H locs hI => ?_)
      refine lv_istore (lv' := [(4, .int (fX7_lowestCoveringFrom S (S 63 i8) (ix s_))), (3, .int (nI i8)), (2, .ref (ga g 5 (ix s_))), (0, .ref (ga g 18 0)), (1, .int s_)]) hx hb dX7_firstAnew_27 hl (by decide) rfl (fun ls hl => ?_)
      refine lv_iload hx hb dX7_firstAnew_29 (lv_at hl 0 rfl) ?_
      refine lv_iconst (v := (-1)) hx hb dX7_firstAnew_31 (by decide) ?_
      refine lv_icmp_eq (tgt := 38) hx hb dX7_firstAnew_32 (by decide) (fun c_3 => ?_) (fun c_3 => ?_)
      · have hG := hG.trans (if_pos c_3)
        refine lv_iinc (v := (nI (i8 + 1))) (lv' := [(3, .int (nI (i8 + 1))), (4, .int (fX7_lowestCoveringFrom S (S 63 i8) (ix s_))), (2, .ref (ga g 5 (ix s_))), (0, .ref (ga g 18 0)), (1, .int s_)]) hx hb dX7_firstAnew_38 hl (k := 1) rfl (nI_1 i8) (by decide) rfl (fun ls hl => ?_)
        refine lv_goto (tgt := 8) hx hb dX7_firstAnew_41 (by decide) ?_
        exact ih8 () _ _ ls hlt8 ⟨hG, hI, lv_sub hl [0, 2, 3, 4] rfl⟩
      · have hG := hG.trans (if_neg c_3)
        refine lv_iload hx hb dX7_firstAnew_35 (lv_at hl 0 rfl) ?_
        refine vx_ret ?_
        refine W.widen (k := 1) (n := 6) (Nat.zero_le _) (Nat.zero_le _) ?_
        exact W.iret (v := (fX7_lowestCoveringFrom S (S 63 i8) (ix s_))) hx hb hr (fun t9 ht9 hW9 => ⟨⟨(fX7_lowestCoveringFrom S (S 63 i8) (ix s_)), (), rfl, ⟨congrArg (fun z => z.2.1) hG, (congrArg Prod.fst hG).symm⟩, by show CH D cy g _ t9.heap; rw [ht9, hG]; exact hI.1⟩, hI.2.F ht9⟩) hI.2.2.2 dX7_firstAnew_37
  · have hG := hG.trans (if_neg c_1)
    exact ct_v (As := [.int s_]) (rest := []) hC hI hJ (tX7_schemeAt l hfl D cy g S e0 hV s_ c_1) (cwV 1 hts gX7_firstAnew_X7_schemeAt rfl rfl rfl (by decide +kernel) ⟨Nat.le_of_ble_eq_true rfl, Nat.le_of_ble_eq_true rfl⟩) rfl hl.1 rfl (Nat.le_of_ble_eq_true rfl) dX7_firstAnew_2 ⟨Nat.le_of_ble_eq_true rfl, Nat.le_of_ble_eq_true rfl⟩ hno hlocks (xf_of hI (by decide) (congrArg (fun z => z.2.1) hG)) (fun _ h => h) (Nat.le_of_ble_eq_true rfl) (Nat.le_of_ble_eq_true rfl)
set_option maxHeartbeats 4000000 in
set_option maxRecDepth 100000 in
theorem qX7_due (l : Launch) (hfl : l.stackTraces = false) (A : Nat → Prop) (D : va_G) (cy : Nat → ClassId) (g : CWt) (hL : CL A g) (S : St) (e0 : Nat) (hV : CV e0 g S) (k : Int32) : vx_Met l yX7_due wsX7_due ({ frames := 8, cells := 1, slots := 6, locals := 161 } : Room) (va_Pc [.ref (ga g 18 0), .int k] (fun U => CP D cy g S U ∧ JT A U U.heap)) (va_Qi (fun (r : Int32) (_ : Unit) => (fX7_due S k).2.1 = 0 ∧ r = (fX7_due S k).1) (fun _ t9 => CH D cy g (fX7_due S k).2.2 t9.heap) A) (XF A D cy g S (fX7_due S k).2.1) 1 6 A := by
  refine vx_ofW (cc := cX7_due) (maxL := 2) (ret := (some .int)) (by decide) rfl ?_
  intro p e s m args below meth c s₁ B hml hno hv
  obtain ⟨rfl, ⟨hM, hK⟩, hJ⟩ := hv
  have hx := B.exec
  have hb := B.bytes
  have hr := B.returns
  have hts := atoms_spec (ws := wsX7_due) B.pre
  have hown : s.vm.findClass RX7 = some m.cls := findClass_of_methodNamed B.named
  have hlocks := B.notSynchronized
  have hC : CC p s m _ c cX7_due 2 RX7 D cy wsX7_due := ⟨⟨hx, hb, hml, hown, hts⟩, hK⟩
  have hI : CI A D cy g s S s.heap [] := ⟨hM, va_S.rf⟩
  have hT := hV.2.1
  have hN := hV.2.2.1
  have hQ := hV.2.2.2
  have hb7 := hN.b7
  have hb15 := hN.b15
  have hb23 := hN.b23
  have hb28 := hN.b28
  have hb42 := hN.b42
  have hb64 := hQ.b64
  have hl := lv_entry ([.ref (ga g 18 0), .int k]) (n := 2) (Nat.le_of_ble_eq_true rfl)
  rw [lg_entry_eq]
  generalize (lg_sl ([.ref (ga g 18 0), .int k]) ++ List.replicate (2 - (lg_sl ([.ref (ga g 18 0), .int k])).length) Slot.unset).toArray = ls at hl ⊢
  have hl : lv_has ls 2 [(0, .ref (ga g 18 0)), (1, .int k)] := hl
  have hG : fX7_due S k = fX7_due S k := rfl
  refine lv_aload_n hx hb dX7_due_0 rfl (lv_at hl 0 rfl) ?_
  refine lv_aload_n hx hb dX7_due_1 rfl (lv_at hl 0 rfl) ?_
  refine lv_iload_n hx hb dX7_due_2 rfl (lv_at hl 1 rfl) ?_
  by_cases c_1 : okI k (S 28 0)
  · have hG := hG.trans (if_pos c_1)
    refine cr_callR (As := [.int k]) (rest := [.ref (ga g 18 0)]) hC hI (qX7_suitAt l D cy g S e0 hV k c_1) (cwV 1 hts gX7_due_X7_suitAt rfl rfl rfl (by decide +kernel) ⟨Nat.le_of_ble_eq_true rfl, Nat.le_of_ble_eq_true rfl⟩) (cr_prev (ci := 8) hC hI 18 0 rfl rfl rfl) rfl hl.1 rfl (Nat.le_of_ble_eq_true rfl) dX7_due_3 ⟨Nat.zero_le _, Nat.zero_le _⟩ (fun H locs hI => ?_)
    refine cr_call (As := [.ref (ga g 8 (ix k))]) (rest := []) hC hI (qX7_dueBy l D cy g S e0 hV (ix k) (okI_l c_1 hN.n28 (by have := hN.b28; omega))) (cwV 1 hts gX7_due_X7_dueBy rfl rfl rfl (by decide +kernel) ⟨Nat.le_of_ble_eq_true rfl, Nat.le_of_ble_eq_true rfl⟩) (cr_prev (ci := 8) hC hI 18 0 rfl rfl rfl) rfl hl.1 rfl (Nat.le_of_ble_eq_true rfl) dX7_due_6 ⟨Nat.zero_le _, Nat.zero_le _⟩ (fun H locs hI => ?_)
    refine vx_ret ?_
    refine W.widen (k := 1) (n := 6) (Nat.zero_le _) (Nat.zero_le _) ?_
    exact W.iret (v := (fX7_dueBy S (ix k))) hx hb hr (fun t9 ht9 hW9 => ⟨⟨(fX7_dueBy S (ix k)), (), rfl, ⟨congrArg (fun z => z.2.1) hG, (congrArg Prod.fst hG).symm⟩, by show CH D cy g _ t9.heap; rw [ht9, hG]; exact hI.1⟩, hI.2.F ht9⟩) hI.2.2.2 dX7_due_9
  · have hG := hG.trans (if_neg c_1)
    exact ct_v (As := [.int k]) (rest := [.ref (ga g 18 0)]) hC hI hJ (tX7_suitAt l hfl D cy g S e0 hV k c_1) (cwV 1 hts gX7_due_X7_suitAt rfl rfl rfl (by decide +kernel) ⟨Nat.le_of_ble_eq_true rfl, Nat.le_of_ble_eq_true rfl⟩) rfl hl.1 rfl (Nat.le_of_ble_eq_true rfl) dX7_due_3 ⟨Nat.le_of_ble_eq_true rfl, Nat.le_of_ble_eq_true rfl⟩ hno hlocks (xf_of hI (by decide) (congrArg (fun z => z.2.1) hG)) (fun _ h => h) (Nat.le_of_ble_eq_true rfl) (Nat.le_of_ble_eq_true rfl)
set_option maxHeartbeats 4000000 in
set_option maxRecDepth 100000 in
theorem qX7_sees (l : Launch) (hfl : l.stackTraces = false) (A : Nat → Prop) (D : va_G) (cy : Nat → ClassId) (g : CWt) (hL : CL A g) (S : St) (e0 : Nat) (hV : CV e0 g S) (t : Int32) (k : Int32) : vx_Met l yX7_sees wsX7_sees ({ frames := 8, cells := 1, slots := 6, locals := 124 } : Room) (va_Pc [.ref (ga g 18 0), .int t, .int k] (fun U => CP D cy g S U ∧ JT A U U.heap)) (va_Qi (fun (r : Int32) (_ : Unit) => (fX7_sees S t k).2.1 = 0 ∧ r = (fX7_sees S t k).1) (fun _ t9 => CH D cy g (fX7_sees S t k).2.2 t9.heap) A) (XF A D cy g S (fX7_sees S t k).2.1) 1 6 A := by
  refine vx_ofW (cc := cX7_sees) (maxL := 4) (ret := (some .boolean)) (by decide) rfl ?_
  intro p e s m args below meth c s₁ B hml hno hv
  obtain ⟨rfl, ⟨hM, hK⟩, hJ⟩ := hv
  have hx := B.exec
  have hb := B.bytes
  have hr := B.returns
  have hts := atoms_spec (ws := wsX7_sees) B.pre
  have hown : s.vm.findClass RX7 = some m.cls := findClass_of_methodNamed B.named
  have hlocks := B.notSynchronized
  have hC : CC p s m _ c cX7_sees 4 RX7 D cy wsX7_sees := ⟨⟨hx, hb, hml, hown, hts⟩, hK⟩
  have hI : CI A D cy g s S s.heap [] := ⟨hM, va_S.rf⟩
  have hT := hV.2.1
  have hN := hV.2.2.1
  have hQ := hV.2.2.2
  have hb7 := hN.b7
  have hb15 := hN.b15
  have hb23 := hN.b23
  have hb28 := hN.b28
  have hb42 := hN.b42
  have hb64 := hQ.b64
  have k_179 := hts (.fieldLink RX7 179 "RelatorsBench$Suit" "teller" "I") (List.mem_cons_of_mem _ (List.mem_append_left _ (List.mem_append_left _ (List.mem_append_left _ (List.mem_append_left _ (List.mem_append_left _ (List.mem_of_getElem? (i := 0) rfl)))))))
  have hinX5 : ∀ w ∈ wsX50, w ∈ wsX7_sees := fun _ h => List.mem_cons_of_mem _ (List.mem_append_left _ (List.mem_append_left _ (List.mem_append_left _ (List.mem_append_right _ (h)))))
  have k_51 := hts (.fieldLink RX7 51 "RelatorsBench" "today" "I") (List.mem_cons_of_mem _ (List.mem_append_left _ (List.mem_append_left _ (List.mem_append_left _ (List.mem_append_left _ (List.mem_append_left _ (List.mem_of_getElem? (i := 1) rfl)))))))
  have hinX7 : ∀ w ∈ wsX70, w ∈ wsX7_sees := fun _ h => List.mem_cons_of_mem _ (List.mem_append_left _ (List.mem_append_left _ (List.mem_append_right _ (h))))
  have hl := lv_entry ([.ref (ga g 18 0), .int t, .int k]) (n := 4) (Nat.le_of_ble_eq_true rfl)
  rw [lg_entry_eq]
  generalize (lg_sl ([.ref (ga g 18 0), .int t, .int k]) ++ List.replicate (4 - (lg_sl ([.ref (ga g 18 0), .int t, .int k])).length) Slot.unset).toArray = ls at hl ⊢
  have hl : lv_has ls 4 [(0, .ref (ga g 18 0)), (1, .int t), (2, .int k)] := hl
  have hG : fX7_sees S t k = fX7_sees S t k := rfl
  refine lv_iload_n hx hb dX7_sees_0 rfl (lv_at hl 1 rfl) ?_
  refine lv_bipush (v := 8) hx hb dX7_sees_1 (by decide) ?_
  by_cases c_1 : okI t 8
  · have hG := hG.trans (if_pos c_1)
    refine cr_pass (As := [.int t, .int 8]) (rest := []) hC hI (qX7_checkIndex l t 8 c_1) (va_cwS 2 hts gX7_sees_X7_checkIndex rfl rfl rfl (by decide +kernel) ⟨Nat.le_of_ble_eq_true rfl, Nat.le_of_ble_eq_true rfl⟩) rfl hl.1 rfl (Nat.le_of_ble_eq_true rfl) dX7_sees_3 ⟨Nat.zero_le _, Nat.zero_le _⟩ (fun H locs hI => ?_)
    refine lv_aload_n hx hb dX7_sees_6 rfl (lv_at hl 0 rfl) ?_
    refine lv_iload_n hx hb dX7_sees_7 rfl (lv_at hl 2 rfl) ?_
    by_cases c_2 : okI k (S 28 0)
    · have hG := hG.trans (if_pos c_2)
      refine cr_callR (As := [.int k]) (rest := []) hC hI (qX7_suitAt l D cy g S e0 hV k c_2) (cwV 1 hts gX7_sees_X7_suitAt rfl rfl rfl (by decide +kernel) ⟨Nat.le_of_ble_eq_true rfl, Nat.le_of_ble_eq_true rfl⟩) (cr_prev (ci := 8) hC hI 18 0 rfl rfl rfl) rfl hl.1 rfl (Nat.le_of_ble_eq_true rfl) dX7_sees_8 ⟨Nat.zero_le _, Nat.zero_le _⟩ (fun H locs hI => ?_)
      refine lv_astore_n (lv' := [(3, .ref (ga g 8 (ix k))), (0, .ref (ga g 18 0)), (1, .int t), (2, .int k)]) hx hb dX7_sees_11 rfl hl (by decide) rfl (fun ls hl => ?_)
      refine lv_aload_n hx hb dX7_sees_12 rfl (lv_at hl 0 rfl) ?_
      refine cr_get (ci := 6) hC hI 8 (ix k) (hT.v8 (okI_l c_2 hN.n28 (by have := hN.b28; omega))) rfl rfl hinX5 1 (by decide) k_179 (fun _ h => h) (v := .int (S 29 (ix k))) rfl dX7_sees_13 ?_
      refine lv_iload_n hx hb dX7_sees_16 rfl (lv_at hl 2 rfl) ?_
      refine lv_icmp_eq (tgt := 31) hx hb dX7_sees_17 (by decide) (fun c_3 => ?_) (fun c_3 => ?_)
      · have hG := hG.trans (if_pos c_3)
        refine lv_iconst (v := 1) hx hb dX7_sees_31 (by decide) ?_
        refine lv_goto (tgt := 36) hx hb dX7_sees_32 (by decide) ?_
        refine vx_ret ?_
        refine W.widen (k := 1) (n := 6) (Nat.zero_le _) (Nat.zero_le _) ?_
        exact W.zret (v := 1) (ty := .boolean) hx hb hr rfl (fun t9 ht9 hW9 => ⟨⟨1, (), rfl, ⟨congrArg (fun z => z.2.1) hG, (congrArg Prod.fst hG).symm⟩, by show CH D cy g _ t9.heap; rw [ht9, hG]; exact hI.1⟩, hI.2.F ht9⟩) hI.2.2.2 dX7_sees_36
      · have hG := hG.trans (if_neg c_3)
        refine lv_aload_n hx hb dX7_sees_20 rfl (lv_at hl 0 rfl) ?_
        refine lv_aload_n hx hb dX7_sees_21 rfl (lv_at hl 1 rfl) ?_
        refine cr_get (ci := 8) hC hI 18 0 rfl rfl rfl hinX7 10 (by decide) k_51 (fun _ h => h) (v := .int (S 1 0)) rfl dX7_sees_22 ?_
        refine cr_call (As := [.int (S 1 0)]) (rest := []) hC hI (qX5_isSealedOn l D cy g S e0 hV (ix k) (okI_l c_2 hN.n28 (by have := hN.b28; omega)) (S 1 0)) (cwV 1 hts gX7_sees_X5_isSealedOn rfl rfl rfl (by decide +kernel) ⟨Nat.le_of_ble_eq_true rfl, Nat.le_of_ble_eq_true rfl⟩) (cr_prev (ci := 6) hC hI 8 (ix k) (hT.v8 (okI_l c_2 hN.n28 (by have := hN.b28; omega))) rfl rfl) rfl hl.1 rfl (Nat.le_of_ble_eq_true rfl) dX7_sees_25 ⟨Nat.zero_le _, Nat.zero_le _⟩ (fun H locs hI => ?_)
        refine lv_if_ne (tgt := 35) hx hb dX7_sees_28 (by decide) (fun c_4 => ?_) (fun c_4 => ?_)
        · have hG := hG.trans (if_neg c_4)
          refine lv_iconst (v := 0) hx hb dX7_sees_35 (by decide) ?_
          refine vx_ret ?_
          refine W.widen (k := 1) (n := 6) (Nat.zero_le _) (Nat.zero_le _) ?_
          exact W.zret (v := 0) (ty := .boolean) hx hb hr rfl (fun t9 ht9 hW9 => ⟨⟨0, (), rfl, ⟨congrArg (fun z => z.2.1) hG, (congrArg Prod.fst hG).symm⟩, by show CH D cy g _ t9.heap; rw [ht9, hG]; exact hI.1⟩, hI.2.F ht9⟩) hI.2.2.2 dX7_sees_36
        · have hG := hG.trans (if_pos c_4)
          refine lv_iconst (v := 1) hx hb dX7_sees_31 (by decide) ?_
          refine lv_goto (tgt := 36) hx hb dX7_sees_32 (by decide) ?_
          refine vx_ret ?_
          refine W.widen (k := 1) (n := 6) (Nat.zero_le _) (Nat.zero_le _) ?_
          exact W.zret (v := 1) (ty := .boolean) hx hb hr rfl (fun t9 ht9 hW9 => ⟨⟨1, (), rfl, ⟨congrArg (fun z => z.2.1) hG, (congrArg Prod.fst hG).symm⟩, by show CH D cy g _ t9.heap; rw [ht9, hG]; exact hI.1⟩, hI.2.F ht9⟩) hI.2.2.2 dX7_sees_36
    · have hG := hG.trans (if_neg c_2)
      exact ct_v (As := [.int k]) (rest := []) hC hI hJ (tX7_suitAt l hfl D cy g S e0 hV k c_2) (cwV 1 hts gX7_sees_X7_suitAt rfl rfl rfl (by decide +kernel) ⟨Nat.le_of_ble_eq_true rfl, Nat.le_of_ble_eq_true rfl⟩) rfl hl.1 rfl (Nat.le_of_ble_eq_true rfl) dX7_sees_8 ⟨Nat.le_of_ble_eq_true rfl, Nat.le_of_ble_eq_true rfl⟩ hno hlocks (xf_of hI (by decide) (congrArg (fun z => z.2.1) hG)) (fun _ h => h) (Nat.le_of_ble_eq_true rfl) (Nat.le_of_ble_eq_true rfl)
  · have hG := hG.trans (if_neg c_1)
    exact ct_s (As := [.int t, .int 8]) (rest := []) hC.1 hI.2 hJ (tX7_checkIndex l hfl t 8 c_1) (va_cwS 2 hts gX7_sees_X7_checkIndex rfl rfl rfl (by decide +kernel) ⟨Nat.le_of_ble_eq_true rfl, Nat.le_of_ble_eq_true rfl⟩) rfl hl.1 rfl (Nat.le_of_ble_eq_true rfl) dX7_sees_3 ⟨Nat.le_of_ble_eq_true rfl, Nat.le_of_ble_eq_true rfl⟩ hno hlocks (xf_of hI (by decide) (congrArg (fun z => z.2.1) hG)) (fun _ h => h) (Nat.le_of_ble_eq_true rfl) (Nat.le_of_ble_eq_true rfl)
set_option maxHeartbeats 4000000 in
set_option maxRecDepth 100000 in
theorem qX7_ofSuit (l : Launch) (hfl : l.stackTraces = false) (A : Nat → Prop) (D : va_G) (cy : Nat → ClassId) (g : CWt) (hL : CL A g) (S : St) (e0 : Nat) (hV : CV e0 g S) (k : Int32) (what : Int32) : vx_Met l yX7_ofSuit wsX7_ofSuit ({ frames := 8, cells := 1, slots := 6, locals := 161 } : Room) (va_Pc [.ref (ga g 18 0), .int k, .int what] (fun U => CP D cy g S U ∧ JT A U U.heap)) (va_Qi (fun (r : Int32) (_ : Unit) => (fX7_ofSuit S k what).2.1 = 0 ∧ r = (fX7_ofSuit S k what).1) (fun _ t9 => CH D cy g (fX7_ofSuit S k what).2.2 t9.heap) A) (XF A D cy g S (fX7_ofSuit S k what).2.1) 1 6 A := by
  refine vx_ofW (cc := cX7_ofSuit) (maxL := 4) (ret := (some .int)) (by decide) rfl ?_
  intro p e s m args below meth c s₁ B hml hno hv
  obtain ⟨rfl, ⟨hM, hK⟩, hJ⟩ := hv
  have hx := B.exec
  have hb := B.bytes
  have hr := B.returns
  have hts := atoms_spec (ws := wsX7_ofSuit) B.pre
  have hown : s.vm.findClass RX7 = some m.cls := findClass_of_methodNamed B.named
  have hlocks := B.notSynchronized
  have hC : CC p s m _ c cX7_ofSuit 4 RX7 D cy wsX7_ofSuit := ⟨⟨hx, hb, hml, hown, hts⟩, hK⟩
  have hI : CI A D cy g s S s.heap [] := ⟨hM, va_S.rf⟩
  have hT := hV.2.1
  have hN := hV.2.2.1
  have hQ := hV.2.2.2
  have hb7 := hN.b7
  have hb15 := hN.b15
  have hb23 := hN.b23
  have hb28 := hN.b28
  have hb42 := hN.b42
  have hb64 := hQ.b64
  have k_179 := hts (.fieldLink RX7 179 "RelatorsBench$Suit" "teller" "I") (List.mem_cons_of_mem _ (List.mem_append_left _ (List.mem_append_left _ (List.mem_append_left _ (List.mem_append_left _ (List.mem_append_left _ (List.mem_append_left _ (List.mem_append_left _ (List.mem_of_getElem? (i := 2) rfl)))))))))
  have hinX5 : ∀ w ∈ wsX50, w ∈ wsX7_ofSuit := fun _ h => List.mem_cons_of_mem _ (List.mem_append_left _ (List.mem_append_left _ (List.mem_append_left _ (List.mem_append_left _ (List.mem_append_left _ (List.mem_append_right _ (h)))))))
  have k_217 := hts (.fieldLink RX7 217 "RelatorsBench$Suit" "firm" "I") (List.mem_cons_of_mem _ (List.mem_append_left _ (List.mem_append_left _ (List.mem_append_left _ (List.mem_append_left _ (List.mem_append_left _ (List.mem_append_left _ (List.mem_append_left _ (List.mem_of_getElem? (i := 3) rfl)))))))))
  have k_185 := hts (.fieldLink RX7 185 "RelatorsBench$Suit" "facts" "I") (List.mem_cons_of_mem _ (List.mem_append_left _ (List.mem_append_left _ (List.mem_append_left _ (List.mem_append_left _ (List.mem_append_left _ (List.mem_append_left _ (List.mem_append_left _ (List.mem_of_getElem? (i := 4) rfl)))))))))
  have k_273 := hts (.fieldLink RX7 273 "RelatorsBench$Suit" "filedOn" "I") (List.mem_cons_of_mem _ (List.mem_append_left _ (List.mem_append_left _ (List.mem_append_left _ (List.mem_append_left _ (List.mem_append_left _ (List.mem_append_left _ (List.mem_append_left _ (List.mem_of_getElem? (i := 5) rfl)))))))))
  have k_195 := hts (.fieldLink RX7 195 "RelatorsBench$Suit" "state" "I") (List.mem_cons_of_mem _ (List.mem_append_left _ (List.mem_append_left _ (List.mem_append_left _ (List.mem_append_left _ (List.mem_append_left _ (List.mem_append_left _ (List.mem_append_left _ (List.mem_of_getElem? (i := 6) rfl)))))))))
  have k_192 := hts (.fieldLink RX7 192 "RelatorsBench$Suit" "unsealedFrom" "I") (List.mem_cons_of_mem _ (List.mem_append_left _ (List.mem_append_left _ (List.mem_append_left _ (List.mem_append_left _ (List.mem_append_left _ (List.mem_append_left _ (List.mem_append_left _ (List.mem_of_getElem? (i := 7) rfl)))))))))
  have k_207 := hts (.fieldLink RX7 207 "RelatorsBench$Suit" "help" "I") (List.mem_cons_of_mem _ (List.mem_append_left _ (List.mem_append_left _ (List.mem_append_left _ (List.mem_append_left _ (List.mem_append_left _ (List.mem_append_left _ (List.mem_append_left _ (List.mem_of_getElem? (i := 8) rfl)))))))))
  have k_224 := hts (.fieldLink RX7 224 "RelatorsBench$Suit" "paid" "I") (List.mem_cons_of_mem _ (List.mem_append_left _ (List.mem_append_left _ (List.mem_append_left _ (List.mem_append_left _ (List.mem_append_left _ (List.mem_append_left _ (List.mem_append_left _ (List.mem_of_getElem? (i := 9) rfl)))))))))
  have k_227 := hts (.fieldLink RX7 227 "RelatorsBench$Suit" "share" "I") (List.mem_cons_of_mem _ (List.mem_append_left _ (List.mem_append_left _ (List.mem_append_left _ (List.mem_append_left _ (List.mem_append_left _ (List.mem_append_left _ (List.mem_append_left _ (List.mem_of_getElem? (i := 10) rfl)))))))))
  have hl := lv_entry ([.ref (ga g 18 0), .int k, .int what]) (n := 4) (Nat.le_of_ble_eq_true rfl)
  rw [lg_entry_eq]
  generalize (lg_sl ([.ref (ga g 18 0), .int k, .int what]) ++ List.replicate (4 - (lg_sl ([.ref (ga g 18 0), .int k, .int what])).length) Slot.unset).toArray = ls at hl ⊢
  have hl : lv_has ls 4 [(0, .ref (ga g 18 0)), (1, .int k), (2, .int what)] := hl
  have hG : fX7_ofSuit S k what = fX7_ofSuit S k what := rfl
  refine lv_aload_n hx hb dX7_ofSuit_0 rfl (lv_at hl 0 rfl) ?_
  refine lv_iload_n hx hb dX7_ofSuit_1 rfl (lv_at hl 1 rfl) ?_
  by_cases c_1 : okI k (S 28 0)
  · have hG := hG.trans (if_pos c_1)
    refine cr_callR (As := [.int k]) (rest := []) hC hI (qX7_suitAt l D cy g S e0 hV k c_1) (cwV 1 hts gX7_ofSuit_X7_suitAt rfl rfl rfl (by decide +kernel) ⟨Nat.le_of_ble_eq_true rfl, Nat.le_of_ble_eq_true rfl⟩) (cr_prev (ci := 8) hC hI 18 0 rfl rfl rfl) rfl hl.1 rfl (Nat.le_of_ble_eq_true rfl) dX7_ofSuit_2 ⟨Nat.zero_le _, Nat.zero_le _⟩ (fun H locs hI => ?_)
    refine lv_astore_n (lv' := [(3, .ref (ga g 8 (ix k))), (0, .ref (ga g 18 0)), (1, .int k), (2, .int what)]) hx hb dX7_ofSuit_5 rfl hl (by decide) rfl (fun ls hl => ?_)
    refine lv_iload_n hx hb dX7_ofSuit_6 rfl (lv_at hl 3 rfl) ?_
    by_cases sw_2_0 : what = 0
    · have hG := hG.trans (if_pos sw_2_0)
      refine lv_tableIn (off := 53) (tgt := 60) hx hb dX7_ofSuit_7 (by rw [sw_2_0]; decide) (by rw [sw_2_0]; decide) (by rw [sw_2_0]; decide) (by decide) ?_
      refine lv_aload_n hx hb dX7_ofSuit_60 rfl (lv_at hl 0 rfl) ?_
      refine cr_get (ci := 6) hC hI 8 (ix k) (hT.v8 (okI_l c_1 hN.n28 (by have := hN.b28; omega))) rfl rfl hinX5 1 (by decide) k_179 (fun _ h => h) (v := .int (S 29 (ix k))) rfl dX7_ofSuit_61 ?_
      refine vx_ret ?_
      refine W.widen (k := 1) (n := 6) (Nat.zero_le _) (Nat.zero_le _) ?_
      exact W.iret (v := (S 29 (ix k))) hx hb hr (fun t9 ht9 hW9 => ⟨⟨S 29 (ix k), (), rfl, ⟨congrArg (fun z => z.2.1) hG, (congrArg Prod.fst hG).symm⟩, by show CH D cy g _ t9.heap; rw [ht9, hG]; exact hI.1⟩, hI.2.F ht9⟩) hI.2.2.2 dX7_ofSuit_64
    have hG := hG.trans (if_neg sw_2_0)
    by_cases sw_2_1 : what = 1
    · have hG := hG.trans (if_pos sw_2_1)
      refine lv_tableIn (off := 58) (tgt := 65) hx hb dX7_ofSuit_7 (by rw [sw_2_1]; decide) (by rw [sw_2_1]; decide) (by rw [sw_2_1]; decide) (by decide) ?_
      refine lv_aload_n hx hb dX7_ofSuit_65 rfl (lv_at hl 0 rfl) ?_
      refine cr_get (ci := 6) hC hI 8 (ix k) (hT.v8 (okI_l c_1 hN.n28 (by have := hN.b28; omega))) rfl rfl hinX5 2 (by decide) k_217 (fun _ h => h) (v := .int (S 30 (ix k))) rfl dX7_ofSuit_66 ?_
      refine vx_ret ?_
      refine W.widen (k := 1) (n := 6) (Nat.zero_le _) (Nat.zero_le _) ?_
      exact W.iret (v := (S 30 (ix k))) hx hb hr (fun t9 ht9 hW9 => ⟨⟨S 30 (ix k), (), rfl, ⟨congrArg (fun z => z.2.1) hG, (congrArg Prod.fst hG).symm⟩, by show CH D cy g _ t9.heap; rw [ht9, hG]; exact hI.1⟩, hI.2.F ht9⟩) hI.2.2.2 dX7_ofSuit_69
    have hG := hG.trans (if_neg sw_2_1)
    by_cases sw_2_2 : what = 2
    · have hG := hG.trans (if_pos sw_2_2)
      refine lv_tableIn (off := 63) (tgt := 70) hx hb dX7_ofSuit_7 (by rw [sw_2_2]; decide) (by rw [sw_2_2]; decide) (by rw [sw_2_2]; decide) (by decide) ?_
      refine lv_aload_n hx hb dX7_ofSuit_70 rfl (lv_at hl 0 rfl) ?_
      refine cr_get (ci := 6) hC hI 8 (ix k) (hT.v8 (okI_l c_1 hN.n28 (by have := hN.b28; omega))) rfl rfl hinX5 6 (by decide) k_185 (fun _ h => h) (v := .int (S 32 (ix k))) rfl dX7_ofSuit_71 ?_
      refine vx_ret ?_
      refine W.widen (k := 1) (n := 6) (Nat.zero_le _) (Nat.zero_le _) ?_
      exact W.iret (v := (S 32 (ix k))) hx hb hr (fun t9 ht9 hW9 => ⟨⟨S 32 (ix k), (), rfl, ⟨congrArg (fun z => z.2.1) hG, (congrArg Prod.fst hG).symm⟩, by show CH D cy g _ t9.heap; rw [ht9, hG]; exact hI.1⟩, hI.2.F ht9⟩) hI.2.2.2 dX7_ofSuit_74
    have hG := hG.trans (if_neg sw_2_2)
    by_cases sw_2_3 : what = 3
    · have hG := hG.trans (if_pos sw_2_3)
      refine lv_tableIn (off := 68) (tgt := 75) hx hb dX7_ofSuit_7 (by rw [sw_2_3]; decide) (by rw [sw_2_3]; decide) (by rw [sw_2_3]; decide) (by decide) ?_
      refine lv_aload_n hx hb dX7_ofSuit_75 rfl (lv_at hl 0 rfl) ?_
      refine cr_get (ci := 6) hC hI 8 (ix k) (hT.v8 (okI_l c_1 hN.n28 (by have := hN.b28; omega))) rfl rfl hinX5 4 (by decide) k_273 (fun _ h => h) (v := .int (S 33 (ix k))) rfl dX7_ofSuit_76 ?_
      refine vx_ret ?_
      refine W.widen (k := 1) (n := 6) (Nat.zero_le _) (Nat.zero_le _) ?_
      exact W.iret (v := (S 33 (ix k))) hx hb hr (fun t9 ht9 hW9 => ⟨⟨S 33 (ix k), (), rfl, ⟨congrArg (fun z => z.2.1) hG, (congrArg Prod.fst hG).symm⟩, by show CH D cy g _ t9.heap; rw [ht9, hG]; exact hI.1⟩, hI.2.F ht9⟩) hI.2.2.2 dX7_ofSuit_79
    have hG := hG.trans (if_neg sw_2_3)
    by_cases sw_2_4 : what = 4
    · have hG := hG.trans (if_pos sw_2_4)
      refine lv_tableIn (off := 73) (tgt := 80) hx hb dX7_ofSuit_7 (by rw [sw_2_4]; decide) (by rw [sw_2_4]; decide) (by rw [sw_2_4]; decide) (by decide) ?_
      refine lv_aload_n hx hb dX7_ofSuit_80 rfl (lv_at hl 0 rfl) ?_
      refine cr_get (ci := 6) hC hI 8 (ix k) (hT.v8 (okI_l c_1 hN.n28 (by have := hN.b28; omega))) rfl rfl hinX5 7 (by decide) k_195 (fun _ h => h) (v := .int (S 34 (ix k))) rfl dX7_ofSuit_81 ?_
      refine vx_ret ?_
      refine W.widen (k := 1) (n := 6) (Nat.zero_le _) (Nat.zero_le _) ?_
      exact W.iret (v := (S 34 (ix k))) hx hb hr (fun t9 ht9 hW9 => ⟨⟨S 34 (ix k), (), rfl, ⟨congrArg (fun z => z.2.1) hG, (congrArg Prod.fst hG).symm⟩, by show CH D cy g _ t9.heap; rw [ht9, hG]; exact hI.1⟩, hI.2.F ht9⟩) hI.2.2.2 dX7_ofSuit_84
    have hG := hG.trans (if_neg sw_2_4)
    by_cases sw_2_5 : what = 5
    · have hG := hG.trans (if_pos sw_2_5)
      refine lv_tableIn (off := 78) (tgt := 85) hx hb dX7_ofSuit_7 (by rw [sw_2_5]; decide) (by rw [sw_2_5]; decide) (by rw [sw_2_5]; decide) (by decide) ?_
      refine lv_aload_n hx hb dX7_ofSuit_85 rfl (lv_at hl 0 rfl) ?_
      refine cr_get (ci := 6) hC hI 8 (ix k) (hT.v8 (okI_l c_1 hN.n28 (by have := hN.b28; omega))) rfl rfl hinX5 10 (by decide) k_192 (fun _ h => h) (v := .int (S 36 (ix k))) rfl dX7_ofSuit_86 ?_
      refine vx_ret ?_
      refine W.widen (k := 1) (n := 6) (Nat.zero_le _) (Nat.zero_le _) ?_
      exact W.iret (v := (S 36 (ix k))) hx hb hr (fun t9 ht9 hW9 => ⟨⟨S 36 (ix k), (), rfl, ⟨congrArg (fun z => z.2.1) hG, (congrArg Prod.fst hG).symm⟩, by show CH D cy g _ t9.heap; rw [ht9, hG]; exact hI.1⟩, hI.2.F ht9⟩) hI.2.2.2 dX7_ofSuit_89
    have hG := hG.trans (if_neg sw_2_5)
    by_cases sw_2_6 : what = 6
    · have hG := hG.trans (if_pos sw_2_6)
      refine lv_tableIn (off := 83) (tgt := 90) hx hb dX7_ofSuit_7 (by rw [sw_2_6]; decide) (by rw [sw_2_6]; decide) (by rw [sw_2_6]; decide) (by decide) ?_
      refine lv_aload_n hx hb dX7_ofSuit_90 rfl (lv_at hl 0 rfl) ?_
      refine cr_get (ci := 6) hC hI 8 (ix k) (hT.v8 (okI_l c_1 hN.n28 (by have := hN.b28; omega))) rfl rfl hinX5 11 (by decide) k_207 (fun _ h => h) (v := .int (S 38 (ix k))) rfl dX7_ofSuit_91 ?_
      refine vx_ret ?_
      refine W.widen (k := 1) (n := 6) (Nat.zero_le _) (Nat.zero_le _) ?_
      exact W.iret (v := (S 38 (ix k))) hx hb hr (fun t9 ht9 hW9 => ⟨⟨S 38 (ix k), (), rfl, ⟨congrArg (fun z => z.2.1) hG, (congrArg Prod.fst hG).symm⟩, by show CH D cy g _ t9.heap; rw [ht9, hG]; exact hI.1⟩, hI.2.F ht9⟩) hI.2.2.2 dX7_ofSuit_94
    have hG := hG.trans (if_neg sw_2_6)
    by_cases sw_2_7 : what = 7
    · have hG := hG.trans (if_pos sw_2_7)
      refine lv_tableIn (off := 88) (tgt := 95) hx hb dX7_ofSuit_7 (by rw [sw_2_7]; decide) (by rw [sw_2_7]; decide) (by rw [sw_2_7]; decide) (by decide) ?_
      refine lv_aload_n hx hb dX7_ofSuit_95 rfl (lv_at hl 0 rfl) ?_
      refine cr_get (ci := 6) hC hI 8 (ix k) (hT.v8 (okI_l c_1 hN.n28 (by have := hN.b28; omega))) rfl rfl hinX5 12 (by decide) k_224 (fun _ h => h) (v := .int (S 39 (ix k))) rfl dX7_ofSuit_96 ?_
      refine vx_ret ?_
      refine W.widen (k := 1) (n := 6) (Nat.zero_le _) (Nat.zero_le _) ?_
      exact W.iret (v := (S 39 (ix k))) hx hb hr (fun t9 ht9 hW9 => ⟨⟨S 39 (ix k), (), rfl, ⟨congrArg (fun z => z.2.1) hG, (congrArg Prod.fst hG).symm⟩, by show CH D cy g _ t9.heap; rw [ht9, hG]; exact hI.1⟩, hI.2.F ht9⟩) hI.2.2.2 dX7_ofSuit_99
    have hG := hG.trans (if_neg sw_2_7)
    by_cases sw_2_8 : what = 8
    · have hG := hG.trans (if_pos sw_2_8)
      refine lv_tableIn (off := 93) (tgt := 100) hx hb dX7_ofSuit_7 (by rw [sw_2_8]; decide) (by rw [sw_2_8]; decide) (by rw [sw_2_8]; decide) (by decide) ?_
      refine lv_aload_n hx hb dX7_ofSuit_100 rfl (lv_at hl 0 rfl) ?_
      refine cr_get (ci := 6) hC hI 8 (ix k) (hT.v8 (okI_l c_1 hN.n28 (by have := hN.b28; omega))) rfl rfl hinX5 13 (by decide) k_227 (fun _ h => h) (v := .int (S 40 (ix k))) rfl dX7_ofSuit_101 ?_
      refine vx_ret ?_
      refine W.widen (k := 1) (n := 6) (Nat.zero_le _) (Nat.zero_le _) ?_
      exact W.iret (v := (S 40 (ix k))) hx hb hr (fun t9 ht9 hW9 => ⟨⟨S 40 (ix k), (), rfl, ⟨congrArg (fun z => z.2.1) hG, (congrArg Prod.fst hG).symm⟩, by show CH D cy g _ t9.heap; rw [ht9, hG]; exact hI.1⟩, hI.2.F ht9⟩) hI.2.2.2 dX7_ofSuit_104
    have hG := hG.trans (if_neg sw_2_8)
    by_cases sw_2_9 : what = 9
    · have hG := hG.trans (if_pos sw_2_9)
      refine lv_tableIn (off := 98) (tgt := 105) hx hb dX7_ofSuit_7 (by rw [sw_2_9]; decide) (by rw [sw_2_9]; decide) (by rw [sw_2_9]; decide) (by decide) ?_
      refine lv_aload_n hx hb dX7_ofSuit_105 rfl (lv_at hl 1 rfl) ?_
      refine lv_aload_n hx hb dX7_ofSuit_106 rfl (lv_at hl 0 rfl) ?_
      refine cr_call (As := [.ref (ga g 8 (ix k))]) (rest := []) hC hI (qX7_hundredthsOf l D cy g S e0 hV (ix k) (okI_l c_1 hN.n28 (by have := hN.b28; omega))) (cwV 1 hts gX7_ofSuit_X7_hundredthsOf rfl rfl rfl (by decide +kernel) ⟨Nat.le_of_ble_eq_true rfl, Nat.le_of_ble_eq_true rfl⟩) (cr_prev (ci := 8) hC hI 18 0 rfl rfl rfl) rfl hl.1 rfl (Nat.le_of_ble_eq_true rfl) dX7_ofSuit_107 ⟨Nat.zero_le _, Nat.zero_le _⟩ (fun H locs hI => ?_)
      refine vx_ret ?_
      refine W.widen (k := 1) (n := 6) (Nat.zero_le _) (Nat.zero_le _) ?_
      exact W.iret (v := (fX7_hundredthsOf S (ix k))) hx hb hr (fun t9 ht9 hW9 => ⟨⟨(fX7_hundredthsOf S (ix k)), (), rfl, ⟨congrArg (fun z => z.2.1) hG, (congrArg Prod.fst hG).symm⟩, by show CH D cy g _ t9.heap; rw [ht9, hG]; exact hI.1⟩, hI.2.F ht9⟩) hI.2.2.2 dX7_ofSuit_110
    have hG := hG.trans (if_neg sw_2_9)
    refine lv_tableOut (tgt := 111) hx hb dX7_ofSuit_7 (w_sw 9 (fun j hj => by rcases (show j = 0 ∨ j = 1 ∨ j = 2 ∨ j = 3 ∨ j = 4 ∨ j = 5 ∨ j = 6 ∨ j = 7 ∨ j = 8 ∨ j = 9 by omega) with rfl | rfl | rfl | rfl | rfl | rfl | rfl | rfl | rfl | rfl <;> assumption)) (by decide) ?_
    exact ct_new (code := 1) (ik := 279) (is := 281) (ic := 283) (text := "nothing such is told of a suit") hC.1 hfl (by decide +kernel) (hts (.classLink RX7 279 (exn 1)) (List.mem_cons_of_mem _ (List.mem_append_left _ (List.mem_append_left _ (List.mem_append_left _ (List.mem_append_left _ (List.mem_append_left _ (List.mem_append_left _ (List.mem_append_left _ (List.mem_of_getElem? (i := 0) rfl)))))))))) (hts (.initialized (exn 1)) (List.mem_cons_of_mem _ (List.mem_append_left _ (List.mem_append_left _ (List.mem_append_left _ (List.mem_append_left _ (List.mem_append_left _ (List.mem_append_left _ (List.mem_append_left _ (List.mem_of_getElem? (i := 1) rfl)))))))))) (List.mem_of_getElem? (i := 3) rfl) (fun w h => hts w (List.mem_cons_of_mem _ (List.mem_append_right _ (h)))) (by decide +kernel) (by decide +kernel) hI.2 hJ (hl.1.trans hml.symm) dX7_ofSuit_111 dX7_ofSuit_114 dX7_ofSuit_115 dX7_ofSuit_118 dX7_ofSuit_121 hno (Nat.le_of_ble_eq_true rfl) (Nat.le_of_ble_eq_true rfl) (Nat.le_of_ble_eq_true rfl) (Nat.le_of_ble_eq_true rfl) hlocks (xf_of hI (by decide) (congrArg (fun z => z.2.1) hG)) (fun _ h => h) (Nat.le_of_ble_eq_true rfl) (Nat.le_of_ble_eq_true rfl)
  · have hG := hG.trans (if_neg c_1)
    exact ct_v (As := [.int k]) (rest := []) hC hI hJ (tX7_suitAt l hfl D cy g S e0 hV k c_1) (cwV 1 hts gX7_ofSuit_X7_suitAt rfl rfl rfl (by decide +kernel) ⟨Nat.le_of_ble_eq_true rfl, Nat.le_of_ble_eq_true rfl⟩) rfl hl.1 rfl (Nat.le_of_ble_eq_true rfl) dX7_ofSuit_2 ⟨Nat.le_of_ble_eq_true rfl, Nat.le_of_ble_eq_true rfl⟩ hno hlocks (xf_of hI (by decide) (congrArg (fun z => z.2.1) hG)) (fun _ h => h) (Nat.le_of_ble_eq_true rfl) (Nat.le_of_ble_eq_true rfl)
set_option maxHeartbeats 4000000 in
set_option maxRecDepth 100000 in
theorem qX7_ofClaim (l : Launch) (hfl : l.stackTraces = false) (A : Nat → Prop) (D : va_G) (cy : Nat → ClassId) (g : CWt) (hL : CL A g) (S : St) (e0 : Nat) (hV : CV e0 g S) (c_ : Int32) (what : Int32) : vx_Met l yX7_ofClaim wsX7_ofClaim ({ frames := 7, cells := 1, slots := 6, locals := 103 } : Room) (va_Pc [.ref (ga g 18 0), .int c_, .int what] (fun U => CP D cy g S U ∧ JT A U U.heap)) (va_Qi (fun (r : Int32) (_ : Unit) => (fX7_ofClaim S c_ what).2.1 = 0 ∧ r = (fX7_ofClaim S c_ what).1) (fun _ t9 => CH D cy g (fX7_ofClaim S c_ what).2.2 t9.heap) A) (XF A D cy g S (fX7_ofClaim S c_ what).2.1) 1 6 A := by
  refine vx_ofW (cc := cX7_ofClaim) (maxL := 4) (ret := (some .int)) (by decide) rfl ?_
  intro p e s m args below meth c s₁ B hml hno hv
  obtain ⟨rfl, ⟨hM, hK⟩, hJ⟩ := hv
  have hx := B.exec
  have hb := B.bytes
  have hr := B.returns
  have hts := atoms_spec (ws := wsX7_ofClaim) B.pre
  have hown : s.vm.findClass RX7 = some m.cls := findClass_of_methodNamed B.named
  have hlocks := B.notSynchronized
  have hC : CC p s m _ c cX7_ofClaim 4 RX7 D cy wsX7_ofClaim := ⟨⟨hx, hb, hml, hown, hts⟩, hK⟩
  have hI : CI A D cy g s S s.heap [] := ⟨hM, va_S.rf⟩
  have hT := hV.2.1
  have hN := hV.2.2.1
  have hQ := hV.2.2.2
  have hb7 := hN.b7
  have hb15 := hN.b15
  have hb23 := hN.b23
  have hb28 := hN.b28
  have hb42 := hN.b42
  have hb64 := hQ.b64
  have k_32 := hts (.fieldLink RX7 32 "RelatorsBench" "claims" "Ljava/util/ArrayList;") (List.mem_cons_of_mem _ (List.mem_append_left _ (List.mem_append_left _ (List.mem_append_left _ (List.mem_append_left _ (List.mem_append_left _ (List.mem_of_getElem? (i := 2) rfl)))))))
  have hinX7 : ∀ w ∈ wsX70, w ∈ wsX7_ofClaim := fun _ h => List.mem_cons_of_mem _ (List.mem_append_left _ (List.mem_append_left _ (List.mem_append_left _ (List.mem_append_right _ (h)))))
  have k_290 := hts (.fieldLink RX7 290 "RelatorsBench$Claim" "scheme" "I") (List.mem_cons_of_mem _ (List.mem_append_left _ (List.mem_append_left _ (List.mem_append_left _ (List.mem_append_left _ (List.mem_append_left _ (List.mem_of_getElem? (i := 4) rfl)))))))
  have hinX0 : ∀ w ∈ wsX00, w ∈ wsX7_ofClaim := fun _ h => List.mem_cons_of_mem _ (List.mem_append_left _ (List.mem_append_left _ (List.mem_append_right _ (h))))
  have k_293 := hts (.fieldLink RX7 293 "RelatorsBench$Claim" "amount" "I") (List.mem_cons_of_mem _ (List.mem_append_left _ (List.mem_append_left _ (List.mem_append_left _ (List.mem_append_left _ (List.mem_append_left _ (List.mem_of_getElem? (i := 5) rfl)))))))
  have k_296 := hts (.fieldLink RX7 296 "RelatorsBench$Claim" "day" "I") (List.mem_cons_of_mem _ (List.mem_append_left _ (List.mem_append_left _ (List.mem_append_left _ (List.mem_append_left _ (List.mem_append_left _ (List.mem_of_getElem? (i := 6) rfl)))))))
  have k_299 := hts (.fieldLink RX7 299 "RelatorsBench$Claim" "paidBy" "I") (List.mem_cons_of_mem _ (List.mem_append_left _ (List.mem_append_left _ (List.mem_append_left _ (List.mem_append_left _ (List.mem_append_left _ (List.mem_of_getElem? (i := 7) rfl)))))))
  have hl := lv_entry ([.ref (ga g 18 0), .int c_, .int what]) (n := 4) (Nat.le_of_ble_eq_true rfl)
  rw [lg_entry_eq]
  generalize (lg_sl ([.ref (ga g 18 0), .int c_, .int what]) ++ List.replicate (4 - (lg_sl ([.ref (ga g 18 0), .int c_, .int what])).length) Slot.unset).toArray = ls at hl ⊢
  have hl : lv_has ls 4 [(0, .ref (ga g 18 0)), (1, .int c_), (2, .int what)] := hl
  have hG : fX7_ofClaim S c_ what = fX7_ofClaim S c_ what := rfl
  refine lv_iload_n hx hb dX7_ofClaim_0 rfl (lv_at hl 1 rfl) ?_
  refine lv_aload_n hx hb dX7_ofClaim_1 rfl (lv_at hl 0 rfl) ?_
  refine cr_get (ci := 8) hC hI 18 0 rfl rfl rfl hinX7 4 (by decide) k_32 (fun _ h => h) (v := .ref (ga g 12 1)) rfl dX7_ofClaim_2 ?_
  refine cr_size (rest := [.int c_]) hC hI 12 1 (show 1 < 4 by decide) rfl (cwV 0 hts gX7_ofClaim_Jx4a65c_size_8abf5 rfl rfl rfl (by decide +kernel) ⟨Nat.le_of_ble_eq_true rfl, Nat.le_of_ble_eq_true rfl⟩) (qAL_size0 l D cy (ga g 12 1) (ga g 13 1) (gm g 12 1) _) hl.1 (Nat.le_of_ble_eq_true rfl) dX7_ofClaim_5 ⟨Nat.zero_le _, Nat.zero_le _⟩ (w := (S 15 0)) rfl (fun H locs hI => ?_)
  by_cases c_1 : okI c_ (S 15 0)
  · have hG := hG.trans (if_pos c_1)
    refine cr_pass (As := [.int c_, .int (S 15 0)]) (rest := []) hC hI (qX7_checkIndex l c_ (S 15 0) c_1) (va_cwS 2 hts gX7_ofClaim_X7_checkIndex rfl rfl rfl (by decide +kernel) ⟨Nat.le_of_ble_eq_true rfl, Nat.le_of_ble_eq_true rfl⟩) rfl hl.1 rfl (Nat.le_of_ble_eq_true rfl) dX7_ofClaim_8 ⟨Nat.zero_le _, Nat.zero_le _⟩ (fun H locs hI => ?_)
    refine lv_aload_n hx hb dX7_ofClaim_11 rfl (lv_at hl 0 rfl) ?_
    refine cr_get (ci := 8) hC hI 18 0 rfl rfl rfl hinX7 4 (by decide) k_32 (fun _ h => h) (v := .ref (ga g 12 1)) rfl dX7_ofClaim_12 ?_
    refine lv_iload_n hx hb dX7_ofClaim_15 rfl (lv_at hl 1 rfl) ?_
    refine cr_get12 (rest := []) hC hI hV 1 (by decide) (okI_e c_1) (n := (ix c_)) (hT.v6 (okI_l c_1 hN.n15 (by have := hN.b15; omega))) (cwV 1 hts gX7_ofClaim_Jx4a65c_get_915e3 rfl rfl rfl (by decide +kernel) ⟨Nat.le_of_ble_eq_true rfl, Nat.le_of_ble_eq_true rfl⟩) hl.1 (Nat.le_of_ble_eq_true rfl) dX7_ofClaim_16 ⟨Nat.zero_le _, Nat.zero_le _⟩ (fun H locs hI => ?_)
    refine cr_cast (ci := 1) hC hI 6 (ix c_) (hT.v6 (okI_l c_1 hN.n15 (by have := hN.b15; omega))) rfl rfl (hts (.classLink RX7 103 "RelatorsBench$Claim") (List.mem_cons_of_mem _ (List.mem_append_left _ (List.mem_append_left _ (List.mem_append_left _ (List.mem_append_left _ (List.mem_append_left _ (List.mem_of_getElem? (i := 3) rfl)))))))) dX7_ofClaim_19 ?_
    refine lv_astore_n (lv' := [(3, .ref (ga g 6 (ix c_))), (0, .ref (ga g 18 0)), (1, .int c_), (2, .int what)]) hx hb dX7_ofClaim_22 rfl hl (by decide) rfl (fun ls hl => ?_)
    refine lv_iload_n hx hb dX7_ofClaim_23 rfl (lv_at hl 3 rfl) ?_
    by_cases sw_2_0 : what = 0
    · have hG := hG.trans (if_pos sw_2_0)
      refine lv_tableIn (off := 32) (tgt := 56) hx hb dX7_ofClaim_24 (by rw [sw_2_0]; decide) (by rw [sw_2_0]; decide) (by rw [sw_2_0]; decide) (by decide) ?_
      refine lv_aload_n hx hb dX7_ofClaim_56 rfl (lv_at hl 0 rfl) ?_
      refine cr_get (ci := 1) hC hI 6 (ix c_) (hT.v6 (okI_l c_1 hN.n15 (by have := hN.b15; omega))) rfl rfl hinX0 0 (by decide) k_290 (fun _ h => h) (v := .int (S 16 (ix c_))) rfl dX7_ofClaim_57 ?_
      refine vx_ret ?_
      refine W.widen (k := 1) (n := 6) (Nat.zero_le _) (Nat.zero_le _) ?_
      exact W.iret (v := (S 16 (ix c_))) hx hb hr (fun t9 ht9 hW9 => ⟨⟨S 16 (ix c_), (), rfl, ⟨congrArg (fun z => z.2.1) hG, (congrArg Prod.fst hG).symm⟩, by show CH D cy g _ t9.heap; rw [ht9, hG]; exact hI.1⟩, hI.2.F ht9⟩) hI.2.2.2 dX7_ofClaim_60
    have hG := hG.trans (if_neg sw_2_0)
    by_cases sw_2_1 : what = 1
    · have hG := hG.trans (if_pos sw_2_1)
      refine lv_tableIn (off := 37) (tgt := 61) hx hb dX7_ofClaim_24 (by rw [sw_2_1]; decide) (by rw [sw_2_1]; decide) (by rw [sw_2_1]; decide) (by decide) ?_
      refine lv_aload_n hx hb dX7_ofClaim_61 rfl (lv_at hl 0 rfl) ?_
      refine cr_get (ci := 1) hC hI 6 (ix c_) (hT.v6 (okI_l c_1 hN.n15 (by have := hN.b15; omega))) rfl rfl hinX0 1 (by decide) k_293 (fun _ h => h) (v := .int (S 17 (ix c_))) rfl dX7_ofClaim_62 ?_
      refine vx_ret ?_
      refine W.widen (k := 1) (n := 6) (Nat.zero_le _) (Nat.zero_le _) ?_
      exact W.iret (v := (S 17 (ix c_))) hx hb hr (fun t9 ht9 hW9 => ⟨⟨S 17 (ix c_), (), rfl, ⟨congrArg (fun z => z.2.1) hG, (congrArg Prod.fst hG).symm⟩, by show CH D cy g _ t9.heap; rw [ht9, hG]; exact hI.1⟩, hI.2.F ht9⟩) hI.2.2.2 dX7_ofClaim_65
    have hG := hG.trans (if_neg sw_2_1)
    by_cases sw_2_2 : what = 2
    · have hG := hG.trans (if_pos sw_2_2)
      refine lv_tableIn (off := 42) (tgt := 66) hx hb dX7_ofClaim_24 (by rw [sw_2_2]; decide) (by rw [sw_2_2]; decide) (by rw [sw_2_2]; decide) (by decide) ?_
      refine lv_aload_n hx hb dX7_ofClaim_66 rfl (lv_at hl 0 rfl) ?_
      refine cr_get (ci := 1) hC hI 6 (ix c_) (hT.v6 (okI_l c_1 hN.n15 (by have := hN.b15; omega))) rfl rfl hinX0 2 (by decide) k_296 (fun _ h => h) (v := .int (S 18 (ix c_))) rfl dX7_ofClaim_67 ?_
      refine vx_ret ?_
      refine W.widen (k := 1) (n := 6) (Nat.zero_le _) (Nat.zero_le _) ?_
      exact W.iret (v := (S 18 (ix c_))) hx hb hr (fun t9 ht9 hW9 => ⟨⟨S 18 (ix c_), (), rfl, ⟨congrArg (fun z => z.2.1) hG, (congrArg Prod.fst hG).symm⟩, by show CH D cy g _ t9.heap; rw [ht9, hG]; exact hI.1⟩, hI.2.F ht9⟩) hI.2.2.2 dX7_ofClaim_70
    have hG := hG.trans (if_neg sw_2_2)
    by_cases sw_2_3 : what = 3
    · have hG := hG.trans (if_pos sw_2_3)
      refine lv_tableIn (off := 47) (tgt := 71) hx hb dX7_ofClaim_24 (by rw [sw_2_3]; decide) (by rw [sw_2_3]; decide) (by rw [sw_2_3]; decide) (by decide) ?_
      refine lv_aload_n hx hb dX7_ofClaim_71 rfl (lv_at hl 0 rfl) ?_
      refine cr_get (ci := 1) hC hI 6 (ix c_) (hT.v6 (okI_l c_1 hN.n15 (by have := hN.b15; omega))) rfl rfl hinX0 3 (by decide) k_299 (fun _ h => h) (v := .int (S 19 (ix c_))) rfl dX7_ofClaim_72 ?_
      refine vx_ret ?_
      refine W.widen (k := 1) (n := 6) (Nat.zero_le _) (Nat.zero_le _) ?_
      exact W.iret (v := (S 19 (ix c_))) hx hb hr (fun t9 ht9 hW9 => ⟨⟨S 19 (ix c_), (), rfl, ⟨congrArg (fun z => z.2.1) hG, (congrArg Prod.fst hG).symm⟩, by show CH D cy g _ t9.heap; rw [ht9, hG]; exact hI.1⟩, hI.2.F ht9⟩) hI.2.2.2 dX7_ofClaim_75
    have hG := hG.trans (if_neg sw_2_3)
    refine lv_tableOut (tgt := 76) hx hb dX7_ofClaim_24 (w_sw 3 (fun j hj => by rcases (show j = 0 ∨ j = 1 ∨ j = 2 ∨ j = 3 by omega) with rfl | rfl | rfl | rfl <;> assumption)) (by decide) ?_
    exact ct_new (code := 1) (ik := 279) (is := 302) (ic := 283) (text := "nothing such is told of a claim") hC.1 hfl (by decide +kernel) (hts (.classLink RX7 279 (exn 1)) (List.mem_cons_of_mem _ (List.mem_append_left _ (List.mem_append_left _ (List.mem_append_left _ (List.mem_append_left _ (List.mem_append_left _ (List.mem_of_getElem? (i := 0) rfl)))))))) (hts (.initialized (exn 1)) (List.mem_cons_of_mem _ (List.mem_append_left _ (List.mem_append_left _ (List.mem_append_left _ (List.mem_append_left _ (List.mem_append_left _ (List.mem_of_getElem? (i := 1) rfl)))))))) (List.mem_of_getElem? (i := 4) rfl) (fun w h => hts w (List.mem_cons_of_mem _ (List.mem_append_right _ (h)))) (by decide +kernel) (by decide +kernel) hI.2 hJ (hl.1.trans hml.symm) dX7_ofClaim_76 dX7_ofClaim_79 dX7_ofClaim_80 dX7_ofClaim_83 dX7_ofClaim_86 hno (Nat.le_of_ble_eq_true rfl) (Nat.le_of_ble_eq_true rfl) (Nat.le_of_ble_eq_true rfl) (Nat.le_of_ble_eq_true rfl) hlocks (xf_of hI (by decide) (congrArg (fun z => z.2.1) hG)) (fun _ h => h) (Nat.le_of_ble_eq_true rfl) (Nat.le_of_ble_eq_true rfl)
  · have hG := hG.trans (if_neg c_1)
    exact ct_s (As := [.int c_, .int (S 15 0)]) (rest := []) hC.1 hI.2 hJ (tX7_checkIndex l hfl c_ (S 15 0) c_1) (va_cwS 2 hts gX7_ofClaim_X7_checkIndex rfl rfl rfl (by decide +kernel) ⟨Nat.le_of_ble_eq_true rfl, Nat.le_of_ble_eq_true rfl⟩) rfl hl.1 rfl (Nat.le_of_ble_eq_true rfl) dX7_ofClaim_8 ⟨Nat.le_of_ble_eq_true rfl, Nat.le_of_ble_eq_true rfl⟩ hno hlocks (xf_of hI (by decide) (congrArg (fun z => z.2.1) hG)) (fun _ h => h) (Nat.le_of_ble_eq_true rfl) (Nat.le_of_ble_eq_true rfl)
set_option maxHeartbeats 4000000 in
set_option maxRecDepth 100000 in
theorem qX7_got (l : Launch) (hfl : l.stackTraces = false) (A : Nat → Prop) (D : va_G) (cy : Nat → ClassId) (g : CWt) (hL : CL A g) (S : St) (e0 : Nat) (hV : CV e0 g S) (t : Int32) (what : Int32) : vx_Met l yX7_got wsX7_got ({ frames := 8, cells := 1, slots := 6, locals := 124 } : Room) (va_Pc [.ref (ga g 18 0), .int t, .int what] (fun U => CP D cy g S U ∧ JT A U U.heap)) (va_Qi (fun (r : Int32) (_ : Unit) => (fX7_got S t what).2.1 = 0 ∧ r = (fX7_got S t what).1) (fun _ t9 => CH D cy g (fX7_got S t what).2.2 t9.heap) A) (XF A D cy g S (fX7_got S t what).2.1) 1 6 A := by
  refine vx_ofW (cc := cX7_got) (maxL := 4) (ret := (some .int)) (by decide) rfl ?_
  intro p e s m args below meth c s₁ B hml hno hv
  obtain ⟨rfl, ⟨hM, hK⟩, hJ⟩ := hv
  have hx := B.exec
  have hb := B.bytes
  have hr := B.returns
  have hts := atoms_spec (ws := wsX7_got) B.pre
  have hown : s.vm.findClass RX7 = some m.cls := findClass_of_methodNamed B.named
  have hlocks := B.notSynchronized
  have hC : CC p s m _ c cX7_got 4 RX7 D cy wsX7_got := ⟨⟨hx, hb, hml, hown, hts⟩, hK⟩
  have hI : CI A D cy g s S s.heap [] := ⟨hM, va_S.rf⟩
  have hT := hV.2.1
  have hN := hV.2.2.1
  have hQ := hV.2.2.2
  have hb7 := hN.b7
  have hb15 := hN.b15
  have hb23 := hN.b23
  have hb28 := hN.b28
  have hb42 := hN.b42
  have hb64 := hQ.b64
  have k_304 := hts (.fieldLink RX7 304 "RelatorsBench$Teller" "ownShares" "I") (List.mem_cons_of_mem _ (List.mem_append_left _ (List.mem_append_left _ (List.mem_append_left _ (List.mem_of_getElem? (i := 2) rfl)))))
  have hinX6 : ∀ w ∈ wsX60, w ∈ wsX7_got := fun _ h => List.mem_cons_of_mem _ (List.mem_append_left _ (List.mem_append_left _ (List.mem_append_right _ (h))))
  have k_307 := hts (.fieldLink RX7 307 "RelatorsBench$Teller" "parts" "I") (List.mem_cons_of_mem _ (List.mem_append_left _ (List.mem_append_left _ (List.mem_append_left _ (List.mem_of_getElem? (i := 3) rfl)))))
  have k_255 := hts (.fieldLink RX7 255 "RelatorsBench$Teller" "awards" "I") (List.mem_cons_of_mem _ (List.mem_append_left _ (List.mem_append_left _ (List.mem_append_left _ (List.mem_of_getElem? (i := 4) rfl)))))
  have hl := lv_entry ([.ref (ga g 18 0), .int t, .int what]) (n := 4) (Nat.le_of_ble_eq_true rfl)
  rw [lg_entry_eq]
  generalize (lg_sl ([.ref (ga g 18 0), .int t, .int what]) ++ List.replicate (4 - (lg_sl ([.ref (ga g 18 0), .int t, .int what])).length) Slot.unset).toArray = ls at hl ⊢
  have hl : lv_has ls 4 [(0, .ref (ga g 18 0)), (1, .int t), (2, .int what)] := hl
  have hG : fX7_got S t what = fX7_got S t what := rfl
  refine lv_aload_n hx hb dX7_got_0 rfl (lv_at hl 0 rfl) ?_
  refine lv_iload_n hx hb dX7_got_1 rfl (lv_at hl 1 rfl) ?_
  by_cases c_1 : okI t 8
  · have hG := hG.trans (if_pos c_1)
    refine cr_callR (As := [.int t]) (rest := []) hC hI (qX7_tellerAt l D cy g S e0 hV t c_1) (cwV 1 hts gX7_got_X7_tellerAt rfl rfl rfl (by decide +kernel) ⟨Nat.le_of_ble_eq_true rfl, Nat.le_of_ble_eq_true rfl⟩) (cr_prev (ci := 8) hC hI 18 0 rfl rfl rfl) rfl hl.1 rfl (Nat.le_of_ble_eq_true rfl) dX7_got_2 ⟨Nat.zero_le _, Nat.zero_le _⟩ (fun H locs hI => ?_)
    refine lv_astore_n (lv' := [(3, .ref (ga g 4 (ix t))), (0, .ref (ga g 18 0)), (1, .int t), (2, .int what)]) hx hb dX7_got_5 rfl hl (by decide) rfl (fun ls hl => ?_)
    refine lv_iload_n hx hb dX7_got_6 rfl (lv_at hl 3 rfl) ?_
    by_cases sw_2_0 : what = 0
    · have hG := hG.trans (if_pos sw_2_0)
      refine lv_tableIn (off := 25) (tgt := 32) hx hb dX7_got_7 (by rw [sw_2_0]; decide) (by rw [sw_2_0]; decide) (by rw [sw_2_0]; decide) (by decide) ?_
      refine lv_aload_n hx hb dX7_got_32 rfl (lv_at hl 0 rfl) ?_
      refine cr_get (ci := 7) hC hI 4 (ix t) (okI_l (N := 8) c_1 (by decide) (by decide)) rfl rfl hinX6 4 (by decide) k_304 (fun _ h => h) (v := .int (S 46 (ix t))) rfl dX7_got_33 ?_
      refine vx_ret ?_
      refine W.widen (k := 1) (n := 6) (Nat.zero_le _) (Nat.zero_le _) ?_
      exact W.iret (v := (S 46 (ix t))) hx hb hr (fun t9 ht9 hW9 => ⟨⟨S 46 (ix t), (), rfl, ⟨congrArg (fun z => z.2.1) hG, (congrArg Prod.fst hG).symm⟩, by show CH D cy g _ t9.heap; rw [ht9, hG]; exact hI.1⟩, hI.2.F ht9⟩) hI.2.2.2 dX7_got_36
    have hG := hG.trans (if_neg sw_2_0)
    by_cases sw_2_1 : what = 1
    · have hG := hG.trans (if_pos sw_2_1)
      refine lv_tableIn (off := 30) (tgt := 37) hx hb dX7_got_7 (by rw [sw_2_1]; decide) (by rw [sw_2_1]; decide) (by rw [sw_2_1]; decide) (by decide) ?_
      refine lv_aload_n hx hb dX7_got_37 rfl (lv_at hl 0 rfl) ?_
      refine cr_get (ci := 7) hC hI 4 (ix t) (okI_l (N := 8) c_1 (by decide) (by decide)) rfl rfl hinX6 5 (by decide) k_307 (fun _ h => h) (v := .int (S 47 (ix t))) rfl dX7_got_38 ?_
      refine vx_ret ?_
      refine W.widen (k := 1) (n := 6) (Nat.zero_le _) (Nat.zero_le _) ?_
      exact W.iret (v := (S 47 (ix t))) hx hb hr (fun t9 ht9 hW9 => ⟨⟨S 47 (ix t), (), rfl, ⟨congrArg (fun z => z.2.1) hG, (congrArg Prod.fst hG).symm⟩, by show CH D cy g _ t9.heap; rw [ht9, hG]; exact hI.1⟩, hI.2.F ht9⟩) hI.2.2.2 dX7_got_41
    have hG := hG.trans (if_neg sw_2_1)
    by_cases sw_2_2 : what = 2
    · have hG := hG.trans (if_pos sw_2_2)
      refine lv_tableIn (off := 35) (tgt := 42) hx hb dX7_got_7 (by rw [sw_2_2]; decide) (by rw [sw_2_2]; decide) (by rw [sw_2_2]; decide) (by decide) ?_
      refine lv_aload_n hx hb dX7_got_42 rfl (lv_at hl 0 rfl) ?_
      refine cr_get (ci := 7) hC hI 4 (ix t) (okI_l (N := 8) c_1 (by decide) (by decide)) rfl rfl hinX6 6 (by decide) k_255 (fun _ h => h) (v := .int (S 48 (ix t))) rfl dX7_got_43 ?_
      refine vx_ret ?_
      refine W.widen (k := 1) (n := 6) (Nat.zero_le _) (Nat.zero_le _) ?_
      exact W.iret (v := (S 48 (ix t))) hx hb hr (fun t9 ht9 hW9 => ⟨⟨S 48 (ix t), (), rfl, ⟨congrArg (fun z => z.2.1) hG, (congrArg Prod.fst hG).symm⟩, by show CH D cy g _ t9.heap; rw [ht9, hG]; exact hI.1⟩, hI.2.F ht9⟩) hI.2.2.2 dX7_got_46
    have hG := hG.trans (if_neg sw_2_2)
    refine lv_tableOut (tgt := 47) hx hb dX7_got_7 (w_sw 2 (fun j hj => by rcases (show j = 0 ∨ j = 1 ∨ j = 2 by omega) with rfl | rfl | rfl <;> assumption)) (by decide) ?_
    exact ct_new (code := 1) (ik := 279) (is := 310) (ic := 283) (text := "nothing such is got by a teller") hC.1 hfl (by decide +kernel) (hts (.classLink RX7 279 (exn 1)) (List.mem_cons_of_mem _ (List.mem_append_left _ (List.mem_append_left _ (List.mem_append_left _ (List.mem_of_getElem? (i := 0) rfl)))))) (hts (.initialized (exn 1)) (List.mem_cons_of_mem _ (List.mem_append_left _ (List.mem_append_left _ (List.mem_append_left _ (List.mem_of_getElem? (i := 1) rfl)))))) (List.mem_of_getElem? (i := 5) rfl) (fun w h => hts w (List.mem_cons_of_mem _ (List.mem_append_right _ (h)))) (by decide +kernel) (by decide +kernel) hI.2 hJ (hl.1.trans hml.symm) dX7_got_47 dX7_got_50 dX7_got_51 dX7_got_54 dX7_got_57 hno (Nat.le_of_ble_eq_true rfl) (Nat.le_of_ble_eq_true rfl) (Nat.le_of_ble_eq_true rfl) (Nat.le_of_ble_eq_true rfl) hlocks (xf_of hI (by decide) (congrArg (fun z => z.2.1) hG)) (fun _ h => h) (Nat.le_of_ble_eq_true rfl) (Nat.le_of_ble_eq_true rfl)
  · have hG := hG.trans (if_neg c_1)
    exact ct_v (As := [.int t]) (rest := []) hC hI hJ (tX7_tellerAt l hfl D cy g S e0 hV t c_1) (cwV 1 hts gX7_got_X7_tellerAt rfl rfl rfl (by decide +kernel) ⟨Nat.le_of_ble_eq_true rfl, Nat.le_of_ble_eq_true rfl⟩) rfl hl.1 rfl (Nat.le_of_ble_eq_true rfl) dX7_got_2 ⟨Nat.le_of_ble_eq_true rfl, Nat.le_of_ble_eq_true rfl⟩ hno hlocks (xf_of hI (by decide) (congrArg (fun z => z.2.1) hG)) (fun _ h => h) (Nat.le_of_ble_eq_true rfl) (Nat.le_of_ble_eq_true rfl)
set_option maxHeartbeats 4000000 in
set_option maxRecDepth 100000 in
theorem qX7_ofFirm (l : Launch) (hfl : l.stackTraces = false) (A : Nat → Prop) (D : va_G) (cy : Nat → ClassId) (g : CWt) (hL : CL A g) (S : St) (e0 : Nat) (hV : CV e0 g S) (f : Int32) (what : Int32) : vx_Met l yX7_ofFirm wsX7_ofFirm ({ frames := 8, cells := 1, slots := 6, locals := 124 } : Room) (va_Pc [.ref (ga g 18 0), .int f, .int what] (fun U => CP D cy g S U ∧ JT A U U.heap)) (va_Qi (fun (r : Int32) (_ : Unit) => (fX7_ofFirm S f what).2.1 = 0 ∧ r = (fX7_ofFirm S f what).1) (fun _ t9 => CH D cy g (fX7_ofFirm S f what).2.2 t9.heap) A) (XF A D cy g S (fX7_ofFirm S f what).2.1) 1 6 A := by
  refine vx_ofW (cc := cX7_ofFirm) (maxL := 4) (ret := (some .int)) (by decide) rfl ?_
  intro p e s m args below meth c s₁ B hml hno hv
  obtain ⟨rfl, ⟨hM, hK⟩, hJ⟩ := hv
  have hx := B.exec
  have hb := B.bytes
  have hr := B.returns
  have hts := atoms_spec (ws := wsX7_ofFirm) B.pre
  have hown : s.vm.findClass RX7 = some m.cls := findClass_of_methodNamed B.named
  have hlocks := B.notSynchronized
  have hC : CC p s m _ c cX7_ofFirm 4 RX7 D cy wsX7_ofFirm := ⟨⟨hx, hb, hml, hown, hts⟩, hK⟩
  have hI : CI A D cy g s S s.heap [] := ⟨hM, va_S.rf⟩
  have hT := hV.2.1
  have hN := hV.2.2.1
  have hQ := hV.2.2.2
  have hb7 := hN.b7
  have hb15 := hN.b15
  have hb23 := hN.b23
  have hb28 := hN.b28
  have hb42 := hN.b42
  have hb64 := hQ.b64
  have k_74 := hts (.fieldLink RX7 74 "RelatorsBench$Firm" "money" "I") (List.mem_cons_of_mem _ (List.mem_append_left _ (List.mem_append_left _ (List.mem_append_left _ (List.mem_of_getElem? (i := 2) rfl)))))
  have hinX2 : ∀ w ∈ wsX20, w ∈ wsX7_ofFirm := fun _ h => List.mem_cons_of_mem _ (List.mem_append_left _ (List.mem_append_left _ (List.mem_append_right _ (h))))
  have k_82 := hts (.fieldLink RX7 82 "RelatorsBench$Firm" "given" "I") (List.mem_cons_of_mem _ (List.mem_append_left _ (List.mem_append_left _ (List.mem_append_left _ (List.mem_of_getElem? (i := 3) rfl)))))
  have k_312 := hts (.fieldLink RX7 312 "RelatorsBench$Firm" "paidBySuits" "I") (List.mem_cons_of_mem _ (List.mem_append_left _ (List.mem_append_left _ (List.mem_append_left _ (List.mem_of_getElem? (i := 4) rfl)))))
  have k_252 := hts (.fieldLink RX7 252 "RelatorsBench$Firm" "paidByAwards" "I") (List.mem_cons_of_mem _ (List.mem_append_left _ (List.mem_append_left _ (List.mem_append_left _ (List.mem_of_getElem? (i := 5) rfl)))))
  have hl := lv_entry ([.ref (ga g 18 0), .int f, .int what]) (n := 4) (Nat.le_of_ble_eq_true rfl)
  rw [lg_entry_eq]
  generalize (lg_sl ([.ref (ga g 18 0), .int f, .int what]) ++ List.replicate (4 - (lg_sl ([.ref (ga g 18 0), .int f, .int what])).length) Slot.unset).toArray = ls at hl ⊢
  have hl : lv_has ls 4 [(0, .ref (ga g 18 0)), (1, .int f), (2, .int what)] := hl
  have hG : fX7_ofFirm S f what = fX7_ofFirm S f what := rfl
  refine lv_aload_n hx hb dX7_ofFirm_0 rfl (lv_at hl 0 rfl) ?_
  refine lv_iload_n hx hb dX7_ofFirm_1 rfl (lv_at hl 1 rfl) ?_
  by_cases c_1 : okI f 6
  · have hG := hG.trans (if_pos c_1)
    refine cr_callR (As := [.int f]) (rest := []) hC hI (qX7_firmAt l D cy g S e0 hV f c_1) (cwV 1 hts gX7_ofFirm_X7_firmAt rfl rfl rfl (by decide +kernel) ⟨Nat.le_of_ble_eq_true rfl, Nat.le_of_ble_eq_true rfl⟩) (cr_prev (ci := 8) hC hI 18 0 rfl rfl rfl) rfl hl.1 rfl (Nat.le_of_ble_eq_true rfl) dX7_ofFirm_2 ⟨Nat.zero_le _, Nat.zero_le _⟩ (fun H locs hI => ?_)
    refine lv_astore_n (lv' := [(3, .ref (ga g 0 (ix f))), (0, .ref (ga g 18 0)), (1, .int f), (2, .int what)]) hx hb dX7_ofFirm_5 rfl hl (by decide) rfl (fun ls hl => ?_)
    refine lv_iload_n hx hb dX7_ofFirm_6 rfl (lv_at hl 3 rfl) ?_
    by_cases sw_2_0 : what = 0
    · have hG := hG.trans (if_pos sw_2_0)
      refine lv_tableIn (off := 29) (tgt := 36) hx hb dX7_ofFirm_7 (by rw [sw_2_0]; decide) (by rw [sw_2_0]; decide) (by rw [sw_2_0]; decide) (by decide) ?_
      refine lv_aload_n hx hb dX7_ofFirm_36 rfl (lv_at hl 0 rfl) ?_
      refine cr_get (ci := 3) hC hI 0 (ix f) (okI_l (N := 6) c_1 (by decide) (by decide)) rfl rfl hinX2 0 (by decide) k_74 (fun _ h => h) (v := .int (S 2 (ix f))) rfl dX7_ofFirm_37 ?_
      refine vx_ret ?_
      refine W.widen (k := 1) (n := 6) (Nat.zero_le _) (Nat.zero_le _) ?_
      exact W.iret (v := (S 2 (ix f))) hx hb hr (fun t9 ht9 hW9 => ⟨⟨S 2 (ix f), (), rfl, ⟨congrArg (fun z => z.2.1) hG, (congrArg Prod.fst hG).symm⟩, by show CH D cy g _ t9.heap; rw [ht9, hG]; exact hI.1⟩, hI.2.F ht9⟩) hI.2.2.2 dX7_ofFirm_40
    have hG := hG.trans (if_neg sw_2_0)
    by_cases sw_2_1 : what = 1
    · have hG := hG.trans (if_pos sw_2_1)
      refine lv_tableIn (off := 34) (tgt := 41) hx hb dX7_ofFirm_7 (by rw [sw_2_1]; decide) (by rw [sw_2_1]; decide) (by rw [sw_2_1]; decide) (by decide) ?_
      refine lv_aload_n hx hb dX7_ofFirm_41 rfl (lv_at hl 0 rfl) ?_
      refine cr_get (ci := 3) hC hI 0 (ix f) (okI_l (N := 6) c_1 (by decide) (by decide)) rfl rfl hinX2 1 (by decide) k_82 (fun _ h => h) (v := .int (S 3 (ix f))) rfl dX7_ofFirm_42 ?_
      refine vx_ret ?_
      refine W.widen (k := 1) (n := 6) (Nat.zero_le _) (Nat.zero_le _) ?_
      exact W.iret (v := (S 3 (ix f))) hx hb hr (fun t9 ht9 hW9 => ⟨⟨S 3 (ix f), (), rfl, ⟨congrArg (fun z => z.2.1) hG, (congrArg Prod.fst hG).symm⟩, by show CH D cy g _ t9.heap; rw [ht9, hG]; exact hI.1⟩, hI.2.F ht9⟩) hI.2.2.2 dX7_ofFirm_45
    have hG := hG.trans (if_neg sw_2_1)
    by_cases sw_2_2 : what = 2
    · have hG := hG.trans (if_pos sw_2_2)
      refine lv_tableIn (off := 39) (tgt := 46) hx hb dX7_ofFirm_7 (by rw [sw_2_2]; decide) (by rw [sw_2_2]; decide) (by rw [sw_2_2]; decide) (by decide) ?_
      refine lv_aload_n hx hb dX7_ofFirm_46 rfl (lv_at hl 0 rfl) ?_
      refine cr_get (ci := 3) hC hI 0 (ix f) (okI_l (N := 6) c_1 (by decide) (by decide)) rfl rfl hinX2 2 (by decide) k_312 (fun _ h => h) (v := .int (S 4 (ix f))) rfl dX7_ofFirm_47 ?_
      refine vx_ret ?_
      refine W.widen (k := 1) (n := 6) (Nat.zero_le _) (Nat.zero_le _) ?_
      exact W.iret (v := (S 4 (ix f))) hx hb hr (fun t9 ht9 hW9 => ⟨⟨S 4 (ix f), (), rfl, ⟨congrArg (fun z => z.2.1) hG, (congrArg Prod.fst hG).symm⟩, by show CH D cy g _ t9.heap; rw [ht9, hG]; exact hI.1⟩, hI.2.F ht9⟩) hI.2.2.2 dX7_ofFirm_50
    have hG := hG.trans (if_neg sw_2_2)
    by_cases sw_2_3 : what = 3
    · have hG := hG.trans (if_pos sw_2_3)
      refine lv_tableIn (off := 44) (tgt := 51) hx hb dX7_ofFirm_7 (by rw [sw_2_3]; decide) (by rw [sw_2_3]; decide) (by rw [sw_2_3]; decide) (by decide) ?_
      refine lv_aload_n hx hb dX7_ofFirm_51 rfl (lv_at hl 0 rfl) ?_
      refine cr_get (ci := 3) hC hI 0 (ix f) (okI_l (N := 6) c_1 (by decide) (by decide)) rfl rfl hinX2 3 (by decide) k_252 (fun _ h => h) (v := .int (S 5 (ix f))) rfl dX7_ofFirm_52 ?_
      refine vx_ret ?_
      refine W.widen (k := 1) (n := 6) (Nat.zero_le _) (Nat.zero_le _) ?_
      exact W.iret (v := (S 5 (ix f))) hx hb hr (fun t9 ht9 hW9 => ⟨⟨S 5 (ix f), (), rfl, ⟨congrArg (fun z => z.2.1) hG, (congrArg Prod.fst hG).symm⟩, by show CH D cy g _ t9.heap; rw [ht9, hG]; exact hI.1⟩, hI.2.F ht9⟩) hI.2.2.2 dX7_ofFirm_55
    have hG := hG.trans (if_neg sw_2_3)
    refine lv_tableOut (tgt := 56) hx hb dX7_ofFirm_7 (w_sw 3 (fun j hj => by rcases (show j = 0 ∨ j = 1 ∨ j = 2 ∨ j = 3 by omega) with rfl | rfl | rfl | rfl <;> assumption)) (by decide) ?_
    exact ct_new (code := 1) (ik := 279) (is := 315) (ic := 283) (text := "nothing such is told of a firm") hC.1 hfl (by decide +kernel) (hts (.classLink RX7 279 (exn 1)) (List.mem_cons_of_mem _ (List.mem_append_left _ (List.mem_append_left _ (List.mem_append_left _ (List.mem_of_getElem? (i := 0) rfl)))))) (hts (.initialized (exn 1)) (List.mem_cons_of_mem _ (List.mem_append_left _ (List.mem_append_left _ (List.mem_append_left _ (List.mem_of_getElem? (i := 1) rfl)))))) (List.mem_of_getElem? (i := 6) rfl) (fun w h => hts w (List.mem_cons_of_mem _ (List.mem_append_right _ (h)))) (by decide +kernel) (by decide +kernel) hI.2 hJ (hl.1.trans hml.symm) dX7_ofFirm_56 dX7_ofFirm_59 dX7_ofFirm_60 dX7_ofFirm_63 dX7_ofFirm_66 hno (Nat.le_of_ble_eq_true rfl) (Nat.le_of_ble_eq_true rfl) (Nat.le_of_ble_eq_true rfl) (Nat.le_of_ble_eq_true rfl) hlocks (xf_of hI (by decide) (congrArg (fun z => z.2.1) hG)) (fun _ h => h) (Nat.le_of_ble_eq_true rfl) (Nat.le_of_ble_eq_true rfl)
  · have hG := hG.trans (if_neg c_1)
    exact ct_v (As := [.int f]) (rest := []) hC hI hJ (tX7_firmAt l hfl D cy g S e0 hV f c_1) (cwV 1 hts gX7_ofFirm_X7_firmAt rfl rfl rfl (by decide +kernel) ⟨Nat.le_of_ble_eq_true rfl, Nat.le_of_ble_eq_true rfl⟩) rfl hl.1 rfl (Nat.le_of_ble_eq_true rfl) dX7_ofFirm_2 ⟨Nat.le_of_ble_eq_true rfl, Nat.le_of_ble_eq_true rfl⟩ hno hlocks (xf_of hI (by decide) (congrArg (fun z => z.2.1) hG)) (fun _ h => h) (Nat.le_of_ble_eq_true rfl) (Nat.le_of_ble_eq_true rfl)
set_option maxHeartbeats 4000000 in
set_option maxRecDepth 100000 in
theorem qX7_all (l : Launch) (hfl : l.stackTraces = false) (A : Nat → Prop) (D : va_G) (cy : Nat → ClassId) (g : CWt) (hL : CL A g) (S : St) (e0 : Nat) (hV : CV e0 g S) (what : Int32) : vx_Met l yX7_all wsX7_all ({ frames := 6, cells := 1, slots := 6, locals := 86 } : Room) (va_Pc [.ref (ga g 18 0), .int what] (fun U => CP D cy g S U ∧ JT A U U.heap)) (va_Qi (fun (r : Int32) (_ : Unit) => (fX7_all S what).2.1 = 0 ∧ r = (fX7_all S what).1) (fun _ t9 => CH D cy g (fX7_all S what).2.2 t9.heap) A) (XF A D cy g S (fX7_all S what).2.1) 1 6 A := by
  refine vx_ofW (cc := cX7_all) (maxL := 2) (ret := (some .int)) (by decide) rfl ?_
  intro p e s m args below meth c s₁ B hml hno hv
  obtain ⟨rfl, ⟨hM, hK⟩, hJ⟩ := hv
  have hx := B.exec
  have hb := B.bytes
  have hr := B.returns
  have hts := atoms_spec (ws := wsX7_all) B.pre
  have hown : s.vm.findClass RX7 = some m.cls := findClass_of_methodNamed B.named
  have hlocks := B.notSynchronized
  have hC : CC p s m _ c cX7_all 2 RX7 D cy wsX7_all := ⟨⟨hx, hb, hml, hown, hts⟩, hK⟩
  have hI : CI A D cy g s S s.heap [] := ⟨hM, va_S.rf⟩
  have hT := hV.2.1
  have hN := hV.2.2.1
  have hQ := hV.2.2.2
  have hb7 := hN.b7
  have hb15 := hN.b15
  have hb23 := hN.b23
  have hb28 := hN.b28
  have hb42 := hN.b42
  have hb64 := hQ.b64
  have k_51 := hts (.fieldLink RX7 51 "RelatorsBench" "today" "I") (List.mem_cons_of_mem _ (List.mem_append_left _ (List.mem_append_left _ (List.mem_append_left _ (List.mem_append_left _ (List.mem_append_left _ (List.mem_of_getElem? (i := 2) rfl)))))))
  have hinX7 : ∀ w ∈ wsX70, w ∈ wsX7_all := fun _ h => List.mem_cons_of_mem _ (List.mem_append_left _ (List.mem_append_left _ (List.mem_append_left _ (List.mem_append_right _ (h)))))
  have k_54 := hts (.fieldLink RX7 54 "RelatorsBench" "stateGot" "I") (List.mem_cons_of_mem _ (List.mem_append_left _ (List.mem_append_left _ (List.mem_append_left _ (List.mem_append_left _ (List.mem_append_left _ (List.mem_of_getElem? (i := 3) rfl)))))))
  have hl := lv_entry ([.ref (ga g 18 0), .int what]) (n := 2) (Nat.le_of_ble_eq_true rfl)
  rw [lg_entry_eq]
  generalize (lg_sl ([.ref (ga g 18 0), .int what]) ++ List.replicate (2 - (lg_sl ([.ref (ga g 18 0), .int what])).length) Slot.unset).toArray = ls at hl ⊢
  have hl : lv_has ls 2 [(0, .ref (ga g 18 0)), (1, .int what)] := hl
  have hG : fX7_all S what = fX7_all S what := rfl
  refine lv_iload_n hx hb dX7_all_0 rfl (lv_at hl 1 rfl) ?_
  by_cases sw_1_0 : what = 0
  · have hG := hG.trans (if_pos sw_1_0)
    refine lv_tableIn (off := 31) (tgt := 32) hx hb dX7_all_1 (by rw [sw_1_0]; decide) (by rw [sw_1_0]; decide) (by rw [sw_1_0]; decide) (by decide) ?_
    refine lv_aload_n hx hb dX7_all_32 rfl (lv_at hl 0 rfl) ?_
    refine cr_get (ci := 8) hC hI 18 0 rfl rfl rfl hinX7 10 (by decide) k_51 (fun _ h => h) (v := .int (S 1 0)) rfl dX7_all_33 ?_
    refine vx_ret ?_
    refine W.widen (k := 1) (n := 6) (Nat.zero_le _) (Nat.zero_le _) ?_
    exact W.iret (v := (S 1 0)) hx hb hr (fun t9 ht9 hW9 => ⟨⟨S 1 0, (), rfl, ⟨congrArg (fun z => z.2.1) hG, (congrArg Prod.fst hG).symm⟩, by show CH D cy g _ t9.heap; rw [ht9, hG]; exact hI.1⟩, hI.2.F ht9⟩) hI.2.2.2 dX7_all_36
  have hG := hG.trans (if_neg sw_1_0)
  by_cases sw_1_1 : what = 1
  · have hG := hG.trans (if_pos sw_1_1)
    refine lv_tableIn (off := 36) (tgt := 37) hx hb dX7_all_1 (by rw [sw_1_1]; decide) (by rw [sw_1_1]; decide) (by rw [sw_1_1]; decide) (by decide) ?_
    refine lv_aload_n hx hb dX7_all_37 rfl (lv_at hl 0 rfl) ?_
    refine cr_get (ci := 8) hC hI 18 0 rfl rfl rfl hinX7 11 (by decide) k_54 (fun _ h => h) (v := .int (S 6 0)) rfl dX7_all_38 ?_
    refine vx_ret ?_
    refine W.widen (k := 1) (n := 6) (Nat.zero_le _) (Nat.zero_le _) ?_
    exact W.iret (v := (S 6 0)) hx hb hr (fun t9 ht9 hW9 => ⟨⟨S 6 0, (), rfl, ⟨congrArg (fun z => z.2.1) hG, (congrArg Prod.fst hG).symm⟩, by show CH D cy g _ t9.heap; rw [ht9, hG]; exact hI.1⟩, hI.2.F ht9⟩) hI.2.2.2 dX7_all_41
  have hG := hG.trans (if_neg sw_1_1)
  by_cases sw_1_2 : what = 2
  · have hG := hG.trans (if_pos sw_1_2)
    refine lv_tableIn (off := 41) (tgt := 42) hx hb dX7_all_1 (by rw [sw_1_2]; decide) (by rw [sw_1_2]; decide) (by rw [sw_1_2]; decide) (by decide) ?_
    refine lv_aload_n hx hb dX7_all_42 rfl (lv_at hl 0 rfl) ?_
    refine lv_aload_n hx hb dX7_all_43 rfl (lv_at hl 0 rfl) ?_
    refine cr_get (ci := 8) hC hI 18 0 rfl rfl rfl hinX7 10 (by decide) k_51 (fun _ h => h) (v := .int (S 1 0)) rfl dX7_all_44 ?_
    refine cr_call (As := [.int (S 1 0)]) (rest := []) hC hI (qX7_publicBy l D cy g S e0 hV (S 1 0)) (cwV 1 hts gX7_all_X7_publicBy rfl rfl rfl (by decide +kernel) ⟨Nat.le_of_ble_eq_true rfl, Nat.le_of_ble_eq_true rfl⟩) (cr_prev (ci := 8) hC hI 18 0 rfl rfl rfl) rfl hl.1 rfl (Nat.le_of_ble_eq_true rfl) dX7_all_47 ⟨Nat.zero_le _, Nat.zero_le _⟩ (fun H locs hI => ?_)
    refine cr_callS (As := [.int (fX7_publicBy S (S 1 0))]) (rest := []) hC hI (qbc l (fX7_publicBy S (S 1 0))) (va_cwS 1 hts gX7_all_J6_bitCount_0f7a4 rfl rfl rfl (by decide +kernel) ⟨Nat.le_of_ble_eq_true rfl, Nat.le_of_ble_eq_true rfl⟩) rfl hl.1 rfl (Nat.le_of_ble_eq_true rfl) dX7_all_50 ⟨Nat.zero_le _, Nat.zero_le _⟩ (fun H locs hI => ?_)
    refine vx_ret ?_
    refine W.widen (k := 1) (n := 6) (Nat.zero_le _) (Nat.zero_le _) ?_
    exact W.iret (v := (fbc (fX7_publicBy S (S 1 0)))) hx hb hr (fun t9 ht9 hW9 => ⟨⟨(fbc (fX7_publicBy S (S 1 0))), (), rfl, ⟨congrArg (fun z => z.2.1) hG, (congrArg Prod.fst hG).symm⟩, by show CH D cy g _ t9.heap; rw [ht9, hG]; exact hI.1⟩, hI.2.F ht9⟩) hI.2.2.2 dX7_all_53
  have hG := hG.trans (if_neg sw_1_2)
  by_cases sw_1_3 : what = 3
  · have hG := hG.trans (if_pos sw_1_3)
    refine lv_tableIn (off := 53) (tgt := 54) hx hb dX7_all_1 (by rw [sw_1_3]; decide) (by rw [sw_1_3]; decide) (by rw [sw_1_3]; decide) (by decide) ?_
    refine lv_aload_n hx hb dX7_all_54 rfl (lv_at hl 0 rfl) ?_
    refine cr_call (As := []) (rest := []) hC hI (qX7_sealedSuits l D cy g S e0 hV) (cwV 0 hts gX7_all_X7_sealedSuits rfl rfl rfl (by decide +kernel) ⟨Nat.le_of_ble_eq_true rfl, Nat.le_of_ble_eq_true rfl⟩) (cr_prev (ci := 8) hC hI 18 0 rfl rfl rfl) rfl hl.1 rfl (Nat.le_of_ble_eq_true rfl) dX7_all_55 ⟨Nat.zero_le _, Nat.zero_le _⟩ (fun H locs hI => ?_)
    refine vx_ret ?_
    refine W.widen (k := 1) (n := 6) (Nat.zero_le _) (Nat.zero_le _) ?_
    exact W.iret (v := (fX7_sealedSuits S)) hx hb hr (fun t9 ht9 hW9 => ⟨⟨(fX7_sealedSuits S), (), rfl, ⟨congrArg (fun z => z.2.1) hG, (congrArg Prod.fst hG).symm⟩, by show CH D cy g _ t9.heap; rw [ht9, hG]; exact hI.1⟩, hI.2.F ht9⟩) hI.2.2.2 dX7_all_58
  have hG := hG.trans (if_neg sw_1_3)
  refine lv_tableOut (tgt := 59) hx hb dX7_all_1 (w_sw 3 (fun j hj => by rcases (show j = 0 ∨ j = 1 ∨ j = 2 ∨ j = 3 by omega) with rfl | rfl | rfl | rfl <;> assumption)) (by decide) ?_
  exact ct_new (code := 1) (ik := 279) (is := 320) (ic := 283) (text := "nothing such is told of the whole") hC.1 hfl (by decide +kernel) (hts (.classLink RX7 279 (exn 1)) (List.mem_cons_of_mem _ (List.mem_append_left _ (List.mem_append_left _ (List.mem_append_left _ (List.mem_append_left _ (List.mem_append_left _ (List.mem_of_getElem? (i := 0) rfl)))))))) (hts (.initialized (exn 1)) (List.mem_cons_of_mem _ (List.mem_append_left _ (List.mem_append_left _ (List.mem_append_left _ (List.mem_append_left _ (List.mem_append_left _ (List.mem_of_getElem? (i := 1) rfl)))))))) (List.mem_of_getElem? (i := 7) rfl) (fun w h => hts w (List.mem_cons_of_mem _ (List.mem_append_right _ (h)))) (by decide +kernel) (by decide +kernel) hI.2 hJ (hl.1.trans hml.symm) dX7_all_59 dX7_all_62 dX7_all_63 dX7_all_66 dX7_all_69 hno (Nat.le_of_ble_eq_true rfl) (Nat.le_of_ble_eq_true rfl) (Nat.le_of_ble_eq_true rfl) (Nat.le_of_ble_eq_true rfl) hlocks (xf_of hI (by decide) (congrArg (fun z => z.2.1) hG)) (fun _ h => h) (Nat.le_of_ble_eq_true rfl) (Nat.le_of_ble_eq_true rfl)
