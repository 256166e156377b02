/-! readers of the class, walked -/
set_option maxHeartbeats 4000000 in
set_option maxRecDepth 100000 in
theorem qX7_firmAt (l : Launch) (D : va_G) (cy : Nat → ClassId) (g : CWt) (S : St) (e0 : Nat) (hV : CV e0 g S) (f : Int32) (h : okI f 6) : CRef l D cy g S yX7_firmAt wsX7_firmAt ({ frames := 1, cells := 0, slots := 0, locals := 21 } : Room) [.ref (ga g 18 0), .int f] (ga g 0 (ix f)) := by
  refine Met.ofW (cc := cX7_firmAt) (maxL := 2) (ret := (some (.object "RelatorsBench$Firm"))) (by decide) rfl ?_
  intro p e s m args below meth c s₁ B hml hv
  obtain ⟨rfl, hM, hK⟩ := hv
  have hx := B.exec
  have hb := B.bytes
  have hr := B.returns
  have hts := atoms_spec (ws := wsX7_firmAt) B.pre
  have hown : s.vm.findClass RX7 = some m.cls := findClass_of_methodNamed B.named
  have hlocks := B.notSynchronized
  have hC : CC p s m _ c cX7_firmAt 2 RX7 D cy wsX7_firmAt := ⟨⟨hx, hb, hml, hown, hts⟩, hK⟩
  have hI : CI (fun _ => False) D cy g s S s.heap [] := ⟨hM, va_S.rf⟩
  have hT := hV.2.1
  have hN := hV.2.2.1
  have hQ := hV.2.2.2
  have hb7 := hN.b7
  have hb15 := hN.b15
  have hb23 := hN.b23
  have hb28 := hN.b28
  have hb42 := hN.b42
  have hb64 := hQ.b64
  have k_11 := hts (.fieldLink RX7 11 "RelatorsBench" "firms" "[LRelatorsBench$Firm;") (List.mem_cons_of_mem _ (List.mem_append_left _ (List.mem_append_left _ (List.mem_of_getElem? (i := 0) rfl))))
  have hinX7 : ∀ w ∈ wsX70, w ∈ wsX7_firmAt := fun _ h => List.mem_cons_of_mem _ (List.mem_append_left _ (List.mem_append_right _ (h)))
  have hl := lv_entry ([.ref (ga g 18 0), .int f]) (n := 2) (Nat.le_of_ble_eq_true rfl)
  rw [lg_entry_eq]
  generalize (lg_sl ([.ref (ga g 18 0), .int f]) ++ List.replicate (2 - (lg_sl ([.ref (ga g 18 0), .int f])).length) Slot.unset).toArray = ls at hl ⊢
  have hl : lv_has ls 2 [(0, .ref (ga g 18 0)), (1, .int f)] := hl
  refine lv_iload_n hx hb dX7_firmAt_0 rfl (lv_at hl 1 rfl) ?_
  refine lv_bipush (v := 6) hx hb dX7_firmAt_1 (by decide) ?_
  refine cr_pass (As := [.int f, .int 6]) (rest := []) hC hI (qX7_checkIndex l f 6 h) (va_cwS 2 hts gX7_firmAt_X7_checkIndex rfl rfl rfl (by decide +kernel) ⟨Nat.le_of_ble_eq_true rfl, Nat.le_of_ble_eq_true rfl⟩) rfl hl.1 rfl (Nat.le_of_ble_eq_true rfl) dX7_firmAt_3 ⟨Nat.zero_le _, Nat.zero_le _⟩ (fun H locs hI => ?_)
  refine lv_aload_n hx hb dX7_firmAt_6 rfl (lv_at hl 0 rfl) ?_
  refine cr_get (ci := 8) hC hI 18 0 rfl rfl rfl hinX7 0 (by decide) k_11 (fun _ h => h) (v := .ref (ga g 14 0)) rfl dX7_firmAt_7 ?_
  refine lv_iload_n hx hb dX7_firmAt_10 rfl (lv_at hl 1 rfl) ?_
  refine cr_aaldF hC hI (okI_in (N := 6) h (by decide) (by decide)) (n := (ix f)) rfl dX7_firmAt_11 ?_
  exact W.aret (v := .ref (ga g 0 (ix f))) hx hb hr (Or.inl ⟨_, rfl⟩) (Or.inr ⟨_, rfl⟩) (fun t9 ht9 hW9 => ⟨⟨(), ga g 0 (ix f), rfl, trivial, rfl⟩, hI.2.F ht9⟩) hI.2.2.2 dX7_firmAt_12
set_option maxHeartbeats 4000000 in
set_option maxRecDepth 100000 in
theorem tX7_firmAt (l : Launch) (hfl : l.stackTraces = false) (D : va_G) (cy : Nat → ClassId) (g : CWt) (S : St) (e0 : Nat) (hV : CV e0 g S) (f : Int32) (h : ¬ okI f 6) : CThr l D cy g S yX7_firmAt wsX7_firmAt ({ frames := 7, cells := 1, slots := 6, locals := 103 } : Room) [.ref (ga g 18 0), .int f] 1 := by
  refine vx_ofW (cc := cX7_firmAt) (maxL := 2) (ret := (some (.object "RelatorsBench$Firm"))) (by decide) rfl ?_
  intro p e s m args below meth c s₁ B hml hno hv
  obtain ⟨rfl, ⟨hM, hK⟩, hJ⟩ := hv
  have hx := B.exec
  have hb := B.bytes
  have hr := B.returns
  have hts := atoms_spec (ws := wsX7_firmAt) B.pre
  have hown : s.vm.findClass RX7 = some m.cls := findClass_of_methodNamed B.named
  have hlocks := B.notSynchronized
  have hC : CC p s m _ c cX7_firmAt 2 RX7 D cy wsX7_firmAt := ⟨⟨hx, hb, hml, hown, hts⟩, hK⟩
  have hI : CI (fun _ => False) D cy g s S s.heap [] := ⟨hM, va_S.rf⟩
  have hT := hV.2.1
  have hN := hV.2.2.1
  have hQ := hV.2.2.2
  have hb7 := hN.b7
  have hb15 := hN.b15
  have hb23 := hN.b23
  have hb28 := hN.b28
  have hb42 := hN.b42
  have hb64 := hQ.b64
  have hl := lv_entry ([.ref (ga g 18 0), .int f]) (n := 2) (Nat.le_of_ble_eq_true rfl)
  rw [lg_entry_eq]
  generalize (lg_sl ([.ref (ga g 18 0), .int f]) ++ List.replicate (2 - (lg_sl ([.ref (ga g 18 0), .int f])).length) Slot.unset).toArray = ls at hl ⊢
  have hl : lv_has ls 2 [(0, .ref (ga g 18 0)), (1, .int f)] := hl
  refine lv_iload_n hx hb dX7_firmAt_0 rfl (lv_at hl 1 rfl) ?_
  refine lv_bipush (v := 6) hx hb dX7_firmAt_1 (by decide) ?_
  exact ct_s (As := [.int f, .int 6]) (rest := []) hC.1 hI.2 hJ (tX7_checkIndex l hfl f 6 h) (va_cwS 2 hts gX7_firmAt_X7_checkIndex rfl rfl rfl (by decide +kernel) ⟨Nat.le_of_ble_eq_true rfl, Nat.le_of_ble_eq_true rfl⟩) rfl hl.1 rfl (Nat.le_of_ble_eq_true rfl) dX7_firmAt_3 ⟨Nat.le_of_ble_eq_true rfl, Nat.le_of_ble_eq_true rfl⟩ hno hlocks (xt_of hI.2) (fun _ h => h) (Nat.le_of_ble_eq_true rfl) (Nat.le_of_ble_eq_true rfl)
set_option maxHeartbeats 4000000 in
set_option maxRecDepth 100000 in
theorem qX7_tellerAt (l : Launch) (D : va_G) (cy : Nat → ClassId) (g : CWt) (S : St) (e0 : Nat) (hV : CV e0 g S) (f : Int32) (h : okI f 8) : CRef l D cy g S yX7_tellerAt wsX7_tellerAt ({ frames := 1, cells := 0, slots := 0, locals := 21 } : Room) [.ref (ga g 18 0), .int f] (ga g 4 (ix f)) := by
  refine Met.ofW (cc := cX7_tellerAt) (maxL := 2) (ret := (some (.object "RelatorsBench$Teller"))) (by decide) rfl ?_
  intro p e s m args below meth c s₁ B hml hv
  obtain ⟨rfl, hM, hK⟩ := hv
  have hx := B.exec
  have hb := B.bytes
  have hr := B.returns
  have hts := atoms_spec (ws := wsX7_tellerAt) B.pre
  have hown : s.vm.findClass RX7 = some m.cls := findClass_of_methodNamed B.named
  have hlocks := B.notSynchronized
  have hC : CC p s m _ c cX7_tellerAt 2 RX7 D cy wsX7_tellerAt := ⟨⟨hx, hb, hml, hown, hts⟩, hK⟩
  have hI : CI (fun _ => False) D cy g s S s.heap [] := ⟨hM, va_S.rf⟩
  have hT := hV.2.1
  have hN := hV.2.2.1
  have hQ := hV.2.2.2
  have hb7 := hN.b7
  have hb15 := hN.b15
  have hb23 := hN.b23
  have hb28 := hN.b28
  have hb42 := hN.b42
  have hb64 := hQ.b64
  have k_17 := hts (.fieldLink RX7 17 "RelatorsBench" "tellers" "[LRelatorsBench$Teller;") (List.mem_cons_of_mem _ (List.mem_append_left _ (List.mem_append_left _ (List.mem_of_getElem? (i := 0) rfl))))
  have hinX7 : ∀ w ∈ wsX70, w ∈ wsX7_tellerAt := fun _ h => List.mem_cons_of_mem _ (List.mem_append_left _ (List.mem_append_right _ (h)))
  have hl := lv_entry ([.ref (ga g 18 0), .int f]) (n := 2) (Nat.le_of_ble_eq_true rfl)
  rw [lg_entry_eq]
  generalize (lg_sl ([.ref (ga g 18 0), .int f]) ++ List.replicate (2 - (lg_sl ([.ref (ga g 18 0), .int f])).length) Slot.unset).toArray = ls at hl ⊢
  have hl : lv_has ls 2 [(0, .ref (ga g 18 0)), (1, .int f)] := hl
  refine lv_iload_n hx hb dX7_tellerAt_0 rfl (lv_at hl 1 rfl) ?_
  refine lv_bipush (v := 8) hx hb dX7_tellerAt_1 (by decide) ?_
  refine cr_pass (As := [.int f, .int 8]) (rest := []) hC hI (qX7_checkIndex l f 8 h) (va_cwS 2 hts gX7_tellerAt_X7_checkIndex rfl rfl rfl (by decide +kernel) ⟨Nat.le_of_ble_eq_true rfl, Nat.le_of_ble_eq_true rfl⟩) rfl hl.1 rfl (Nat.le_of_ble_eq_true rfl) dX7_tellerAt_3 ⟨Nat.zero_le _, Nat.zero_le _⟩ (fun H locs hI => ?_)
  refine lv_aload_n hx hb dX7_tellerAt_6 rfl (lv_at hl 0 rfl) ?_
  refine cr_get (ci := 8) hC hI 18 0 rfl rfl rfl hinX7 1 (by decide) k_17 (fun _ h => h) (v := .ref (ga g 15 0)) rfl dX7_tellerAt_7 ?_
  refine lv_iload_n hx hb dX7_tellerAt_10 rfl (lv_at hl 1 rfl) ?_
  refine cr_aaldT hC hI (okI_in (N := 8) h (by decide) (by decide)) (n := (ix f)) rfl dX7_tellerAt_11 ?_
  exact W.aret (v := .ref (ga g 4 (ix f))) hx hb hr (Or.inl ⟨_, rfl⟩) (Or.inr ⟨_, rfl⟩) (fun t9 ht9 hW9 => ⟨⟨(), ga g 4 (ix f), rfl, trivial, rfl⟩, hI.2.F ht9⟩) hI.2.2.2 dX7_tellerAt_12
set_option maxHeartbeats 4000000 in
set_option maxRecDepth 100000 in
theorem tX7_tellerAt (l : Launch) (hfl : l.stackTraces = false) (D : va_G) (cy : Nat → ClassId) (g : CWt) (S : St) (e0 : Nat) (hV : CV e0 g S) (f : Int32) (h : ¬ okI f 8) : CThr l D cy g S yX7_tellerAt wsX7_tellerAt ({ frames := 7, cells := 1, slots := 6, locals := 103 } : Room) [.ref (ga g 18 0), .int f] 1 := by
  refine vx_ofW (cc := cX7_tellerAt) (maxL := 2) (ret := (some (.object "RelatorsBench$Teller"))) (by decide) rfl ?_
  intro p e s m args below meth c s₁ B hml hno hv
  obtain ⟨rfl, ⟨hM, hK⟩, hJ⟩ := hv
  have hx := B.exec
  have hb := B.bytes
  have hr := B.returns
  have hts := atoms_spec (ws := wsX7_tellerAt) B.pre
  have hown : s.vm.findClass RX7 = some m.cls := findClass_of_methodNamed B.named
  have hlocks := B.notSynchronized
  have hC : CC p s m _ c cX7_tellerAt 2 RX7 D cy wsX7_tellerAt := ⟨⟨hx, hb, hml, hown, hts⟩, hK⟩
  have hI : CI (fun _ => False) D cy g s S s.heap [] := ⟨hM, va_S.rf⟩
  have hT := hV.2.1
  have hN := hV.2.2.1
  have hQ := hV.2.2.2
  have hb7 := hN.b7
  have hb15 := hN.b15
  have hb23 := hN.b23
  have hb28 := hN.b28
  have hb42 := hN.b42
  have hb64 := hQ.b64
  have hl := lv_entry ([.ref (ga g 18 0), .int f]) (n := 2) (Nat.le_of_ble_eq_true rfl)
  rw [lg_entry_eq]
  generalize (lg_sl ([.ref (ga g 18 0), .int f]) ++ List.replicate (2 - (lg_sl ([.ref (ga g 18 0), .int f])).length) Slot.unset).toArray = ls at hl ⊢
  have hl : lv_has ls 2 [(0, .ref (ga g 18 0)), (1, .int f)] := hl
  refine lv_iload_n hx hb dX7_tellerAt_0 rfl (lv_at hl 1 rfl) ?_
  refine lv_bipush (v := 8) hx hb dX7_tellerAt_1 (by decide) ?_
  exact ct_s (As := [.int f, .int 8]) (rest := []) hC.1 hI.2 hJ (tX7_checkIndex l hfl f 8 h) (va_cwS 2 hts gX7_tellerAt_X7_checkIndex rfl rfl rfl (by decide +kernel) ⟨Nat.le_of_ble_eq_true rfl, Nat.le_of_ble_eq_true rfl⟩) rfl hl.1 rfl (Nat.le_of_ble_eq_true rfl) dX7_tellerAt_3 ⟨Nat.le_of_ble_eq_true rfl, Nat.le_of_ble_eq_true rfl⟩ hno hlocks (xt_of hI.2) (fun _ h => h) (Nat.le_of_ble_eq_true rfl) (Nat.le_of_ble_eq_true rfl)
set_option maxHeartbeats 4000000 in
set_option maxRecDepth 100000 in
theorem qX7_schemeAt (l : Launch) (D : va_G) (cy : Nat → ClassId) (g : CWt) (S : St) (e0 : Nat) (hV : CV e0 g S) (f : Int32) (h : okI f (S 7 0)) : CRef l D cy g S yX7_schemeAt wsX7_schemeAt ({ frames := 3, cells := 0, slots := 0, locals := 64 } : Room) [.ref (ga g 18 0), .int f] (ga g 5 (ix f)) := by
  refine Met.ofW (cc := cX7_schemeAt) (maxL := 2) (ret := (some (.object "RelatorsBench$Scheme"))) (by decide) rfl ?_
  intro p e s m args below meth c s₁ B hml hv
  obtain ⟨rfl, hM, hK⟩ := hv
  have hx := B.exec
  have hb := B.bytes
  have hr := B.returns
  have hts := atoms_spec (ws := wsX7_schemeAt) B.pre
  have hown : s.vm.findClass RX7 = some m.cls := findClass_of_methodNamed B.named
  have hlocks := B.notSynchronized
  have hC : CC p s m _ c cX7_schemeAt 2 RX7 D cy wsX7_schemeAt := ⟨⟨hx, hb, hml, hown, hts⟩, hK⟩
  have hI : CI (fun _ => False) D cy g s S s.heap [] := ⟨hM, va_S.rf⟩
  have hT := hV.2.1
  have hN := hV.2.2.1
  have hQ := hV.2.2.2
  have hb7 := hN.b7
  have hb15 := hN.b15
  have hb23 := hN.b23
  have hb28 := hN.b28
  have hb42 := hN.b42
  have hb64 := hQ.b64
  have k_28 := hts (.fieldLink RX7 28 "RelatorsBench" "schemes" "Ljava/util/ArrayList;") (List.mem_cons_of_mem _ (List.mem_append_left _ (List.mem_append_left _ (List.mem_append_left _ (List.mem_append_left _ (List.mem_of_getElem? (i := 0) rfl))))))
  have hinX7 : ∀ w ∈ wsX70, w ∈ wsX7_schemeAt := fun _ h => List.mem_cons_of_mem _ (List.mem_append_left _ (List.mem_append_left _ (List.mem_append_right _ (h))))
  have hl := lv_entry ([.ref (ga g 18 0), .int f]) (n := 2) (Nat.le_of_ble_eq_true rfl)
  rw [lg_entry_eq]
  generalize (lg_sl ([.ref (ga g 18 0), .int f]) ++ List.replicate (2 - (lg_sl ([.ref (ga g 18 0), .int f])).length) Slot.unset).toArray = ls at hl ⊢
  have hl : lv_has ls 2 [(0, .ref (ga g 18 0)), (1, .int f)] := hl
  refine lv_iload_n hx hb dX7_schemeAt_0 rfl (lv_at hl 1 rfl) ?_
  refine lv_aload_n hx hb dX7_schemeAt_1 rfl (lv_at hl 0 rfl) ?_
  refine cr_get (ci := 8) hC hI 18 0 rfl rfl rfl hinX7 3 (by decide) k_28 (fun _ h => h) (v := .ref (ga g 12 0)) rfl dX7_schemeAt_2 ?_
  refine cr_size (rest := [.int f]) hC hI 12 0 (show 0 < 4 by decide) rfl (cwV 0 hts gX7_schemeAt_Jx4a65c_size_8abf5 rfl rfl rfl (by decide +kernel) ⟨Nat.le_of_ble_eq_true rfl, Nat.le_of_ble_eq_true rfl⟩) (qAL_size0 l D cy (ga g 12 0) (ga g 13 0) (gm g 12 0) _) hl.1 (Nat.le_of_ble_eq_true rfl) dX7_schemeAt_5 ⟨Nat.zero_le _, Nat.zero_le _⟩ (w := (S 7 0)) rfl (fun H locs hI => ?_)
  refine cr_pass (As := [.int f, .int (S 7 0)]) (rest := []) hC hI (qX7_checkIndex l f (S 7 0) h) (va_cwS 2 hts gX7_schemeAt_X7_checkIndex rfl rfl rfl (by decide +kernel) ⟨Nat.le_of_ble_eq_true rfl, Nat.le_of_ble_eq_true rfl⟩) rfl hl.1 rfl (Nat.le_of_ble_eq_true rfl) dX7_schemeAt_8 ⟨Nat.zero_le _, Nat.zero_le _⟩ (fun H locs hI => ?_)
  refine lv_aload_n hx hb dX7_schemeAt_11 rfl (lv_at hl 0 rfl) ?_
  refine cr_get (ci := 8) hC hI 18 0 rfl rfl rfl hinX7 3 (by decide) k_28 (fun _ h => h) (v := .ref (ga g 12 0)) rfl dX7_schemeAt_12 ?_
  refine lv_iload_n hx hb dX7_schemeAt_15 rfl (lv_at hl 1 rfl) ?_
  refine cr_get12 (rest := []) hC hI hV 0 (by decide) (okI_e h) (n := (ix f)) (hT.v5 (okI_l h hN.n7 (by have := hN.b7; omega))) (cwV 1 hts gX7_schemeAt_Jx4a65c_get_915e3 rfl rfl rfl (by decide +kernel) ⟨Nat.le_of_ble_eq_true rfl, Nat.le_of_ble_eq_true rfl⟩) hl.1 (Nat.le_of_ble_eq_true rfl) dX7_schemeAt_16 ⟨Nat.zero_le _, Nat.zero_le _⟩ (fun H locs hI => ?_)
  refine cr_cast (ci := 5) hC hI 5 (ix f) (hT.v5 (okI_l h hN.n7 (by have := hN.b7; omega))) rfl rfl (hts (.classLink RX7 94 "RelatorsBench$Scheme") (List.mem_cons_of_mem _ (List.mem_append_left _ (List.mem_append_left _ (List.mem_append_left _ (List.mem_append_left _ (List.mem_of_getElem? (i := 1) rfl))))))) dX7_schemeAt_19 ?_
  exact W.aret (v := .ref (ga g 5 (ix f))) hx hb hr (Or.inl ⟨_, rfl⟩) (Or.inr ⟨_, rfl⟩) (fun t9 ht9 hW9 => ⟨⟨(), ga g 5 (ix f), rfl, trivial, rfl⟩, hI.2.F ht9⟩) hI.2.2.2 dX7_schemeAt_22
set_option maxHeartbeats 4000000 in
set_option maxRecDepth 100000 in
theorem tX7_schemeAt (l : Launch) (hfl : l.stackTraces = false) (D : va_G) (cy : Nat → ClassId) (g : CWt) (S : St) (e0 : Nat) (hV : CV e0 g S) (f : Int32) (h : ¬ okI f (S 7 0)) : CThr l D cy g S yX7_schemeAt wsX7_schemeAt ({ frames := 7, cells := 1, slots := 6, locals := 103 } : Room) [.ref (ga g 18 0), .int f] 1 := by
  refine vx_ofW (cc := cX7_schemeAt) (maxL := 2) (ret := (some (.object "RelatorsBench$Scheme"))) (by decide) rfl ?_
  intro p e s m args below meth c s₁ B hml hno hv
  obtain ⟨rfl, ⟨hM, hK⟩, hJ⟩ := hv
  have hx := B.exec
  have hb := B.bytes
  have hr := B.returns
  have hts := atoms_spec (ws := wsX7_schemeAt) B.pre
  have hown : s.vm.findClass RX7 = some m.cls := findClass_of_methodNamed B.named
  have hlocks := B.notSynchronized
  have hC : CC p s m _ c cX7_schemeAt 2 RX7 D cy wsX7_schemeAt := ⟨⟨hx, hb, hml, hown, hts⟩, hK⟩
  have hI : CI (fun _ => False) D cy g s S s.heap [] := ⟨hM, va_S.rf⟩
  have hT := hV.2.1
  have hN := hV.2.2.1
  have hQ := hV.2.2.2
  have hb7 := hN.b7
  have hb15 := hN.b15
  have hb23 := hN.b23
  have hb28 := hN.b28
  have hb42 := hN.b42
  have hb64 := hQ.b64
  have k_28 := hts (.fieldLink RX7 28 "RelatorsBench" "schemes" "Ljava/util/ArrayList;") (List.mem_cons_of_mem _ (List.mem_append_left _ (List.mem_append_left _ (List.mem_append_left _ (List.mem_append_left _ (List.mem_of_getElem? (i := 0) rfl))))))
  have hinX7 : ∀ w ∈ wsX70, w ∈ wsX7_schemeAt := fun _ h => List.mem_cons_of_mem _ (List.mem_append_left _ (List.mem_append_left _ (List.mem_append_right _ (h))))
  have hl := lv_entry ([.ref (ga g 18 0), .int f]) (n := 2) (Nat.le_of_ble_eq_true rfl)
  rw [lg_entry_eq]
  generalize (lg_sl ([.ref (ga g 18 0), .int f]) ++ List.replicate (2 - (lg_sl ([.ref (ga g 18 0), .int f])).length) Slot.unset).toArray = ls at hl ⊢
  have hl : lv_has ls 2 [(0, .ref (ga g 18 0)), (1, .int f)] := hl
  refine lv_iload_n hx hb dX7_schemeAt_0 rfl (lv_at hl 1 rfl) ?_
  refine lv_aload_n hx hb dX7_schemeAt_1 rfl (lv_at hl 0 rfl) ?_
  refine cr_get (ci := 8) hC hI 18 0 rfl rfl rfl hinX7 3 (by decide) k_28 (fun _ h => h) (v := .ref (ga g 12 0)) rfl dX7_schemeAt_2 ?_
  refine cr_size (rest := [.int f]) hC hI 12 0 (show 0 < 4 by decide) rfl (cwV 0 hts gX7_schemeAt_Jx4a65c_size_8abf5 rfl rfl rfl (by decide +kernel) ⟨Nat.le_of_ble_eq_true rfl, Nat.le_of_ble_eq_true rfl⟩) (qAL_size0 l D cy (ga g 12 0) (ga g 13 0) (gm g 12 0) _) hl.1 (Nat.le_of_ble_eq_true rfl) dX7_schemeAt_5 ⟨Nat.zero_le _, Nat.zero_le _⟩ (w := (S 7 0)) rfl (fun H locs hI => ?_)
  exact ct_s (As := [.int f, .int (S 7 0)]) (rest := []) hC.1 hI.2 hJ (tX7_checkIndex l hfl f (S 7 0) h) (va_cwS 2 hts gX7_schemeAt_X7_checkIndex rfl rfl rfl (by decide +kernel) ⟨Nat.le_of_ble_eq_true rfl, Nat.le_of_ble_eq_true rfl⟩) rfl hl.1 rfl (Nat.le_of_ble_eq_true rfl) dX7_schemeAt_8 ⟨Nat.le_of_ble_eq_true rfl, Nat.le_of_ble_eq_true rfl⟩ hno hlocks (xt_of hI.2) (fun _ h => h) (Nat.le_of_ble_eq_true rfl) (Nat.le_of_ble_eq_true rfl)
set_option maxHeartbeats 4000000 in
set_option maxRecDepth 100000 in
theorem qX7_suitAt (l : Launch) (D : va_G) (cy : Nat → ClassId) (g : CWt) (S : St) (e0 : Nat) (hV : CV e0 g S) (f : Int32) (h : okI f (S 28 0)) : CRef l D cy g S yX7_suitAt wsX7_suitAt ({ frames := 3, cells := 0, slots := 0, locals := 64 } : Room) [.ref (ga g 18 0), .int f] (ga g 8 (ix f)) := by
  refine Met.ofW (cc := cX7_suitAt) (maxL := 2) (ret := (some (.object "RelatorsBench$Suit"))) (by decide) rfl ?_
  intro p e s m args below meth c s₁ B hml hv
  obtain ⟨rfl, hM, hK⟩ := hv
  have hx := B.exec
  have hb := B.bytes
  have hr := B.returns
  have hts := atoms_spec (ws := wsX7_suitAt) B.pre
  have hown : s.vm.findClass RX7 = some m.cls := findClass_of_methodNamed B.named
  have hlocks := B.notSynchronized
  have hC : CC p s m _ c cX7_suitAt 2 RX7 D cy wsX7_suitAt := ⟨⟨hx, hb, hml, hown, hts⟩, hK⟩
  have hI : CI (fun _ => False) D cy g s S s.heap [] := ⟨hM, va_S.rf⟩
  have hT := hV.2.1
  have hN := hV.2.2.1
  have hQ := hV.2.2.2
  have hb7 := hN.b7
  have hb15 := hN.b15
  have hb23 := hN.b23
  have hb28 := hN.b28
  have hb42 := hN.b42
  have hb64 := hQ.b64
  have k_38 := hts (.fieldLink RX7 38 "RelatorsBench" "suits" "Ljava/util/ArrayList;") (List.mem_cons_of_mem _ (List.mem_append_left _ (List.mem_append_left _ (List.mem_append_left _ (List.mem_append_left _ (List.mem_of_getElem? (i := 0) rfl))))))
  have hinX7 : ∀ w ∈ wsX70, w ∈ wsX7_suitAt := fun _ h => List.mem_cons_of_mem _ (List.mem_append_left _ (List.mem_append_left _ (List.mem_append_right _ (h))))
  have hl := lv_entry ([.ref (ga g 18 0), .int f]) (n := 2) (Nat.le_of_ble_eq_true rfl)
  rw [lg_entry_eq]
  generalize (lg_sl ([.ref (ga g 18 0), .int f]) ++ List.replicate (2 - (lg_sl ([.ref (ga g 18 0), .int f])).length) Slot.unset).toArray = ls at hl ⊢
  have hl : lv_has ls 2 [(0, .ref (ga g 18 0)), (1, .int f)] := hl
  refine lv_iload_n hx hb dX7_suitAt_0 rfl (lv_at hl 1 rfl) ?_
  refine lv_aload_n hx hb dX7_suitAt_1 rfl (lv_at hl 0 rfl) ?_
  refine cr_get (ci := 8) hC hI 18 0 rfl rfl rfl hinX7 6 (by decide) k_38 (fun _ h => h) (v := .ref (ga g 12 3)) rfl dX7_suitAt_2 ?_
  refine cr_size (rest := [.int f]) hC hI 12 3 (show 3 < 4 by decide) rfl (cwV 0 hts gX7_suitAt_Jx4a65c_size_8abf5 rfl rfl rfl (by decide +kernel) ⟨Nat.le_of_ble_eq_true rfl, Nat.le_of_ble_eq_true rfl⟩) (qAL_size0 l D cy (ga g 12 3) (ga g 13 3) (gm g 12 3) _) hl.1 (Nat.le_of_ble_eq_true rfl) dX7_suitAt_5 ⟨Nat.zero_le _, Nat.zero_le _⟩ (w := (S 28 0)) rfl (fun H locs hI => ?_)
  refine cr_pass (As := [.int f, .int (S 28 0)]) (rest := []) hC hI (qX7_checkIndex l f (S 28 0) h) (va_cwS 2 hts gX7_suitAt_X7_checkIndex rfl rfl rfl (by decide +kernel) ⟨Nat.le_of_ble_eq_true rfl, Nat.le_of_ble_eq_true rfl⟩) rfl hl.1 rfl (Nat.le_of_ble_eq_true rfl) dX7_suitAt_8 ⟨Nat.zero_le _, Nat.zero_le _⟩ (fun H locs hI => ?_)
  refine lv_aload_n hx hb dX7_suitAt_11 rfl (lv_at hl 0 rfl) ?_
  refine cr_get (ci := 8) hC hI 18 0 rfl rfl rfl hinX7 6 (by decide) k_38 (fun _ h => h) (v := .ref (ga g 12 3)) rfl dX7_suitAt_12 ?_
  refine lv_iload_n hx hb dX7_suitAt_15 rfl (lv_at hl 1 rfl) ?_
  refine cr_get12 (rest := []) hC hI hV 3 (by decide) (okI_e h) (n := (ix f)) (hT.v8 (okI_l h hN.n28 (by have := hN.b28; omega))) (cwV 1 hts gX7_suitAt_Jx4a65c_get_915e3 rfl rfl rfl (by decide +kernel) ⟨Nat.le_of_ble_eq_true rfl, Nat.le_of_ble_eq_true rfl⟩) hl.1 (Nat.le_of_ble_eq_true rfl) dX7_suitAt_16 ⟨Nat.zero_le _, Nat.zero_le _⟩ (fun H locs hI => ?_)
  refine cr_cast (ci := 6) hC hI 8 (ix f) (hT.v8 (okI_l h hN.n28 (by have := hN.b28; omega))) rfl rfl (hts (.classLink RX7 163 "RelatorsBench$Suit") (List.mem_cons_of_mem _ (List.mem_append_left _ (List.mem_append_left _ (List.mem_append_left _ (List.mem_append_left _ (List.mem_of_getElem? (i := 1) rfl))))))) dX7_suitAt_19 ?_
  exact W.aret (v := .ref (ga g 8 (ix f))) hx hb hr (Or.inl ⟨_, rfl⟩) (Or.inr ⟨_, rfl⟩) (fun t9 ht9 hW9 => ⟨⟨(), ga g 8 (ix f), rfl, trivial, rfl⟩, hI.2.F ht9⟩) hI.2.2.2 dX7_suitAt_22
set_option maxHeartbeats 4000000 in
set_option maxRecDepth 100000 in
theorem tX7_suitAt (l : Launch) (hfl : l.stackTraces = false) (D : va_G) (cy : Nat → ClassId) (g : CWt) (S : St) (e0 : Nat) (hV : CV e0 g S) (f : Int32) (h : ¬ okI f (S 28 0)) : CThr l D cy g S yX7_suitAt wsX7_suitAt ({ frames := 7, cells := 1, slots := 6, locals := 103 } : Room) [.ref (ga g 18 0), .int f] 1 := by
  refine vx_ofW (cc := cX7_suitAt) (maxL := 2) (ret := (some (.object "RelatorsBench$Suit"))) (by decide) rfl ?_
  intro p e s m args below meth c s₁ B hml hno hv
  obtain ⟨rfl, ⟨hM, hK⟩, hJ⟩ := hv
  have hx := B.exec
  have hb := B.bytes
  have hr := B.returns
  have hts := atoms_spec (ws := wsX7_suitAt) B.pre
  have hown : s.vm.findClass RX7 = some m.cls := findClass_of_methodNamed B.named
  have hlocks := B.notSynchronized
  have hC : CC p s m _ c cX7_suitAt 2 RX7 D cy wsX7_suitAt := ⟨⟨hx, hb, hml, hown, hts⟩, hK⟩
  have hI : CI (fun _ => False) D cy g s S s.heap [] := ⟨hM, va_S.rf⟩
  have hT := hV.2.1
  have hN := hV.2.2.1
  have hQ := hV.2.2.2
  have hb7 := hN.b7
  have hb15 := hN.b15
  have hb23 := hN.b23
  have hb28 := hN.b28
  have hb42 := hN.b42
  have hb64 := hQ.b64
  have k_38 := hts (.fieldLink RX7 38 "RelatorsBench" "suits" "Ljava/util/ArrayList;") (List.mem_cons_of_mem _ (List.mem_append_left _ (List.mem_append_left _ (List.mem_append_left _ (List.mem_append_left _ (List.mem_of_getElem? (i := 0) rfl))))))
  have hinX7 : ∀ w ∈ wsX70, w ∈ wsX7_suitAt := fun _ h => List.mem_cons_of_mem _ (List.mem_append_left _ (List.mem_append_left _ (List.mem_append_right _ (h))))
  have hl := lv_entry ([.ref (ga g 18 0), .int f]) (n := 2) (Nat.le_of_ble_eq_true rfl)
  rw [lg_entry_eq]
  generalize (lg_sl ([.ref (ga g 18 0), .int f]) ++ List.replicate (2 - (lg_sl ([.ref (ga g 18 0), .int f])).length) Slot.unset).toArray = ls at hl ⊢
  have hl : lv_has ls 2 [(0, .ref (ga g 18 0)), (1, .int f)] := hl
  refine lv_iload_n hx hb dX7_suitAt_0 rfl (lv_at hl 1 rfl) ?_
  refine lv_aload_n hx hb dX7_suitAt_1 rfl (lv_at hl 0 rfl) ?_
  refine cr_get (ci := 8) hC hI 18 0 rfl rfl rfl hinX7 6 (by decide) k_38 (fun _ h => h) (v := .ref (ga g 12 3)) rfl dX7_suitAt_2 ?_
  refine cr_size (rest := [.int f]) hC hI 12 3 (show 3 < 4 by decide) rfl (cwV 0 hts gX7_suitAt_Jx4a65c_size_8abf5 rfl rfl rfl (by decide +kernel) ⟨Nat.le_of_ble_eq_true rfl, Nat.le_of_ble_eq_true rfl⟩) (qAL_size0 l D cy (ga g 12 3) (ga g 13 3) (gm g 12 3) _) hl.1 (Nat.le_of_ble_eq_true rfl) dX7_suitAt_5 ⟨Nat.zero_le _, Nat.zero_le _⟩ (w := (S 28 0)) rfl (fun H locs hI => ?_)
  exact ct_s (As := [.int f, .int (S 28 0)]) (rest := []) hC.1 hI.2 hJ (tX7_checkIndex l hfl f (S 28 0) h) (va_cwS 2 hts gX7_suitAt_X7_checkIndex rfl rfl rfl (by decide +kernel) ⟨Nat.le_of_ble_eq_true rfl, Nat.le_of_ble_eq_true rfl⟩) rfl hl.1 rfl (Nat.le_of_ble_eq_true rfl) dX7_suitAt_8 ⟨Nat.le_of_ble_eq_true rfl, Nat.le_of_ble_eq_true rfl⟩ hno hlocks (xt_of hI.2) (fun _ h => h) (Nat.le_of_ble_eq_true rfl) (Nat.le_of_ble_eq_true rfl)
set_option maxHeartbeats 4000000 in
set_option maxRecDepth 100000 in
theorem qX6_knowsAll (l : Launch) (D : va_G) (cy : Nat → ClassId) (g : CWt) (S : St) (e0 : Nat) (hV : CV e0 g S) (t : Nat) (ht : t < 8) (asked : Int32) : CPure l D cy g S yX6_knowsAll wsX6_knowsAll ({ frames := 0, cells := 0, slots := 0, locals := 0 } : Room) [.ref (ga g 4 t), .int asked] (fX6_knowsAll S t asked) := by
  refine Met.ofW (cc := cX6_knowsAll) (maxL := 2) (ret := (some .boolean)) (by decide) rfl ?_
  intro p e s m args below meth c s₁ B hml hv
  obtain ⟨rfl, hM, hK⟩ := hv
  have hx := B.exec
  have hb := B.bytes
  have hr := B.returns
  have hts := atoms_spec (ws := wsX6_knowsAll) B.pre
  have hown : s.vm.findClass RX6 = some m.cls := findClass_of_methodNamed B.named
  have hlocks := B.notSynchronized
  have hC : CC p s m _ c cX6_knowsAll 2 RX6 D cy wsX6_knowsAll := ⟨⟨hx, hb, hml, hown, hts⟩, hK⟩
  have hI : CI (fun _ => False) D cy g s S s.heap [] := ⟨hM, va_S.rf⟩
  have hT := hV.2.1
  have hN := hV.2.2.1
  have hQ := hV.2.2.2
  have hb7 := hN.b7
  have hb15 := hN.b15
  have hb23 := hN.b23
  have hb28 := hN.b28
  have hb42 := hN.b42
  have hb64 := hQ.b64
  have k_9 := hts (.fieldLink RX6 9 "RelatorsBench$Teller" "facts" "I") (List.mem_cons_of_mem _ (List.mem_append_left _ (List.mem_of_getElem? (i := 0) rfl)))
  have hinX6 : ∀ w ∈ wsX60, w ∈ wsX6_knowsAll := fun _ h => List.mem_cons_of_mem _ (List.mem_append_right _ (h))
  have hl := lv_entry ([.ref (ga g 4 t), .int asked]) (n := 2) (Nat.le_of_ble_eq_true rfl)
  rw [lg_entry_eq]
  generalize (lg_sl ([.ref (ga g 4 t), .int asked]) ++ List.replicate (2 - (lg_sl ([.ref (ga g 4 t), .int asked])).length) Slot.unset).toArray = ls at hl ⊢
  have hl : lv_has ls 2 [(0, .ref (ga g 4 t)), (1, .int asked)] := hl
  have hG : fX6_knowsAll S t asked = fX6_knowsAll S t asked := rfl
  refine lv_iload_n hx hb dX6_knowsAll_0 rfl (lv_at hl 1 rfl) ?_
  refine lv_aload_n hx hb dX6_knowsAll_1 rfl (lv_at hl 0 rfl) ?_
  refine cr_get (ci := 7) hC hI 4 t ht rfl rfl hinX6 0 (by decide) k_9 (fun _ h => h) (v := .int (S 21 t)) rfl dX6_knowsAll_2 ?_
  refine lv_iconst (v := (-1)) hx hb dX6_knowsAll_5 (by decide) ?_
  refine lv_ixor hx hb dX6_knowsAll_6 ?_
  refine lv_iand hx hb dX6_knowsAll_7 ?_
  refine lv_if_ne (tgt := 15) hx hb dX6_knowsAll_8 (by decide) (fun c_1 => ?_) (fun c_1 => ?_)
  · have hG := hG.trans (if_neg c_1)
    refine lv_iconst (v := 0) hx hb dX6_knowsAll_15 (by decide) ?_
    exact W.zret (v := 0) (ty := .boolean) hx hb hr rfl (fun t9 ht9 hW9 => ⟨⟨0, (), rfl, hG.symm, trivial⟩, hI.2.F ht9⟩) hI.2.2.2 dX6_knowsAll_16
  · have hG := hG.trans (if_pos c_1)
    refine lv_iconst (v := 1) hx hb dX6_knowsAll_11 (by decide) ?_
    refine lv_goto (tgt := 16) hx hb dX6_knowsAll_12 (by decide) ?_
    exact W.zret (v := 1) (ty := .boolean) hx hb hr rfl (fun t9 ht9 hW9 => ⟨⟨1, (), rfl, hG.symm, trivial⟩, hI.2.F ht9⟩) hI.2.2.2 dX6_knowsAll_16
set_option maxHeartbeats 4000000 in
set_option maxRecDepth 100000 in
theorem qX4_hasHalfIn (l : Launch) (D : va_G) (cy : Nat → ClassId) (g : CWt) (S : St) (e0 : Nat) (hV : CV e0 g S) (s_ : Nat) (hs_ : s_ < nsc S) (others : Int32) : CPure l D cy g S yX4_hasHalfIn wsX4_hasHalfIn ({ frames := 1, cells := 0, slots := 0, locals := 20 } : Room) [.ref (ga g 5 s_), .int others] (fX4_hasHalfIn S s_ others) := by
  refine Met.ofW (cc := cX4_hasHalfIn) (maxL := 2) (ret := (some .boolean)) (by decide) rfl ?_
  intro p e s m args below meth c s₁ B hml hv
  obtain ⟨rfl, hM, hK⟩ := hv
  have hx := B.exec
  have hb := B.bytes
  have hr := B.returns
  have hts := atoms_spec (ws := wsX4_hasHalfIn) B.pre
  have hown : s.vm.findClass RX4 = some m.cls := findClass_of_methodNamed B.named
  have hlocks := B.notSynchronized
  have hC : CC p s m _ c cX4_hasHalfIn 2 RX4 D cy wsX4_hasHalfIn := ⟨⟨hx, hb, hml, hown, hts⟩, hK⟩
  have hI : CI (fun _ => False) D cy g s S s.heap [] := ⟨hM, va_S.rf⟩
  have hT := hV.2.1
  have hN := hV.2.2.1
  have hQ := hV.2.2.2
  have hb7 := hN.b7
  have hb15 := hN.b15
  have hb23 := hN.b23
  have hb28 := hN.b28
  have hb42 := hN.b42
  have hb64 := hQ.b64
  have k_34 := hts (.fieldLink RX4 34 "RelatorsBench$Scheme" "facts" "I") (List.mem_cons_of_mem _ (List.mem_append_left _ (List.mem_of_getElem? (i := 0) rfl)))
  have hinX4 : ∀ w ∈ wsX40, w ∈ wsX4_hasHalfIn := fun _ h => List.mem_cons_of_mem _ (List.mem_append_right _ (h))
  have hl := lv_entry ([.ref (ga g 5 s_), .int others]) (n := 2) (Nat.le_of_ble_eq_true rfl)
  rw [lg_entry_eq]
  generalize (lg_sl ([.ref (ga g 5 s_), .int others]) ++ List.replicate (2 - (lg_sl ([.ref (ga g 5 s_), .int others])).length) Slot.unset).toArray = ls at hl ⊢
  have hl : lv_has ls 2 [(0, .ref (ga g 5 s_)), (1, .int others)] := hl
  have hG : fX4_hasHalfIn S s_ others = fX4_hasHalfIn S s_ others := rfl
  refine lv_iconst (v := 2) hx hb dX4_hasHalfIn_0 (by decide) ?_
  refine lv_aload_n hx hb dX4_hasHalfIn_1 rfl (lv_at hl 0 rfl) ?_
  refine cr_get (ci := 5) hC hI 5 s_ (hT.v5 hs_) rfl rfl hinX4 2 (by decide) k_34 (fun _ h => h) (v := .int (S 9 s_)) rfl dX4_hasHalfIn_2 ?_
  refine lv_iload_n hx hb dX4_hasHalfIn_5 rfl (lv_at hl 1 rfl) ?_
  refine lv_iand hx hb dX4_hasHalfIn_6 ?_
  refine cr_callS (As := [.int ((S 9 s_) &&& others)]) (rest := [.int 2]) hC hI (qbc l ((S 9 s_) &&& others)) (va_cwS 1 hts gX4_hasHalfIn_J6_bitCount_0f7a4 rfl rfl rfl (by decide +kernel) ⟨Nat.le_of_ble_eq_true rfl, Nat.le_of_ble_eq_true rfl⟩) rfl hl.1 rfl (Nat.le_of_ble_eq_true rfl) dX4_hasHalfIn_7 ⟨Nat.zero_le _, Nat.zero_le _⟩ (fun H locs hI => ?_)
  refine lv_imul hx hb dX4_hasHalfIn_10 ?_
  refine lv_aload_n hx hb dX4_hasHalfIn_11 rfl (lv_at hl 0 rfl) ?_
  refine cr_get (ci := 5) hC hI 5 s_ (hT.v5 hs_) rfl rfl hinX4 2 (by decide) k_34 (fun _ h => h) (v := .int (S 9 s_)) rfl dX4_hasHalfIn_12 ?_
  refine cr_callS (As := [.int (S 9 s_)]) (rest := [.int (2 * (fbc ((S 9 s_) &&& others)))]) hC hI (qbc l (S 9 s_)) (va_cwS 1 hts gX4_hasHalfIn_J6_bitCount_0f7a4 rfl rfl rfl (by decide +kernel) ⟨Nat.le_of_ble_eq_true rfl, Nat.le_of_ble_eq_true rfl⟩) rfl hl.1 rfl (Nat.le_of_ble_eq_true rfl) dX4_hasHalfIn_15 ⟨Nat.zero_le _, Nat.zero_le _⟩ (fun H locs hI => ?_)
  refine lv_icmp_lt (tgt := 25) hx hb dX4_hasHalfIn_18 (by decide) (fun c_1 => ?_) (fun c_1 => ?_)
  · have hG := hG.trans (if_pos c_1)
    refine lv_iconst (v := 0) hx hb dX4_hasHalfIn_25 (by decide) ?_
    exact W.zret (v := 0) (ty := .boolean) hx hb hr rfl (fun t9 ht9 hW9 => ⟨⟨0, (), rfl, hG.symm, trivial⟩, hI.2.F ht9⟩) hI.2.2.2 dX4_hasHalfIn_26
  · have hG := hG.trans (if_neg c_1)
    refine lv_iconst (v := 1) hx hb dX4_hasHalfIn_21 (by decide) ?_
    refine lv_goto (tgt := 26) hx hb dX4_hasHalfIn_22 (by decide) ?_
    exact W.zret (v := 1) (ty := .boolean) hx hb hr rfl (fun t9 ht9 hW9 => ⟨⟨1, (), rfl, hG.symm, trivial⟩, hI.2.F ht9⟩) hI.2.2.2 dX4_hasHalfIn_26
set_option maxHeartbeats 4000000 in
set_option maxRecDepth 100000 in
theorem qX4_isPlannedBy (l : Launch) (D : va_G) (cy : Nat → ClassId) (g : CWt) (S : St) (e0 : Nat) (hV : CV e0 g S) (s_ : Nat) (hs_ : s_ < nsc S) (teller : Int32) : CPure l D cy g S yX4_isPlannedBy wsX4_isPlannedBy ({ frames := 0, cells := 0, slots := 0, locals := 0 } : Room) [.ref (ga g 5 s_), .int teller] (fX4_isPlannedBy S s_ teller) := by
  refine Met.ofW (cc := cX4_isPlannedBy) (maxL := 2) (ret := (some .boolean)) (by decide) rfl ?_
  intro p e s m args below meth c s₁ B hml hv
  obtain ⟨rfl, hM, hK⟩ := hv
  have hx := B.exec
  have hb := B.bytes
  have hr := B.returns
  have hts := atoms_spec (ws := wsX4_isPlannedBy) B.pre
  have hown : s.vm.findClass RX4 = some m.cls := findClass_of_methodNamed B.named
  have hlocks := B.notSynchronized
  have hC : CC p s m _ c cX4_isPlannedBy 2 RX4 D cy wsX4_isPlannedBy := ⟨⟨hx, hb, hml, hown, hts⟩, hK⟩
  have hI : CI (fun _ => False) D cy g s S s.heap [] := ⟨hM, va_S.rf⟩
  have hT := hV.2.1
  have hN := hV.2.2.1
  have hQ := hV.2.2.2
  have hb7 := hN.b7
  have hb15 := hN.b15
  have hb23 := hN.b23
  have hb28 := hN.b28
  have hb42 := hN.b42
  have hb64 := hQ.b64
  have k_25 := hts (.fieldLink RX4 25 "RelatorsBench$Scheme" "planners" "I") (List.mem_cons_of_mem _ (List.mem_append_left _ (List.mem_of_getElem? (i := 0) rfl)))
  have hinX4 : ∀ w ∈ wsX40, w ∈ wsX4_isPlannedBy := fun _ h => List.mem_cons_of_mem _ (List.mem_append_right _ (h))
  have hl := lv_entry ([.ref (ga g 5 s_), .int teller]) (n := 2) (Nat.le_of_ble_eq_true rfl)
  rw [lg_entry_eq]
  generalize (lg_sl ([.ref (ga g 5 s_), .int teller]) ++ List.replicate (2 - (lg_sl ([.ref (ga g 5 s_), .int teller])).length) Slot.unset).toArray = ls at hl ⊢
  have hl : lv_has ls 2 [(0, .ref (ga g 5 s_)), (1, .int teller)] := hl
  have hG : fX4_isPlannedBy S s_ teller = fX4_isPlannedBy S s_ teller := rfl
  refine lv_aload_n hx hb dX4_isPlannedBy_0 rfl (lv_at hl 0 rfl) ?_
  refine cr_get (ci := 5) hC hI 5 s_ (hT.v5 hs_) rfl rfl hinX4 8 (by decide) k_25 (fun _ h => h) (v := .int (S 61 s_)) rfl dX4_isPlannedBy_1 ?_
  refine lv_iconst (v := 1) hx hb dX4_isPlannedBy_4 (by decide) ?_
  refine lv_iload_n hx hb dX4_isPlannedBy_5 rfl (lv_at hl 1 rfl) ?_
  refine lv_ishl hx hb dX4_isPlannedBy_6 ?_
  refine lv_iand hx hb dX4_isPlannedBy_7 ?_
  refine lv_if_eq (tgt := 15) hx hb dX4_isPlannedBy_8 (by decide) (fun c_1 => ?_) (fun c_1 => ?_)
  · have hG := hG.trans (if_pos c_1)
    refine lv_iconst (v := 0) hx hb dX4_isPlannedBy_15 (by decide) ?_
    exact W.zret (v := 0) (ty := .boolean) hx hb hr rfl (fun t9 ht9 hW9 => ⟨⟨0, (), rfl, hG.symm, trivial⟩, hI.2.F ht9⟩) hI.2.2.2 dX4_isPlannedBy_16
  · have hG := hG.trans (if_neg c_1)
    refine lv_iconst (v := 1) hx hb dX4_isPlannedBy_11 (by decide) ?_
    refine lv_goto (tgt := 16) hx hb dX4_isPlannedBy_12 (by decide) ?_
    exact W.zret (v := 1) (ty := .boolean) hx hb hr rfl (fun t9 ht9 hW9 => ⟨⟨1, (), rfl, hG.symm, trivial⟩, hI.2.F ht9⟩) hI.2.2.2 dX4_isPlannedBy_16
set_option maxHeartbeats 4000000 in
set_option maxRecDepth 100000 in
theorem qX4_falsePartOf (l : Launch) (D : va_G) (cy : Nat → ClassId) (g : CWt) (S : St) (e0 : Nat) (hV : CV e0 g S) (s_ : Nat) (hs_ : s_ < nsc S) (whole : Int32) : CPure l D cy g S yX4_falsePartOf wsX4_falsePartOf ({ frames := 0, cells := 0, slots := 0, locals := 0 } : Room) [.ref (ga g 5 s_), .int whole] (fX4_falsePartOf S s_ whole) := by
  refine Met.ofW (cc := cX4_falsePartOf) (maxL := 2) (ret := (some .int)) (by decide) rfl ?_
  intro p e s m args below meth c s₁ B hml hv
  obtain ⟨rfl, hM, hK⟩ := hv
  have hx := B.exec
  have hb := B.bytes
  have hr := B.returns
  have hts := atoms_spec (ws := wsX4_falsePartOf) B.pre
  have hown : s.vm.findClass RX4 = some m.cls := findClass_of_methodNamed B.named
  have hlocks := B.notSynchronized
  have hC : CC p s m _ c cX4_falsePartOf 2 RX4 D cy wsX4_falsePartOf := ⟨⟨hx, hb, hml, hown, hts⟩, hK⟩
  have hI : CI (fun _ => False) D cy g s S s.heap [] := ⟨hM, va_S.rf⟩
  have hT := hV.2.1
  have hN := hV.2.2.1
  have hQ := hV.2.2.2
  have hb7 := hN.b7
  have hb15 := hN.b15
  have hb23 := hN.b23
  have hb28 := hN.b28
  have hb42 := hN.b42
  have hb64 := hQ.b64
  have k_9 := hts (.fieldLink RX4 9 "RelatorsBench$Scheme" "looked" "I") (List.mem_cons_of_mem _ (List.mem_append_left _ (List.mem_of_getElem? (i := 0) rfl)))
  have hinX4 : ∀ w ∈ wsX40, w ∈ wsX4_falsePartOf := fun _ h => List.mem_cons_of_mem _ (List.mem_append_right _ (h))
  have k_15 := hts (.fieldLink RX4 15 "RelatorsBench$Scheme" "wrong" "I") (List.mem_cons_of_mem _ (List.mem_append_left _ (List.mem_of_getElem? (i := 1) rfl)))
  have hl := lv_entry ([.ref (ga g 5 s_), .int whole]) (n := 2) (Nat.le_of_ble_eq_true rfl)
  rw [lg_entry_eq]
  generalize (lg_sl ([.ref (ga g 5 s_), .int whole]) ++ List.replicate (2 - (lg_sl ([.ref (ga g 5 s_), .int whole])).length) Slot.unset).toArray = ls at hl ⊢
  have hl : lv_has ls 2 [(0, .ref (ga g 5 s_)), (1, .int whole)] := hl
  have hG : fX4_falsePartOf S s_ whole = fX4_falsePartOf S s_ whole := rfl
  refine lv_aload_n hx hb dX4_falsePartOf_0 rfl (lv_at hl 0 rfl) ?_
  refine cr_get (ci := 5) hC hI 5 s_ (hT.v5 hs_) rfl rfl hinX4 4 (by decide) k_9 (fun _ h => h) (v := .int (S 11 s_)) rfl dX4_falsePartOf_1 ?_
  refine lv_iconst (v := 1) hx hb dX4_falsePartOf_4 (by decide) ?_
  refine lv_icmp_ge (tgt := 12) hx hb dX4_falsePartOf_5 (by decide) (fun c_1 => ?_) (fun c_1 => ?_)
  · have hG := hG.trans (if_pos c_1)
    refine lv_iload_n hx hb dX4_falsePartOf_12 rfl (lv_at hl 1 rfl) ?_
    refine lv_aload_n hx hb dX4_falsePartOf_13 rfl (lv_at hl 0 rfl) ?_
    refine cr_get (ci := 5) hC hI 5 s_ (hT.v5 hs_) rfl rfl hinX4 5 (by decide) k_15 (fun _ h => h) (v := .int (S 12 s_)) rfl dX4_falsePartOf_14 ?_
    refine lv_imul hx hb dX4_falsePartOf_17 ?_
    refine lv_aload_n hx hb dX4_falsePartOf_18 rfl (lv_at hl 0 rfl) ?_
    refine cr_get (ci := 5) hC hI 5 s_ (hT.v5 hs_) rfl rfl hinX4 4 (by decide) k_9 (fun _ h => h) (v := .int (S 11 s_)) rfl dX4_falsePartOf_19 ?_
    refine lv_idiv hx hb dX4_falsePartOf_22 (nz_le (by assumption)) ?_
    exact W.iret (v := ((whole * (S 12 s_)) / (S 11 s_))) hx hb hr (fun t9 ht9 hW9 => ⟨⟨((whole * (S 12 s_)) / (S 11 s_)), (), rfl, hG.symm, trivial⟩, hI.2.F ht9⟩) hI.2.2.2 dX4_falsePartOf_23
  · have hG := hG.trans (if_neg c_1)
    refine lv_iconst (v := 0) hx hb dX4_falsePartOf_8 (by decide) ?_
    refine lv_goto (tgt := 23) hx hb dX4_falsePartOf_9 (by decide) ?_
    exact W.iret (v := 0) hx hb hr (fun t9 ht9 hW9 => ⟨⟨0, (), rfl, hG.symm, trivial⟩, hI.2.F ht9⟩) hI.2.2.2 dX4_falsePartOf_23
set_option maxHeartbeats 4000000 in
set_option maxRecDepth 100000 in
theorem qX4_penalty (l : Launch) (D : va_G) (cy : Nat → ClassId) (g : CWt) (S : St) (e0 : Nat) (hV : CV e0 g S) (s_ : Nat) (hs_ : s_ < nsc S) : CPure l D cy g S yX4_penalty wsX4_penalty ({ frames := 0, cells := 0, slots := 0, locals := 0 } : Room) [.ref (ga g 5 s_)] (fX4_penalty S s_) := by
  refine Met.ofW (cc := cX4_penalty) (maxL := 1) (ret := (some .int)) (by decide) rfl ?_
  intro p e s m args below meth c s₁ B hml hv
  obtain ⟨rfl, hM, hK⟩ := hv
  have hx := B.exec
  have hb := B.bytes
  have hr := B.returns
  have hts := atoms_spec (ws := wsX4_penalty) B.pre
  have hown : s.vm.findClass RX4 = some m.cls := findClass_of_methodNamed B.named
  have hlocks := B.notSynchronized
  have hC : CC p s m _ c cX4_penalty 1 RX4 D cy wsX4_penalty := ⟨⟨hx, hb, hml, hown, hts⟩, hK⟩
  have hI : CI (fun _ => False) D cy g s S s.heap [] := ⟨hM, va_S.rf⟩
  have hT := hV.2.1
  have hN := hV.2.2.1
  have hQ := hV.2.2.2
  have hb7 := hN.b7
  have hb15 := hN.b15
  have hb23 := hN.b23
  have hb28 := hN.b28
  have hb42 := hN.b42
  have hb64 := hQ.b64
  have k_37 := hts (.fieldLink RX4 37 "RelatorsBench$Scheme" "ground" "I") (List.mem_cons_of_mem _ (List.mem_append_left _ (List.mem_of_getElem? (i := 0) rfl)))
  have hinX4 : ∀ w ∈ wsX40, w ∈ wsX4_penalty := fun _ h => List.mem_cons_of_mem _ (List.mem_append_right _ (h))
  have hl := lv_entry ([.ref (ga g 5 s_)]) (n := 1) (Nat.le_of_ble_eq_true rfl)
  rw [lg_entry_eq]
  generalize (lg_sl ([.ref (ga g 5 s_)]) ++ List.replicate (1 - (lg_sl ([.ref (ga g 5 s_)])).length) Slot.unset).toArray = ls at hl ⊢
  have hl : lv_has ls 1 [(0, .ref (ga g 5 s_))] := hl
  have hG : fX4_penalty S s_ = fX4_penalty S s_ := rfl
  refine lv_aload_n hx hb dX4_penalty_0 rfl (lv_at hl 0 rfl) ?_
  refine cr_get (ci := 5) hC hI 5 s_ (hT.v5 hs_) rfl rfl hinX4 3 (by decide) k_37 (fun _ h => h) (v := .int (S 10 s_)) rfl dX4_penalty_1 ?_
  by_cases sw_1_0 : (S 10 s_) = 0
  · have hG := hG.trans (if_pos sw_1_0)
    refine lv_lookup (off := 28) (tgt := 32) hx hb dX4_penalty_4 (by decide) (by rw [sw_1_0]; decide) (by decide) ?_
    refine lv_bipush (v := 100) hx hb dX4_penalty_32 (by decide) ?_
    exact W.iret (v := 100) hx hb hr (fun t9 ht9 hW9 => ⟨⟨100, (), rfl, hG.symm, trivial⟩, hI.2.F ht9⟩) hI.2.2.2 dX4_penalty_34
  have hG := hG.trans (if_neg sw_1_0)
  by_cases sw_1_1 : (S 10 s_) = 1
  · have hG := hG.trans (if_pos sw_1_1)
    refine lv_lookup (off := 31) (tgt := 35) hx hb dX4_penalty_4 (by decide) (by rw [sw_1_1]; decide) (by decide) ?_
    refine lv_bipush (v := 50) hx hb dX4_penalty_35 (by decide) ?_
    exact W.iret (v := 50) hx hb hr (fun t9 ht9 hW9 => ⟨⟨50, (), rfl, hG.symm, trivial⟩, hI.2.F ht9⟩) hI.2.2.2 dX4_penalty_37
  have hG := hG.trans (if_neg sw_1_1)
  refine lv_lookup (off := 34) (tgt := 38) hx hb dX4_penalty_4 (by decide) (lk_dflt sw_1_0 sw_1_1) (by decide) ?_
  refine lv_bipush (v := 20) hx hb dX4_penalty_38 (by decide) ?_
  exact W.iret (v := 20) hx hb hr (fun t9 ht9 hW9 => ⟨⟨20, (), rfl, hG.symm, trivial⟩, hI.2.F ht9⟩) hI.2.2.2 dX4_penalty_40
set_option maxHeartbeats 4000000 in
set_option maxRecDepth 100000 in
theorem qX5_isOver (l : Launch) (D : va_G) (cy : Nat → ClassId) (g : CWt) (S : St) (e0 : Nat) (hV : CV e0 g S) (k : Nat) (hk : k < nsu S) : CPure l D cy g S yX5_isOver wsX5_isOver ({ frames := 0, cells := 0, slots := 0, locals := 0 } : Room) [.ref (ga g 8 k)] (fX5_isOver S k) := by
  refine Met.ofW (cc := cX5_isOver) (maxL := 1) (ret := (some .boolean)) (by decide) rfl ?_
  intro p e s m args below meth c s₁ B hml hv
  obtain ⟨rfl, hM, hK⟩ := hv
  have hx := B.exec
  have hb := B.bytes
  have hr := B.returns
  have hts := atoms_spec (ws := wsX5_isOver) B.pre
  have hown : s.vm.findClass RX5 = some m.cls := findClass_of_methodNamed B.named
  have hlocks := B.notSynchronized
  have hC : CC p s m _ c cX5_isOver 1 RX5 D cy wsX5_isOver := ⟨⟨hx, hb, hml, hown, hts⟩, hK⟩
  have hI : CI (fun _ => False) D cy g s S s.heap [] := ⟨hM, va_S.rf⟩
  have hT := hV.2.1
  have hN := hV.2.2.1
  have hQ := hV.2.2.2
  have hb7 := hN.b7
  have hb15 := hN.b15
  have hb23 := hN.b23
  have hb28 := hN.b28
  have hb42 := hN.b42
  have hb64 := hQ.b64
  have k_18 := hts (.fieldLink RX5 18 "RelatorsBench$Suit" "state" "I") (List.mem_cons_of_mem _ (List.mem_append_left _ (List.mem_of_getElem? (i := 0) rfl)))
  have hinX5 : ∀ w ∈ wsX50, w ∈ wsX5_isOver := fun _ h => List.mem_cons_of_mem _ (List.mem_append_right _ (h))
  have hl := lv_entry ([.ref (ga g 8 k)]) (n := 1) (Nat.le_of_ble_eq_true rfl)
  rw [lg_entry_eq]
  generalize (lg_sl ([.ref (ga g 8 k)]) ++ List.replicate (1 - (lg_sl ([.ref (ga g 8 k)])).length) Slot.unset).toArray = ls at hl ⊢
  have hl : lv_has ls 1 [(0, .ref (ga g 8 k))] := hl
  have hG : fX5_isOver S k = fX5_isOver S k := rfl
  refine lv_aload_n hx hb dX5_isOver_0 rfl (lv_at hl 0 rfl) ?_
  refine cr_get (ci := 6) hC hI 8 k (hT.v8 hk) rfl rfl hinX5 7 (by decide) k_18 (fun _ h => h) (v := .int (S 34 k)) rfl dX5_isOver_1 ?_
  refine lv_iconst (v := 3) hx hb dX5_isOver_4 (by decide) ?_
  refine lv_icmp_eq (tgt := 16) hx hb dX5_isOver_5 (by decide) (fun c_1 => ?_) (fun c_1 => ?_)
  · have hG := hG.trans (if_pos c_1)
    refine lv_iconst (v := 1) hx hb dX5_isOver_16 (by decide) ?_
    refine lv_goto (tgt := 21) hx hb dX5_isOver_17 (by decide) ?_
    exact W.zret (v := 1) (ty := .boolean) hx hb hr rfl (fun t9 ht9 hW9 => ⟨⟨1, (), rfl, hG.symm, trivial⟩, hI.2.F ht9⟩) hI.2.2.2 dX5_isOver_21
  · have hG := hG.trans (if_neg c_1)
    refine lv_aload_n hx hb dX5_isOver_8 rfl (lv_at hl 0 rfl) ?_
    refine cr_get (ci := 6) hC hI 8 k (hT.v8 hk) rfl rfl hinX5 7 (by decide) k_18 (fun _ h => h) (v := .int (S 34 k)) rfl dX5_isOver_9 ?_
    refine lv_iconst (v := 4) hx hb dX5_isOver_12 (by decide) ?_
    refine lv_icmp_ne (tgt := 20) hx hb dX5_isOver_13 (by decide) (fun c_2 => ?_) (fun c_2 => ?_)
    · have hG := hG.trans (if_neg c_2)
      refine lv_iconst (v := 0) hx hb dX5_isOver_20 (by decide) ?_
      exact W.zret (v := 0) (ty := .boolean) hx hb hr rfl (fun t9 ht9 hW9 => ⟨⟨0, (), rfl, hG.symm, trivial⟩, hI.2.F ht9⟩) hI.2.2.2 dX5_isOver_21
    · have hG := hG.trans (if_pos c_2)
      refine lv_iconst (v := 1) hx hb dX5_isOver_16 (by decide) ?_
      refine lv_goto (tgt := 21) hx hb dX5_isOver_17 (by decide) ?_
      exact W.zret (v := 1) (ty := .boolean) hx hb hr rfl (fun t9 ht9 hW9 => ⟨⟨1, (), rfl, hG.symm, trivial⟩, hI.2.F ht9⟩) hI.2.2.2 dX5_isOver_21
set_option maxHeartbeats 4000000 in
set_option maxRecDepth 100000 in
theorem qX5_isReady (l : Launch) (D : va_G) (cy : Nat → ClassId) (g : CWt) (S : St) (e0 : Nat) (hV : CV e0 g S) (k : Nat) (hk : k < nsu S) : CPure l D cy g S yX5_isReady wsX5_isReady ({ frames := 0, cells := 0, slots := 0, locals := 0 } : Room) [.ref (ga g 8 k)] (fX5_isReady S k) := by
  refine Met.ofW (cc := cX5_isReady) (maxL := 1) (ret := (some .boolean)) (by decide) rfl ?_
  intro p e s m args below meth c s₁ B hml hv
  obtain ⟨rfl, hM, hK⟩ := hv
  have hx := B.exec
  have hb := B.bytes
  have hr := B.returns
  have hts := atoms_spec (ws := wsX5_isReady) B.pre
  have hown : s.vm.findClass RX5 = some m.cls := findClass_of_methodNamed B.named
  have hlocks := B.notSynchronized
  have hC : CC p s m _ c cX5_isReady 1 RX5 D cy wsX5_isReady := ⟨⟨hx, hb, hml, hown, hts⟩, hK⟩
  have hI : CI (fun _ => False) D cy g s S s.heap [] := ⟨hM, va_S.rf⟩
  have hT := hV.2.1
  have hN := hV.2.2.1
  have hQ := hV.2.2.2
  have hb7 := hN.b7
  have hb15 := hN.b15
  have hb23 := hN.b23
  have hb28 := hN.b28
  have hb42 := hN.b42
  have hb64 := hQ.b64
  have k_18 := hts (.fieldLink RX5 18 "RelatorsBench$Suit" "state" "I") (List.mem_cons_of_mem _ (List.mem_append_left _ (List.mem_of_getElem? (i := 0) rfl)))
  have hinX5 : ∀ w ∈ wsX50, w ∈ wsX5_isReady := fun _ h => List.mem_cons_of_mem _ (List.mem_append_right _ (h))
  have hl := lv_entry ([.ref (ga g 8 k)]) (n := 1) (Nat.le_of_ble_eq_true rfl)
  rw [lg_entry_eq]
  generalize (lg_sl ([.ref (ga g 8 k)]) ++ List.replicate (1 - (lg_sl ([.ref (ga g 8 k)])).length) Slot.unset).toArray = ls at hl ⊢
  have hl : lv_has ls 1 [(0, .ref (ga g 8 k))] := hl
  have hG : fX5_isReady S k = fX5_isReady S k := rfl
  refine lv_aload_n hx hb dX5_isReady_0 rfl (lv_at hl 0 rfl) ?_
  refine cr_get (ci := 6) hC hI 8 k (hT.v8 hk) rfl rfl hinX5 7 (by decide) k_18 (fun _ h => h) (v := .int (S 34 k)) rfl dX5_isReady_1 ?_
  refine lv_iconst (v := 1) hx hb dX5_isReady_4 (by decide) ?_
  refine lv_icmp_eq (tgt := 16) hx hb dX5_isReady_5 (by decide) (fun c_1 => ?_) (fun c_1 => ?_)
  · have hG := hG.trans (if_pos c_1)
    refine lv_iconst (v := 1) hx hb dX5_isReady_16 (by decide) ?_
    refine lv_goto (tgt := 21) hx hb dX5_isReady_17 (by decide) ?_
    exact W.zret (v := 1) (ty := .boolean) hx hb hr rfl (fun t9 ht9 hW9 => ⟨⟨1, (), rfl, hG.symm, trivial⟩, hI.2.F ht9⟩) hI.2.2.2 dX5_isReady_21
  · have hG := hG.trans (if_neg c_1)
    refine lv_aload_n hx hb dX5_isReady_8 rfl (lv_at hl 0 rfl) ?_
    refine cr_get (ci := 6) hC hI 8 k (hT.v8 hk) rfl rfl hinX5 7 (by decide) k_18 (fun _ h => h) (v := .int (S 34 k)) rfl dX5_isReady_9 ?_
    refine lv_iconst (v := 2) hx hb dX5_isReady_12 (by decide) ?_
    refine lv_icmp_ne (tgt := 20) hx hb dX5_isReady_13 (by decide) (fun c_2 => ?_) (fun c_2 => ?_)
    · have hG := hG.trans (if_neg c_2)
      refine lv_iconst (v := 0) hx hb dX5_isReady_20 (by decide) ?_
      exact W.zret (v := 0) (ty := .boolean) hx hb hr rfl (fun t9 ht9 hW9 => ⟨⟨0, (), rfl, hG.symm, trivial⟩, hI.2.F ht9⟩) hI.2.2.2 dX5_isReady_21
    · have hG := hG.trans (if_pos c_2)
      refine lv_iconst (v := 1) hx hb dX5_isReady_16 (by decide) ?_
      refine lv_goto (tgt := 21) hx hb dX5_isReady_17 (by decide) ?_
      exact W.zret (v := 1) (ty := .boolean) hx hb hr rfl (fun t9 ht9 hW9 => ⟨⟨1, (), rfl, hG.symm, trivial⟩, hI.2.F ht9⟩) hI.2.2.2 dX5_isReady_21
set_option maxHeartbeats 4000000 in
set_option maxRecDepth 100000 in
theorem qX5_isSealedOn (l : Launch) (D : va_G) (cy : Nat → ClassId) (g : CWt) (S : St) (e0 : Nat) (hV : CV e0 g S) (k : Nat) (hk : k < nsu S) (day : Int32) : CPure l D cy g S yX5_isSealedOn wsX5_isSealedOn ({ frames := 0, cells := 0, slots := 0, locals := 0 } : Room) [.ref (ga g 8 k), .int day] (fX5_isSealedOn S k day) := by
  refine Met.ofW (cc := cX5_isSealedOn) (maxL := 2) (ret := (some .boolean)) (by decide) rfl ?_
  intro p e s m args below meth c s₁ B hml hv
  obtain ⟨rfl, hM, hK⟩ := hv
  have hx := B.exec
  have hb := B.bytes
  have hr := B.returns
  have hts := atoms_spec (ws := wsX5_isSealedOn) B.pre
  have hown : s.vm.findClass RX5 = some m.cls := findClass_of_methodNamed B.named
  have hlocks := B.notSynchronized
  have hC : CC p s m _ c cX5_isSealedOn 2 RX5 D cy wsX5_isSealedOn := ⟨⟨hx, hb, hml, hown, hts⟩, hK⟩
  have hI : CI (fun _ => False) D cy g s S s.heap [] := ⟨hM, va_S.rf⟩
  have hT := hV.2.1
  have hN := hV.2.2.1
  have hQ := hV.2.2.2
  have hb7 := hN.b7
  have hb15 := hN.b15
  have hb23 := hN.b23
  have hb28 := hN.b28
  have hb42 := hN.b42
  have hb64 := hQ.b64
  have k_59 := hts (.fieldLink RX5 59 "RelatorsBench$Suit" "unsealedFrom" "I") (List.mem_cons_of_mem _ (List.mem_append_left _ (List.mem_of_getElem? (i := 0) rfl)))
  have hinX5 : ∀ w ∈ wsX50, w ∈ wsX5_isSealedOn := fun _ h => List.mem_cons_of_mem _ (List.mem_append_right _ (h))
  have hl := lv_entry ([.ref (ga g 8 k), .int day]) (n := 2) (Nat.le_of_ble_eq_true rfl)
  rw [lg_entry_eq]
  generalize (lg_sl ([.ref (ga g 8 k), .int day]) ++ List.replicate (2 - (lg_sl ([.ref (ga g 8 k), .int day])).length) Slot.unset).toArray = ls at hl ⊢
  have hl : lv_has ls 2 [(0, .ref (ga g 8 k)), (1, .int day)] := hl
  have hG : fX5_isSealedOn S k day = fX5_isSealedOn S k day := rfl
  refine lv_iload_n hx hb dX5_isSealedOn_0 rfl (lv_at hl 1 rfl) ?_
  refine lv_aload_n hx hb dX5_isSealedOn_1 rfl (lv_at hl 0 rfl) ?_
  refine cr_get (ci := 6) hC hI 8 k (hT.v8 hk) rfl rfl hinX5 10 (by decide) k_59 (fun _ h => h) (v := .int (S 36 k)) rfl dX5_isSealedOn_2 ?_
  refine lv_icmp_ge (tgt := 12) hx hb dX5_isSealedOn_5 (by decide) (fun c_1 => ?_) (fun c_1 => ?_)
  · have hG := hG.trans (if_pos c_1)
    refine lv_iconst (v := 0) hx hb dX5_isSealedOn_12 (by decide) ?_
    exact W.zret (v := 0) (ty := .boolean) hx hb hr rfl (fun t9 ht9 hW9 => ⟨⟨0, (), rfl, hG.symm, trivial⟩, hI.2.F ht9⟩) hI.2.2.2 dX5_isSealedOn_13
  · have hG := hG.trans (if_neg c_1)
    refine lv_iconst (v := 1) hx hb dX5_isSealedOn_8 (by decide) ?_
    refine lv_goto (tgt := 13) hx hb dX5_isSealedOn_9 (by decide) ?_
    exact W.zret (v := 1) (ty := .boolean) hx hb hr rfl (fun t9 ht9 hW9 => ⟨⟨1, (), rfl, hG.symm, trivial⟩, hI.2.F ht9⟩) hI.2.2.2 dX5_isSealedOn_13
set_option maxHeartbeats 4000000 in
set_option maxRecDepth 100000 in
theorem qX5_coverDay (l : Launch) (D : va_G) (cy : Nat → ClassId) (g : CWt) (S : St) (e0 : Nat) (hV : CV e0 g S) (k : Nat) (hk : k < nsu S) (s_ : Nat) (hs_ : s_ < nsc S) : CPure l D cy g S yX5_coverDay wsX5_coverDay ({ frames := 3, cells := 0, slots := 0, locals := 64 } : Room) [.ref (ga g 8 k), .ref (ga g 5 s_)] (fX5_coverDay S k s_) := by
  refine Met.ofW (cc := cX5_coverDay) (maxL := 5) (ret := (some .int)) (by decide) rfl ?_
  intro p e s m args below meth c s₁ B hml hv
  obtain ⟨rfl, hM, hK⟩ := hv
  have hx := B.exec
  have hb := B.bytes
  have hr := B.returns
  have hts := atoms_spec (ws := wsX5_coverDay) B.pre
  have hown : s.vm.findClass RX5 = some m.cls := findClass_of_methodNamed B.named
  have hlocks := B.notSynchronized
  have hC : CC p s m _ c cX5_coverDay 5 RX5 D cy wsX5_coverDay := ⟨⟨hx, hb, hml, hown, hts⟩, hK⟩
  have hI : CI (fun _ => False) D cy g s S s.heap [] := ⟨hM, va_S.rf⟩
  have hT := hV.2.1
  have hN := hV.2.2.1
  have hQ := hV.2.2.2
  have hb7 := hN.b7
  have hb15 := hN.b15
  have hb23 := hN.b23
  have hb28 := hN.b28
  have hb42 := hN.b42
  have hb64 := hQ.b64
  have k_47 := hts (.fieldLink RX5 47 "RelatorsBench$Suit" "firm" "I") (List.mem_cons_of_mem _ (List.mem_append_left _ (List.mem_append_left _ (List.mem_append_left _ (List.mem_append_left _ (List.mem_append_left _ (List.mem_of_getElem? (i := 0) rfl)))))))
  have hinX5 : ∀ w ∈ wsX50, w ∈ wsX5_coverDay := fun _ h => List.mem_cons_of_mem _ (List.mem_append_left _ (List.mem_append_left _ (List.mem_append_left _ (List.mem_append_right _ (h)))))
  have k_71 := hts (.fieldLink RX5 71 "RelatorsBench$Scheme" "firm" "I") (List.mem_cons_of_mem _ (List.mem_append_left _ (List.mem_append_left _ (List.mem_append_left _ (List.mem_append_left _ (List.mem_append_left _ (List.mem_of_getElem? (i := 1) rfl)))))))
  have hinX4 : ∀ w ∈ wsX40, w ∈ wsX5_coverDay := fun _ h => List.mem_cons_of_mem _ (List.mem_append_left _ (List.mem_append_left _ (List.mem_append_right _ (h))))
  have k_50 := hts (.fieldLink RX5 50 "RelatorsBench$Suit" "filedFacts" "I") (List.mem_cons_of_mem _ (List.mem_append_left _ (List.mem_append_left _ (List.mem_append_left _ (List.mem_append_left _ (List.mem_append_left _ (List.mem_of_getElem? (i := 2) rfl)))))))
  have k_74 := hts (.fieldLink RX5 74 "RelatorsBench$Scheme" "facts" "I") (List.mem_cons_of_mem _ (List.mem_append_left _ (List.mem_append_left _ (List.mem_append_left _ (List.mem_append_left _ (List.mem_append_left _ (List.mem_of_getElem? (i := 3) rfl)))))))
  have k_12 := hts (.fieldLink RX5 12 "RelatorsBench$Suit" "papers" "Ljava/util/ArrayList;") (List.mem_cons_of_mem _ (List.mem_append_left _ (List.mem_append_left _ (List.mem_append_left _ (List.mem_append_left _ (List.mem_append_left _ (List.mem_of_getElem? (i := 4) rfl)))))))
  have k_83 := hts (.fieldLink RX5 83 "RelatorsBench$Paper" "facts" "I") (List.mem_cons_of_mem _ (List.mem_append_left _ (List.mem_append_left _ (List.mem_append_left _ (List.mem_append_left _ (List.mem_append_left _ (List.mem_of_getElem? (i := 6) rfl)))))))
  have hinX3 : ∀ w ∈ wsX30, w ∈ wsX5_coverDay := fun _ h => List.mem_cons_of_mem _ (List.mem_append_left _ (List.mem_append_right _ (h)))
  have k_88 := hts (.fieldLink RX5 88 "RelatorsBench$Paper" "day" "I") (List.mem_cons_of_mem _ (List.mem_append_left _ (List.mem_append_left _ (List.mem_append_left _ (List.mem_append_left _ (List.mem_append_left _ (List.mem_of_getElem? (i := 8) rfl)))))))
  have k_53 := hts (.fieldLink RX5 53 "RelatorsBench$Suit" "filedOn" "I") (List.mem_cons_of_mem _ (List.mem_append_left _ (List.mem_append_left _ (List.mem_append_left _ (List.mem_append_left _ (List.mem_append_left _ (List.mem_of_getElem? (i := 7) rfl)))))))
  have hl := lv_entry ([.ref (ga g 8 k), .ref (ga g 5 s_)]) (n := 5) (Nat.le_of_ble_eq_true rfl)
  rw [lg_entry_eq]
  generalize (lg_sl ([.ref (ga g 8 k), .ref (ga g 5 s_)]) ++ List.replicate (5 - (lg_sl ([.ref (ga g 8 k), .ref (ga g 5 s_)])).length) Slot.unset).toArray = ls at hl ⊢
  have hl : lv_has ls 5 [(0, .ref (ga g 8 k)), (1, .ref (ga g 5 s_))] := hl
  have hG : fX5_coverDay S k s_ = fX5_coverDay S k s_ := rfl
  refine lv_aload_n hx hb dX5_coverDay_0 rfl (lv_at hl 0 rfl) ?_
  refine cr_get (ci := 6) hC hI 8 k (hT.v8 hk) rfl rfl hinX5 2 (by decide) k_47 (fun _ h => h) (v := .int (S 30 k)) rfl dX5_coverDay_1 ?_
  refine lv_aload_n hx hb dX5_coverDay_4 rfl (lv_at hl 1 rfl) ?_
  refine cr_get (ci := 5) hC hI 5 s_ (hT.v5 hs_) rfl rfl hinX4 1 (by decide) k_71 (fun _ h => h) (v := .int (S 8 s_)) rfl dX5_coverDay_5 ?_
  refine lv_icmp_eq (tgt := 13) hx hb dX5_coverDay_8 (by decide) (fun c_1 => ?_) (fun c_1 => ?_)
  · have hG := hG.trans (if_pos c_1)
    refine lv_aload_n hx hb dX5_coverDay_13 rfl (lv_at hl 0 rfl) ?_
    refine cr_get (ci := 6) hC hI 8 k (hT.v8 hk) rfl rfl hinX5 3 (by decide) k_50 (fun _ h => h) (v := .int (S 31 k)) rfl dX5_coverDay_14 ?_
    refine lv_aload_n hx hb dX5_coverDay_17 rfl (lv_at hl 1 rfl) ?_
    refine cr_get (ci := 5) hC hI 5 s_ (hT.v5 hs_) rfl rfl hinX4 2 (by decide) k_74 (fun _ h => h) (v := .int (S 9 s_)) rfl dX5_coverDay_18 ?_
    refine lv_iand hx hb dX5_coverDay_21 ?_
    refine lv_if_eq (tgt := 29) hx hb dX5_coverDay_22 (by decide) (fun c_2 => ?_) (fun c_2 => ?_)
    · have hG := hG.trans (if_pos c_2)
      refine lv_iconst (v := 0) hx hb dX5_coverDay_29 (by decide) ?_
      refine lv_istore_n (lv' := [(2, .int 0), (0, .ref (ga g 8 k)), (1, .ref (ga g 5 s_))]) hx hb dX5_coverDay_30 rfl hl (by decide) rfl (fun ls hl => ?_)
      refine lv_iconst (v := 0) hx hb dX5_coverDay_31 (by decide) ?_
      refine lv_istore_n (lv' := [(3, .int 0), (2, .int 0), (0, .ref (ga g 8 k)), (1, .ref (ga g 5 s_))]) hx hb dX5_coverDay_32 rfl hl (by decide) rfl (fun ls hl => ?_)
      refine w_loop (σ := Unit) (npp S k) 33 (fun i33 z H locs ls => fX5_coverDay S k s_ = rX5_coverDay_33 S k s_ ((npp S k) - i33) i33 ∧ CI (fun _ => False) D cy g s S H locs ∧ lv_has ls 5 [(3, .int (nI i33)), (2, .int 0), (0, .ref (ga g 8 k)), (1, .ref (ga g 5 s_))]) ?_ () ⟨hG, hI, lv_sub hl [0, 1, 2, 3] rfl⟩
      intro i33 z H locs ls ⟨hG, hI, hl⟩ hi33 ih33
      refine lv_iload_n hx hb dX5_coverDay_33 rfl (lv_at hl 0 rfl) ?_
      refine lv_aload_n hx hb dX5_coverDay_34 rfl (lv_at hl 2 rfl) ?_
      refine cr_get (ci := 6) hC hI 8 k (hT.v8 hk) rfl rfl hinX5 5 (by decide) k_12 (fun _ h => h) (v := .ref (ga g 9 k)) rfl dX5_coverDay_35 ?_
      refine cr_size (rest := [.int (nI i33)]) hC hI 9 k (hT.v9 hk) rfl (cwV 0 hts gX5_coverDay_Jx4a65c_size_8abf5 rfl rfl rfl (by decide +kernel) ⟨Nat.le_of_ble_eq_true rfl, Nat.le_of_ble_eq_true rfl⟩) (qAL_size0 l D cy (ga g 9 k) (ga g 10 k) (gm g 9 k) _) hl.1 (Nat.le_of_ble_eq_true rfl) dX5_coverDay_38 ⟨Nat.zero_le _, Nat.zero_le _⟩ (w := (S 67 k)) rfl (fun H locs hI => ?_)
      refine lv_icmp_ge (tgt := 92) hx hb dX5_coverDay_41 (by decide) (fun c_3 => ?_) (fun c_3 => ?_)
      · have hxN : i33 = npp S k := w_exit (hQ.n67 k) hi33 (by have := hQ.b67 k; omega) c_3
        rw [show (npp S k) - i33 = 0 by omega] at hG
        have hG := hG.trans (rX5_coverDay_33_0 S k s_ i33)
        refine lv_iconst (v := (-1)) hx hb dX5_coverDay_92 (by decide) ?_
        exact W.iret (v := (-1)) hx hb hr (fun t9 ht9 hW9 => ⟨⟨(-1), (), rfl, hG.symm, trivial⟩, hI.2.F ht9⟩) hI.2.2.2 dX5_coverDay_93
      · have hlt33 : i33 < npp S k := w_in (hQ.n67 k) hi33 (by have := hQ.b67 k; omega) c_3
        rw [show (npp S k) - i33 = ((npp S k) - (i33 + 1)) + 1 by omega] at hG
        have hG := hG.trans (rX5_coverDay_33_s S k s_ i33 ((npp S k) - (i33 + 1)))
        refine lv_aload_n hx hb dX5_coverDay_44 rfl (lv_at hl 2 rfl) ?_
        refine cr_get (ci := 6) hC hI 8 k (hT.v8 hk) rfl rfl hinX5 5 (by decide) k_12 (fun _ h => h) (v := .ref (ga g 9 k)) rfl dX5_coverDay_45 ?_
        refine lv_iload_n hx hb dX5_coverDay_48 rfl (lv_at hl 0 rfl) ?_
        refine cr_get9 (rest := []) hC hI hV k hk rfl (n := i33) hlt33 (cwV 1 hts gX5_coverDay_Jx4a65c_get_915e3 rfl rfl rfl (by decide +kernel) ⟨Nat.le_of_ble_eq_true rfl, Nat.le_of_ble_eq_true rfl⟩) hl.1 (Nat.le_of_ble_eq_true rfl) dX5_coverDay_49 ⟨Nat.zero_le _, Nat.zero_le _⟩ (fun H locs hI => ?_)
        refine cr_cast (ci := 4) hC hI 11 (64 * k + i33) (hT.v11 hk hlt33 (hQ.b67 _)) rfl rfl (hts (.classLink RX5 62 "RelatorsBench$Paper") (List.mem_cons_of_mem _ (List.mem_append_left _ (List.mem_append_left _ (List.mem_append_left _ (List.mem_append_left _ (List.mem_append_left _ (List.mem_of_getElem? (i := 5) rfl)))))))) dX5_coverDay_52 ?_
        refine lv_astore (lv' := [(4, .ref (ga g 11 (64 * k + i33))), (3, .int (nI i33)), (2, .int 0), (0, .ref (ga g 8 k)), (1, .ref (ga g 5 s_))]) hx hb dX5_coverDay_55 hl (by decide) rfl (fun ls hl => ?_)
        refine lv_aload_n hx hb dX5_coverDay_57 rfl (lv_at hl 4 rfl) ?_
        refine lv_aload hx hb dX5_coverDay_58 (lv_at hl 0 rfl) ?_
        refine cr_get (ci := 4) hC hI 11 (64 * k + i33) (hT.v11 hk hlt33 (hQ.b67 _)) rfl rfl hinX3 0 (by decide) k_83 (fun _ h => h) (v := .int (S 65 (64 * k + i33))) rfl dX5_coverDay_60 ?_
        refine cr_call (As := [.int (S 65 (64 * k + i33))]) (rest := []) hC hI (qX4_hasHalfIn l D cy g S e0 hV s_ hs_ (S 65 (64 * k + i33))) (cwV 1 hts gX5_coverDay_X4_hasHalfIn rfl rfl rfl (by decide +kernel) ⟨Nat.le_of_ble_eq_true rfl, Nat.le_of_ble_eq_true rfl⟩) (cr_prev (ci := 5) hC hI 5 s_ (hT.v5 hs_) rfl rfl) rfl hl.1 rfl (Nat.le_of_ble_eq_true rfl) dX5_coverDay_63 ⟨Nat.zero_le _, Nat.zero_le _⟩ (fun H locs hI => ?_)
        refine lv_if_eq (tgt := 86) hx hb dX5_coverDay_66 (by decide) (fun c_4 => ?_) (fun c_4 => ?_)
        · have hG := hG.trans (if_pos c_4)
          refine lv_iinc (v := (nI (i33 + 1))) (lv' := [(3, .int (nI (i33 + 1))), (4, .ref (ga g 11 (64 * k + i33))), (2, .int 0), (0, .ref (ga g 8 k)), (1, .ref (ga g 5 s_))]) hx hb dX5_coverDay_86 hl (k := 1) rfl (nI_1 i33) (by decide) rfl (fun ls hl => ?_)
          refine lv_goto (tgt := 33) hx hb dX5_coverDay_89 (by decide) ?_
          exact ih33 () _ _ ls hlt33 ⟨hG, hI, lv_sub hl [0, 2, 3, 4] rfl⟩
        · have hG := hG.trans (if_neg c_4)
          refine lv_iload_n hx hb dX5_coverDay_69 rfl (lv_at hl 2 rfl) ?_
          refine lv_if_eq (tgt := 80) hx hb dX5_coverDay_70 (by decide) (fun _ => ?_) (fun c => absurd (by decide : (0 : Int32) = 0) c)
          refine lv_aload hx hb dX5_coverDay_80 (lv_at hl 0 rfl) ?_
          refine cr_get (ci := 4) hC hI 11 (64 * k + i33) (hT.v11 hk hlt33 (hQ.b67 _)) rfl rfl hinX3 1 (by decide) k_88 (fun _ h => h) (v := .int (S 66 (64 * k + i33))) rfl dX5_coverDay_82 ?_
          exact W.iret (v := (S 66 (64 * k + i33))) hx hb hr (fun t9 ht9 hW9 => ⟨⟨S 66 (64 * k + i33), (), rfl, hG.symm, trivial⟩, hI.2.F ht9⟩) hI.2.2.2 dX5_coverDay_85
    · have hG := hG.trans (if_neg c_2)
      refine lv_iconst (v := 1) hx hb dX5_coverDay_25 (by decide) ?_
      refine lv_goto (tgt := 30) hx hb dX5_coverDay_26 (by decide) ?_
      refine lv_istore_n (lv' := [(2, .int 1), (0, .ref (ga g 8 k)), (1, .ref (ga g 5 s_))]) hx hb dX5_coverDay_30 rfl hl (by decide) rfl (fun ls hl => ?_)
      refine lv_iconst (v := 0) hx hb dX5_coverDay_31 (by decide) ?_
      refine lv_istore_n (lv' := [(3, .int 0), (2, .int 1), (0, .ref (ga g 8 k)), (1, .ref (ga g 5 s_))]) hx hb dX5_coverDay_32 rfl hl (by decide) rfl (fun ls hl => ?_)
      refine w_loop (σ := Unit) (npp S k) 33 (fun i33 z H locs ls => fX5_coverDay S k s_ = rX5_coverDay_33_v2 S k s_ ((npp S k) - i33) i33 ∧ CI (fun _ => False) D cy g s S H locs ∧ lv_has ls 5 [(3, .int (nI i33)), (2, .int 1), (0, .ref (ga g 8 k)), (1, .ref (ga g 5 s_))]) ?_ () ⟨hG, hI, lv_sub hl [0, 1, 2, 3] rfl⟩
      intro i33 z H locs ls ⟨hG, hI, hl⟩ hi33 ih33
      refine lv_iload_n hx hb dX5_coverDay_33 rfl (lv_at hl 0 rfl) ?_
      refine lv_aload_n hx hb dX5_coverDay_34 rfl (lv_at hl 2 rfl) ?_
      refine cr_get (ci := 6) hC hI 8 k (hT.v8 hk) rfl rfl hinX5 5 (by decide) k_12 (fun _ h => h) (v := .ref (ga g 9 k)) rfl dX5_coverDay_35 ?_
      refine cr_size (rest := [.int (nI i33)]) hC hI 9 k (hT.v9 hk) rfl (cwV 0 hts gX5_coverDay_Jx4a65c_size_8abf5 rfl rfl rfl (by decide +kernel) ⟨Nat.le_of_ble_eq_true rfl, Nat.le_of_ble_eq_true rfl⟩) (qAL_size0 l D cy (ga g 9 k) (ga g 10 k) (gm g 9 k) _) hl.1 (Nat.le_of_ble_eq_true rfl) dX5_coverDay_38 ⟨Nat.zero_le _, Nat.zero_le _⟩ (w := (S 67 k)) rfl (fun H locs hI => ?_)
      refine lv_icmp_ge (tgt := 92) hx hb dX5_coverDay_41 (by decide) (fun c_5 => ?_) (fun c_5 => ?_)
      · have hxN : i33 = npp S k := w_exit (hQ.n67 k) hi33 (by have := hQ.b67 k; omega) c_5
        rw [show (npp S k) - i33 = 0 by omega] at hG
        have hG := hG.trans (rX5_coverDay_33_v2_0 S k s_ i33)
        refine lv_iconst (v := (-1)) hx hb dX5_coverDay_92 (by decide) ?_
        exact W.iret (v := (-1)) hx hb hr (fun t9 ht9 hW9 => ⟨⟨(-1), (), rfl, hG.symm, trivial⟩, hI.2.F ht9⟩) hI.2.2.2 dX5_coverDay_93
      · have hlt33 : i33 < npp S k := w_in (hQ.n67 k) hi33 (by have := hQ.b67 k; omega) c_5
        rw [show (npp S k) - i33 = ((npp S k) - (i33 + 1)) + 1 by omega] at hG
        have hG := hG.trans (rX5_coverDay_33_v2_s S k s_ i33 ((npp S k) - (i33 + 1)))
        refine lv_aload_n hx hb dX5_coverDay_44 rfl (lv_at hl 2 rfl) ?_
        refine cr_get (ci := 6) hC hI 8 k (hT.v8 hk) rfl rfl hinX5 5 (by decide) k_12 (fun _ h => h) (v := .ref (ga g 9 k)) rfl dX5_coverDay_45 ?_
        refine lv_iload_n hx hb dX5_coverDay_48 rfl (lv_at hl 0 rfl) ?_
        refine cr_get9 (rest := []) hC hI hV k hk rfl (n := i33) hlt33 (cwV 1 hts gX5_coverDay_Jx4a65c_get_915e3 rfl rfl rfl (by decide +kernel) ⟨Nat.le_of_ble_eq_true rfl, Nat.le_of_ble_eq_true rfl⟩) hl.1 (Nat.le_of_ble_eq_true rfl) dX5_coverDay_49 ⟨Nat.zero_le _, Nat.zero_le _⟩ (fun H locs hI => ?_)
        refine cr_cast (ci := 4) hC hI 11 (64 * k + i33) (hT.v11 hk hlt33 (hQ.b67 _)) rfl rfl (hts (.classLink RX5 62 "RelatorsBench$Paper") (List.mem_cons_of_mem _ (List.mem_append_left _ (List.mem_append_left _ (List.mem_append_left _ (List.mem_append_left _ (List.mem_append_left _ (List.mem_of_getElem? (i := 5) rfl)))))))) dX5_coverDay_52 ?_
        refine lv_astore (lv' := [(4, .ref (ga g 11 (64 * k + i33))), (3, .int (nI i33)), (2, .int 1), (0, .ref (ga g 8 k)), (1, .ref (ga g 5 s_))]) hx hb dX5_coverDay_55 hl (by decide) rfl (fun ls hl => ?_)
        refine lv_aload_n hx hb dX5_coverDay_57 rfl (lv_at hl 4 rfl) ?_
        refine lv_aload hx hb dX5_coverDay_58 (lv_at hl 0 rfl) ?_
        refine cr_get (ci := 4) hC hI 11 (64 * k + i33) (hT.v11 hk hlt33 (hQ.b67 _)) rfl rfl hinX3 0 (by decide) k_83 (fun _ h => h) (v := .int (S 65 (64 * k + i33))) rfl dX5_coverDay_60 ?_
        refine cr_call (As := [.int (S 65 (64 * k + i33))]) (rest := []) hC hI (qX4_hasHalfIn l D cy g S e0 hV s_ hs_ (S 65 (64 * k + i33))) (cwV 1 hts gX5_coverDay_X4_hasHalfIn rfl rfl rfl (by decide +kernel) ⟨Nat.le_of_ble_eq_true rfl, Nat.le_of_ble_eq_true rfl⟩) (cr_prev (ci := 5) hC hI 5 s_ (hT.v5 hs_) rfl rfl) rfl hl.1 rfl (Nat.le_of_ble_eq_true rfl) dX5_coverDay_63 ⟨Nat.zero_le _, Nat.zero_le _⟩ (fun H locs hI => ?_)
        refine lv_if_eq (tgt := 86) hx hb dX5_coverDay_66 (by decide) (fun c_6 => ?_) (fun c_6 => ?_)
        · have hG := hG.trans (if_pos c_6)
          refine lv_iinc (v := (nI (i33 + 1))) (lv' := [(3, .int (nI (i33 + 1))), (4, .ref (ga g 11 (64 * k + i33))), (2, .int 1), (0, .ref (ga g 8 k)), (1, .ref (ga g 5 s_))]) hx hb dX5_coverDay_86 hl (k := 1) rfl (nI_1 i33) (by decide) rfl (fun ls hl => ?_)
          refine lv_goto (tgt := 33) hx hb dX5_coverDay_89 (by decide) ?_
          exact ih33 () _ _ ls hlt33 ⟨hG, hI, lv_sub hl [0, 2, 3, 4] rfl⟩
        · have hG := hG.trans (if_neg c_6)
          refine lv_iload_n hx hb dX5_coverDay_69 rfl (lv_at hl 2 rfl) ?_
          refine lv_if_eq (tgt := 80) hx hb dX5_coverDay_70 (by decide) (fun c => absurd c (by decide : ¬ (1 : Int32) = 0)) (fun _ => ?_)
          refine lv_aload_n hx hb dX5_coverDay_73 rfl (lv_at hl 3 rfl) ?_
          refine cr_get (ci := 6) hC hI 8 k (hT.v8 hk) rfl rfl hinX5 4 (by decide) k_53 (fun _ h => h) (v := .int (S 33 k)) rfl dX5_coverDay_74 ?_
          refine lv_goto (tgt := 85) hx hb dX5_coverDay_77 (by decide) ?_
          exact W.iret (v := (S 33 k)) hx hb hr (fun t9 ht9 hW9 => ⟨⟨S 33 k, (), rfl, hG.symm, trivial⟩, hI.2.F ht9⟩) hI.2.2.2 dX5_coverDay_85
  · have hG := hG.trans (if_neg c_1)
    refine lv_iconst (v := (-1)) hx hb dX5_coverDay_11 (by decide) ?_
    exact W.iret (v := (-1)) hx hb hr (fun t9 ht9 hW9 => ⟨⟨(-1), (), rfl, hG.symm, trivial⟩, hI.2.F ht9⟩) hI.2.2.2 dX5_coverDay_12
set_option maxHeartbeats 4000000 in
set_option maxRecDepth 100000 in
theorem qX7_publicBy (l : Launch) (D : va_G) (cy : Nat → ClassId) (g : CWt) (S : St) (e0 : Nat) (hV : CV e0 g S) (day : Int32) : CPure l D cy g S yX7_publicBy wsX7_publicBy ({ frames := 0, cells := 0, slots := 0, locals := 0 } : Room) [.ref (ga g 18 0), .int day] (fX7_publicBy S day) := by
  refine Met.ofW (cc := cX7_publicBy) (maxL := 4) (ret := (some .int)) (by decide) rfl ?_
  intro p e s m args below meth c s₁ B hml hv
  obtain ⟨rfl, hM, hK⟩ := hv
  have hx := B.exec
  have hb := B.bytes
  have hr := B.returns
  have hts := atoms_spec (ws := wsX7_publicBy) B.pre
  have hown : s.vm.findClass RX7 = some m.cls := findClass_of_methodNamed B.named
  have hlocks := B.notSynchronized
  have hC : CC p s m _ c cX7_publicBy 4 RX7 D cy wsX7_publicBy := ⟨⟨hx, hb, hml, hown, hts⟩, hK⟩
  have hI : CI (fun _ => False) D cy g s S s.heap [] := ⟨hM, va_S.rf⟩
  have hT := hV.2.1
  have hN := hV.2.2.1
  have hQ := hV.2.2.2
  have hb7 := hN.b7
  have hb15 := hN.b15
  have hb23 := hN.b23
  have hb28 := hN.b28
  have hb42 := hN.b42
  have hb64 := hQ.b64
  have k_21 := hts (.fieldLink RX7 21 "RelatorsBench" "publicFrom" "[I") (List.mem_cons_of_mem _ (List.mem_append_left _ (List.mem_of_getElem? (i := 0) rfl)))
  have hinX7 : ∀ w ∈ wsX70, w ∈ wsX7_publicBy := fun _ h => List.mem_cons_of_mem _ (List.mem_append_right _ (h))
  have hl := lv_entry ([.ref (ga g 18 0), .int day]) (n := 4) (Nat.le_of_ble_eq_true rfl)
  rw [lg_entry_eq]
  generalize (lg_sl ([.ref (ga g 18 0), .int day]) ++ List.replicate (4 - (lg_sl ([.ref (ga g 18 0), .int day])).length) Slot.unset).toArray = ls at hl ⊢
  have hl : lv_has ls 4 [(0, .ref (ga g 18 0)), (1, .int day)] := hl
  have hG : fX7_publicBy S day = fX7_publicBy S day := rfl
  refine lv_iconst (v := 0) hx hb dX7_publicBy_0 (by decide) ?_
  refine lv_istore_n (lv' := [(2, .int 0), (0, .ref (ga g 18 0)), (1, .int day)]) hx hb dX7_publicBy_1 rfl hl (by decide) rfl (fun ls hl => ?_)
  refine lv_iconst (v := 0) hx hb dX7_publicBy_2 (by decide) ?_
  refine lv_istore_n (lv' := [(3, .int 0), (2, .int 0), (0, .ref (ga g 18 0)), (1, .int day)]) hx hb dX7_publicBy_3 rfl hl (by decide) rfl (fun ls hl => ?_)
  refine w_loop (σ := Int32) 16 4 (fun i4 z H locs ls => z = lX7_publicBy_4 S day i4 ∧ CI (fun _ => False) D cy g s S H locs ∧ lv_has ls 4 [(3, .int (nI i4)), (2, .int z), (0, .ref (ga g 18 0)), (1, .int day)]) ?_ 0 ⟨rfl, hI, lv_sub hl [0, 1, 2, 3] rfl⟩
  intro i4 z H locs ls ⟨hz4, hI, hl⟩ hi4 ih4
  obtain ⟨x4_2, rfl⟩ : ∃ x, x = z := ⟨_, rfl⟩
  refine lv_iload_n hx hb dX7_publicBy_4 rfl (lv_at hl 0 rfl) ?_
  refine lv_bipush (v := 16) hx hb dX7_publicBy_5 (by decide) ?_
  refine lv_icmp_ge (tgt := 42) hx hb dX7_publicBy_7 (by decide) (fun c_1 => ?_) (fun c_1 => ?_)
  · obtain rfl : i4 = 16 := w_exit (by decide : (16 : Int32) = nI 16) hi4 (by decide) c_1
    obtain rfl : x4_2 = (lX7_publicBy_4 S day 16) := by rw [← hz4]
    refine lv_iload_n hx hb dX7_publicBy_42 rfl (lv_at hl 1 rfl) ?_
    exact W.iret (v := (lX7_publicBy_4 S day 16)) hx hb hr (fun t9 ht9 hW9 => ⟨⟨(lX7_publicBy_4 S day 16), (), rfl, hG.symm, trivial⟩, hI.2.F ht9⟩) hI.2.2.2 dX7_publicBy_43
  · have hlt4 : i4 < 16 := w_in (by decide : (16 : Int32) = nI 16) hi4 (by decide) c_1
    have hB4 : iX7_publicBy_4 S day i4 x4_2 = iX7_publicBy_4 S day i4 x4_2 := rfl
    refine lv_aload_n hx hb dX7_publicBy_10 rfl (lv_at hl 2 rfl) ?_
    refine cr_get (ci := 8) hC hI 18 0 rfl rfl rfl hinX7 2 (by decide) k_21 (fun _ h => h) (v := .ref (ga g 16 0)) rfl dX7_publicBy_11 ?_
    refine lv_iload_n hx hb dX7_publicBy_14 rfl (lv_at hl 0 rfl) ?_
    refine cr_iald (N := 16) (f := (S 20)) hC hI 16 0 rfl rfl (show vp_in (nI i4) 16 from vp_in_nI (by omega) (by decide)) (v := (S 20 i4)) ((congrArg (S 20) (nI_clamp (by omega))).trans rfl) dX7_publicBy_15 ?_
    refine lv_iconst (v := (-1)) hx hb dX7_publicBy_16 (by decide) ?_
    refine lv_icmp_eq (tgt := 36) hx hb dX7_publicBy_17 (by decide) (fun c_2 => ?_) (fun c_2 => ?_)
    · have hB4 := hB4.trans (if_pos c_2)
      refine lv_iinc (v := (nI (i4 + 1))) (lv' := [(3, .int (nI (i4 + 1))), (2, .int x4_2), (0, .ref (ga g 18 0)), (1, .int day)]) hx hb dX7_publicBy_36 hl (k := 0) rfl (nI_1 i4) (by decide) rfl (fun ls hl => ?_)
      refine lv_goto (tgt := 4) hx hb dX7_publicBy_39 (by decide) ?_
      exact ih4 x4_2 _ _ ls hlt4 ⟨(by show _ = iX7_publicBy_4 S day i4 (lX7_publicBy_4 S day i4); rw [← hz4]; exact hB4.symm), hI, lv_sub hl [0, 1, 2, 3] rfl⟩
    · have hB4 := hB4.trans (if_neg c_2)
      refine lv_aload_n hx hb dX7_publicBy_20 rfl (lv_at hl 2 rfl) ?_
      refine cr_get (ci := 8) hC hI 18 0 rfl rfl rfl hinX7 2 (by decide) k_21 (fun _ h => h) (v := .ref (ga g 16 0)) rfl dX7_publicBy_21 ?_
      refine lv_iload_n hx hb dX7_publicBy_24 rfl (lv_at hl 0 rfl) ?_
      refine cr_iald (N := 16) (f := (S 20)) hC hI 16 0 rfl rfl (show vp_in (nI i4) 16 from vp_in_nI (by omega) (by decide)) (v := (S 20 i4)) ((congrArg (S 20) (nI_clamp (by omega))).trans rfl) dX7_publicBy_25 ?_
      refine lv_iload_n hx hb dX7_publicBy_26 rfl (lv_at hl 3 rfl) ?_
      refine lv_icmp_gt (tgt := 36) hx hb dX7_publicBy_27 (by decide) (fun c_3 => ?_) (fun c_3 => ?_)
      · have hB4 := hB4.trans (if_pos c_3)
        refine lv_iinc (v := (nI (i4 + 1))) (lv' := [(3, .int (nI (i4 + 1))), (2, .int x4_2), (0, .ref (ga g 18 0)), (1, .int day)]) hx hb dX7_publicBy_36 hl (k := 0) rfl (nI_1 i4) (by decide) rfl (fun ls hl => ?_)
        refine lv_goto (tgt := 4) hx hb dX7_publicBy_39 (by decide) ?_
        exact ih4 x4_2 _ _ ls hlt4 ⟨(by show _ = iX7_publicBy_4 S day i4 (lX7_publicBy_4 S day i4); rw [← hz4]; exact hB4.symm), hI, lv_sub hl [0, 1, 2, 3] rfl⟩
      · have hB4 := hB4.trans (if_neg c_3)
        refine lv_iload_n hx hb dX7_publicBy_30 rfl (lv_at hl 1 rfl) ?_
        refine lv_iconst (v := 1) hx hb dX7_publicBy_31 (by decide) ?_
        refine lv_iload_n hx hb dX7_publicBy_32 rfl (lv_at hl 0 rfl) ?_
        refine lv_ishl hx hb dX7_publicBy_33 ?_
        refine lv_ior hx hb dX7_publicBy_34 ?_
        refine lv_istore_n (lv' := [(2, .int (x4_2 ||| (1 <<< ((nI i4) &&& 31)))), (3, .int (nI i4)), (0, .ref (ga g 18 0)), (1, .int day)]) hx hb dX7_publicBy_35 rfl hl (by decide) rfl (fun ls hl => ?_)
        refine lv_iinc (v := (nI (i4 + 1))) (lv' := [(3, .int (nI (i4 + 1))), (2, .int (x4_2 ||| (1 <<< ((nI i4) &&& 31)))), (0, .ref (ga g 18 0)), (1, .int day)]) hx hb dX7_publicBy_36 hl (k := 1) rfl (nI_1 i4) (by decide) rfl (fun ls hl => ?_)
        refine lv_goto (tgt := 4) hx hb dX7_publicBy_39 (by decide) ?_
        exact ih4 (x4_2 ||| (1 <<< ((nI i4) &&& 31))) _ _ ls hlt4 ⟨(by show _ = iX7_publicBy_4 S day i4 (lX7_publicBy_4 S day i4); rw [← hz4]; exact hB4.symm), hI, lv_sub hl [0, 1, 2, 3] rfl⟩
set_option maxHeartbeats 4000000 in
set_option maxRecDepth 100000 in
theorem qX7_firstFor (l : Launch) (D : va_G) (cy : Nat → ClassId) (g : CWt) (S : St) (e0 : Nat) (hV : CV e0 g S) (s_ : Nat) (hs_ : s_ < nsc S) : CPure l D cy g S yX7_firstFor wsX7_firstFor ({ frames := 4, cells := 0, slots := 0, locals := 88 } : Room) [.ref (ga g 18 0), .ref (ga g 5 s_)] (fX7_firstFor S s_) := by
  refine Met.ofW (cc := cX7_firstFor) (maxL := 7) (ret := (some .int)) (by decide) rfl ?_
  intro p e s m args below meth c s₁ B hml hv
  obtain ⟨rfl, hM, hK⟩ := hv
  have hx := B.exec
  have hb := B.bytes
  have hr := B.returns
  have hts := atoms_spec (ws := wsX7_firstFor) B.pre
  have hown : s.vm.findClass RX7 = some m.cls := findClass_of_methodNamed B.named
  have hlocks := B.notSynchronized
  have hC : CC p s m _ c cX7_firstFor 7 RX7 D cy wsX7_firstFor := ⟨⟨hx, hb, hml, hown, hts⟩, hK⟩
  have hI : CI (fun _ => False) D cy g s S s.heap [] := ⟨hM, va_S.rf⟩
  have hT := hV.2.1
  have hN := hV.2.2.1
  have hQ := hV.2.2.2
  have hb7 := hN.b7
  have hb15 := hN.b15
  have hb23 := hN.b23
  have hb28 := hN.b28
  have hb42 := hN.b42
  have hb64 := hQ.b64
  have k_38 := hts (.fieldLink RX7 38 "RelatorsBench" "suits" "Ljava/util/ArrayList;") (List.mem_cons_of_mem _ (List.mem_append_left _ (List.mem_append_left _ (List.mem_append_left _ (List.mem_append_left _ (List.mem_append_left _ (List.mem_append_left _ (List.mem_of_getElem? (i := 0) rfl))))))))
  have hinX7 : ∀ w ∈ wsX70, w ∈ wsX7_firstFor := fun _ h => List.mem_cons_of_mem _ (List.mem_append_left _ (List.mem_append_left _ (List.mem_append_left _ (List.mem_append_left _ (List.mem_append_right _ (h))))))
  have k_195 := hts (.fieldLink RX7 195 "RelatorsBench$Suit" "state" "I") (List.mem_cons_of_mem _ (List.mem_append_left _ (List.mem_append_left _ (List.mem_append_left _ (List.mem_append_left _ (List.mem_append_left _ (List.mem_append_left _ (List.mem_of_getElem? (i := 2) rfl))))))))
  have hinX5 : ∀ w ∈ wsX50, w ∈ wsX7_firstFor := fun _ h => List.mem_cons_of_mem _ (List.mem_append_left _ (List.mem_append_left _ (List.mem_append_left _ (List.mem_append_right _ (h)))))
  have hl := lv_entry ([.ref (ga g 18 0), .ref (ga g 5 s_)]) (n := 7) (Nat.le_of_ble_eq_true rfl)
  rw [lg_entry_eq]
  generalize (lg_sl ([.ref (ga g 18 0), .ref (ga g 5 s_)]) ++ List.replicate (7 - (lg_sl ([.ref (ga g 18 0), .ref (ga g 5 s_)])).length) Slot.unset).toArray = ls at hl ⊢
  have hl : lv_has ls 7 [(0, .ref (ga g 18 0)), (1, .ref (ga g 5 s_))] := hl
  have hG : fX7_firstFor S s_ = fX7_firstFor S s_ := rfl
  refine lv_iconst (v := (-1)) hx hb dX7_firstFor_0 (by decide) ?_
  refine lv_istore_n (lv' := [(2, .int (-1)), (0, .ref (ga g 18 0)), (1, .ref (ga g 5 s_))]) hx hb dX7_firstFor_1 rfl hl (by decide) rfl (fun ls hl => ?_)
  refine lv_iconst (v := (-1)) hx hb dX7_firstFor_2 (by decide) ?_
  refine lv_istore_n (lv' := [(3, .int (-1)), (2, .int (-1)), (0, .ref (ga g 18 0)), (1, .ref (ga g 5 s_))]) hx hb dX7_firstFor_3 rfl hl (by decide) rfl (fun ls hl => ?_)
  refine lv_iconst (v := 0) hx hb dX7_firstFor_4 (by decide) ?_
  refine lv_istore (lv' := [(4, .int 0), (3, .int (-1)), (2, .int (-1)), (0, .ref (ga g 18 0)), (1, .ref (ga g 5 s_))]) hx hb dX7_firstFor_5 hl (by decide) rfl (fun ls hl => ?_)
  refine w_loop (σ := Int32 × Int32) (nsu S) 7 (fun i7 z H locs ls => z = lX7_firstFor_7 S s_ i7 ∧ CI (fun _ => False) D cy g s S H locs ∧ lv_has ls 7 [(4, .int (nI i7)), (3, .int z.1), (2, .int z.2), (0, .ref (ga g 18 0)), (1, .ref (ga g 5 s_))]) ?_ ((-1), (-1)) ⟨rfl, hI, lv_sub hl [0, 1, 2, 3, 4] rfl⟩
  intro i7 z H locs ls ⟨hz7, hI, hl⟩ hi7 ih7
  obtain ⟨x7_3, x7_2⟩ := z
  dsimp only at hI hl hz7
  refine lv_iload hx hb dX7_firstFor_7 (lv_at hl 0 rfl) ?_
  refine lv_aload_n hx hb dX7_firstFor_9 rfl (lv_at hl 3 rfl) ?_
  refine cr_get (ci := 8) hC hI 18 0 rfl rfl rfl hinX7 6 (by decide) k_38 (fun _ h => h) (v := .ref (ga g 12 3)) rfl dX7_firstFor_10 ?_
  refine cr_size (rest := [.int (nI i7)]) hC hI 12 3 (show 3 < 4 by decide) rfl (cwV 0 hts gX7_firstFor_Jx4a65c_size_8abf5 rfl rfl rfl (by decide +kernel) ⟨Nat.le_of_ble_eq_true rfl, Nat.le_of_ble_eq_true rfl⟩) (qAL_size0 l D cy (ga g 12 3) (ga g 13 3) (gm g 12 3) _) hl.1 (Nat.le_of_ble_eq_true rfl) dX7_firstFor_13 ⟨Nat.zero_le _, Nat.zero_le _⟩ (w := (S 28 0)) rfl (fun H locs hI => ?_)
  refine lv_icmp_ge (tgt := 83) hx hb dX7_firstFor_16 (by decide) (fun c_1 => ?_) (fun c_1 => ?_)
  · obtain rfl : i7 = nsu S := w_exit hN.n28 hi7 (by have := hN.b28; omega) c_1
    obtain rfl : x7_3 = (lX7_firstFor_7 S s_ (nsu S)).1 := by rw [← hz7]
    obtain rfl : x7_2 = (lX7_firstFor_7 S s_ (nsu S)).2 := by rw [← hz7]
    refine lv_iload_n hx hb dX7_firstFor_83 rfl (lv_at hl 2 rfl) ?_
    exact W.iret (v := ((lX7_firstFor_7 S s_ (nsu S)).2)) hx hb hr (fun t9 ht9 hW9 => ⟨⟨(lX7_firstFor_7 S s_ (nsu S)).2, (), rfl, hG.symm, trivial⟩, hI.2.F ht9⟩) hI.2.2.2 dX7_firstFor_84
  · have hlt7 : i7 < nsu S := w_in hN.n28 hi7 (by have := hN.b28; omega) c_1
    have hB7 : iX7_firstFor_7 S s_ i7 x7_3 x7_2 = iX7_firstFor_7 S s_ i7 x7_3 x7_2 := rfl
    refine lv_aload_n hx hb dX7_firstFor_19 rfl (lv_at hl 3 rfl) ?_
    refine cr_get (ci := 8) hC hI 18 0 rfl rfl rfl hinX7 6 (by decide) k_38 (fun _ h => h) (v := .ref (ga g 12 3)) rfl dX7_firstFor_20 ?_
    refine lv_iload hx hb dX7_firstFor_23 (lv_at hl 0 rfl) ?_
    refine cr_get12 (rest := []) hC hI hV 3 (by decide) rfl (n := i7) (hT.v8 hlt7) (cwV 1 hts gX7_firstFor_Jx4a65c_get_915e3 rfl rfl rfl (by decide +kernel) ⟨Nat.le_of_ble_eq_true rfl, Nat.le_of_ble_eq_true rfl⟩) hl.1 (Nat.le_of_ble_eq_true rfl) dX7_firstFor_25 ⟨Nat.zero_le _, Nat.zero_le _⟩ (fun H locs hI => ?_)
    refine cr_cast (ci := 6) hC hI 8 i7 (hT.v8 hlt7) rfl rfl (hts (.classLink RX7 163 "RelatorsBench$Suit") (List.mem_cons_of_mem _ (List.mem_append_left _ (List.mem_append_left _ (List.mem_append_left _ (List.mem_append_left _ (List.mem_append_left _ (List.mem_append_left _ (List.mem_of_getElem? (i := 1) rfl))))))))) dX7_firstFor_28 ?_
    refine lv_astore (lv' := [(5, .ref (ga g 8 i7)), (4, .int (nI i7)), (3, .int x7_3), (2, .int x7_2), (0, .ref (ga g 18 0)), (1, .ref (ga g 5 s_))]) hx hb dX7_firstFor_31 hl (by decide) rfl (fun ls hl => ?_)
    refine lv_aload hx hb dX7_firstFor_33 (lv_at hl 0 rfl) ?_
    refine cr_get (ci := 6) hC hI 8 i7 (hT.v8 hlt7) rfl rfl hinX5 7 (by decide) k_195 (fun _ h => h) (v := .int (S 34 i7)) rfl dX7_firstFor_35 ?_
    refine lv_iconst (v := 3) hx hb dX7_firstFor_38 (by decide) ?_
    refine lv_icmp_ne (tgt := 46) hx hb dX7_firstFor_39 (by decide) (fun c_2 => ?_) (fun c_2 => ?_)
    · have hB7 := hB7.trans (if_neg c_2)
      refine lv_aload hx hb dX7_firstFor_46 (lv_at hl 0 rfl) ?_
      refine lv_aload_n hx hb dX7_firstFor_48 rfl (lv_at hl 5 rfl) ?_
      refine cr_call (As := [.ref (ga g 5 s_)]) (rest := []) hC hI (qX5_coverDay l D cy g S e0 hV i7 hlt7 s_ hs_) (cwV 1 hts gX7_firstFor_X5_coverDay rfl rfl rfl (by decide +kernel) ⟨Nat.le_of_ble_eq_true rfl, Nat.le_of_ble_eq_true rfl⟩) (cr_prev (ci := 6) hC hI 8 i7 (hT.v8 hlt7) rfl rfl) rfl hl.1 rfl (Nat.le_of_ble_eq_true rfl) dX7_firstFor_49 ⟨Nat.zero_le _, Nat.zero_le _⟩ (fun H locs hI => ?_)
      refine lv_istore (lv' := [(6, .int (fX5_coverDay S i7 s_)), (5, .ref (ga g 8 i7)), (4, .int (nI i7)), (3, .int x7_3), (2, .int x7_2), (0, .ref (ga g 18 0)), (1, .ref (ga g 5 s_))]) hx hb dX7_firstFor_52 hl (by decide) rfl (fun ls hl => ?_)
      refine lv_iload hx hb dX7_firstFor_54 (lv_at hl 0 rfl) ?_
      refine lv_iconst (v := (-1)) hx hb dX7_firstFor_56 (by decide) ?_
      refine lv_icmp_eq (tgt := 77) hx hb dX7_firstFor_57 (by decide) (fun c_3 => ?_) (fun c_3 => ?_)
      · have hB7 := hB7.trans (if_pos c_3)
        refine lv_iinc (v := (nI (i7 + 1))) (lv' := [(4, .int (nI (i7 + 1))), (6, .int (fX5_coverDay S i7 s_)), (5, .ref (ga g 8 i7)), (3, .int x7_3), (2, .int x7_2), (0, .ref (ga g 18 0)), (1, .ref (ga g 5 s_))]) hx hb dX7_firstFor_77 hl (k := 2) rfl (nI_1 i7) (by decide) rfl (fun ls hl => ?_)
        refine lv_goto (tgt := 7) hx hb dX7_firstFor_80 (by decide) ?_
        exact ih7 (x7_3, x7_2) _ _ ls hlt7 ⟨(by show _ = iX7_firstFor_7 S s_ i7 (lX7_firstFor_7 S s_ i7).1 (lX7_firstFor_7 S s_ i7).2; rw [← hz7]; exact hB7.symm), hI, lv_sub hl [0, 3, 4, 5, 6] rfl⟩
      · have hB7 := hB7.trans (if_neg c_3)
        refine lv_iload_n hx hb dX7_firstFor_60 rfl (lv_at hl 4 rfl) ?_
        refine lv_iconst (v := (-1)) hx hb dX7_firstFor_61 (by decide) ?_
        refine lv_icmp_eq (tgt := 71) hx hb dX7_firstFor_62 (by decide) (fun c_4 => ?_) (fun c_4 => ?_)
        · have hB7 := hB7.trans (if_pos c_4)
          refine lv_iload hx hb dX7_firstFor_71 (lv_at hl 2 rfl) ?_
          refine lv_istore_n (lv' := [(2, .int (nI i7)), (6, .int (fX5_coverDay S i7 s_)), (5, .ref (ga g 8 i7)), (4, .int (nI i7)), (3, .int x7_3), (0, .ref (ga g 18 0)), (1, .ref (ga g 5 s_))]) hx hb dX7_firstFor_73 rfl hl (by decide) rfl (fun ls hl => ?_)
          refine lv_iload hx hb dX7_firstFor_74 (lv_at hl 1 rfl) ?_
          refine lv_istore_n (lv' := [(3, .int (fX5_coverDay S i7 s_)), (2, .int (nI i7)), (6, .int (fX5_coverDay S i7 s_)), (5, .ref (ga g 8 i7)), (4, .int (nI i7)), (0, .ref (ga g 18 0)), (1, .ref (ga g 5 s_))]) hx hb dX7_firstFor_76 rfl hl (by decide) rfl (fun ls hl => ?_)
          refine lv_iinc (v := (nI (i7 + 1))) (lv' := [(4, .int (nI (i7 + 1))), (3, .int (fX5_coverDay S i7 s_)), (2, .int (nI i7)), (6, .int (fX5_coverDay S i7 s_)), (5, .ref (ga g 8 i7)), (0, .ref (ga g 18 0)), (1, .ref (ga g 5 s_))]) hx hb dX7_firstFor_77 hl (k := 4) rfl (nI_1 i7) (by decide) rfl (fun ls hl => ?_)
          refine lv_goto (tgt := 7) hx hb dX7_firstFor_80 (by decide) ?_
          exact ih7 ((fX5_coverDay S i7 s_), nI i7) _ _ ls hlt7 ⟨(by show _ = iX7_firstFor_7 S s_ i7 (lX7_firstFor_7 S s_ i7).1 (lX7_firstFor_7 S s_ i7).2; rw [← hz7]; exact hB7.symm), hI, lv_sub hl [0, 1, 2, 5, 6] rfl⟩
        · have hB7 := hB7.trans (if_neg c_4)
          refine lv_iload hx hb dX7_firstFor_65 (lv_at hl 0 rfl) ?_
          refine lv_iload_n hx hb dX7_firstFor_67 rfl (lv_at hl 3 rfl) ?_
          refine lv_icmp_ge (tgt := 77) hx hb dX7_firstFor_68 (by decide) (fun c_5 => ?_) (fun c_5 => ?_)
          · have hB7 := hB7.trans (if_pos c_5)
            refine lv_iinc (v := (nI (i7 + 1))) (lv' := [(4, .int (nI (i7 + 1))), (6, .int (fX5_coverDay S i7 s_)), (5, .ref (ga g 8 i7)), (3, .int x7_3), (2, .int x7_2), (0, .ref (ga g 18 0)), (1, .ref (ga g 5 s_))]) hx hb dX7_firstFor_77 hl (k := 2) rfl (nI_1 i7) (by decide) rfl (fun ls hl => ?_)
            refine lv_goto (tgt := 7) hx hb dX7_firstFor_80 (by decide) ?_
            exact ih7 (x7_3, x7_2) _ _ ls hlt7 ⟨(by show _ = iX7_firstFor_7 S s_ i7 (lX7_firstFor_7 S s_ i7).1 (lX7_firstFor_7 S s_ i7).2; rw [← hz7]; exact hB7.symm), hI, lv_sub hl [0, 3, 4, 5, 6] rfl⟩
          · have hB7 := hB7.trans (if_neg c_5)
            refine lv_iload hx hb dX7_firstFor_71 (lv_at hl 2 rfl) ?_
            refine lv_istore_n (lv' := [(2, .int (nI i7)), (6, .int (fX5_coverDay S i7 s_)), (5, .ref (ga g 8 i7)), (4, .int (nI i7)), (3, .int x7_3), (0, .ref (ga g 18 0)), (1, .ref (ga g 5 s_))]) hx hb dX7_firstFor_73 rfl hl (by decide) rfl (fun ls hl => ?_)
            refine lv_iload hx hb dX7_firstFor_74 (lv_at hl 1 rfl) ?_
            refine lv_istore_n (lv' := [(3, .int (fX5_coverDay S i7 s_)), (2, .int (nI i7)), (6, .int (fX5_coverDay S i7 s_)), (5, .ref (ga g 8 i7)), (4, .int (nI i7)), (0, .ref (ga g 18 0)), (1, .ref (ga g 5 s_))]) hx hb dX7_firstFor_76 rfl hl (by decide) rfl (fun ls hl => ?_)
            refine lv_iinc (v := (nI (i7 + 1))) (lv' := [(4, .int (nI (i7 + 1))), (3, .int (fX5_coverDay S i7 s_)), (2, .int (nI i7)), (6, .int (fX5_coverDay S i7 s_)), (5, .ref (ga g 8 i7)), (0, .ref (ga g 18 0)), (1, .ref (ga g 5 s_))]) hx hb dX7_firstFor_77 hl (k := 4) rfl (nI_1 i7) (by decide) rfl (fun ls hl => ?_)
            refine lv_goto (tgt := 7) hx hb dX7_firstFor_80 (by decide) ?_
            exact ih7 ((fX5_coverDay S i7 s_), nI i7) _ _ ls hlt7 ⟨(by show _ = iX7_firstFor_7 S s_ i7 (lX7_firstFor_7 S s_ i7).1 (lX7_firstFor_7 S s_ i7).2; rw [← hz7]; exact hB7.symm), hI, lv_sub hl [0, 1, 2, 5, 6] rfl⟩
    · have hB7 := hB7.trans (if_pos c_2)
      refine lv_iconst (v := (-1)) hx hb dX7_firstFor_42 (by decide) ?_
      refine lv_goto (tgt := 52) hx hb dX7_firstFor_43 (by decide) ?_
      refine lv_istore (lv' := [(6, .int (-1)), (5, .ref (ga g 8 i7)), (4, .int (nI i7)), (3, .int x7_3), (2, .int x7_2), (0, .ref (ga g 18 0)), (1, .ref (ga g 5 s_))]) hx hb dX7_firstFor_52 hl (by decide) rfl (fun ls hl => ?_)
      refine lv_iload hx hb dX7_firstFor_54 (lv_at hl 0 rfl) ?_
      refine lv_iconst (v := (-1)) hx hb dX7_firstFor_56 (by decide) ?_
      refine lv_icmp_eq (tgt := 77) hx hb dX7_firstFor_57 (by decide) (fun _ => ?_) (fun c => absurd (by decide : ((-1) : Int32) = (-1)) c)
      refine lv_iinc (v := (nI (i7 + 1))) (lv' := [(4, .int (nI (i7 + 1))), (6, .int (-1)), (5, .ref (ga g 8 i7)), (3, .int x7_3), (2, .int x7_2), (0, .ref (ga g 18 0)), (1, .ref (ga g 5 s_))]) hx hb dX7_firstFor_77 hl (k := 2) rfl (nI_1 i7) (by decide) rfl (fun ls hl => ?_)
      refine lv_goto (tgt := 7) hx hb dX7_firstFor_80 (by decide) ?_
      exact ih7 (x7_3, x7_2) _ _ ls hlt7 ⟨(by show _ = iX7_firstFor_7 S s_ i7 (lX7_firstFor_7 S s_ i7).1 (lX7_firstFor_7 S s_ i7).2; rw [← hz7]; exact hB7.symm), hI, lv_sub hl [0, 3, 4, 5, 6] rfl⟩
set_option maxHeartbeats 4000000 in
set_option maxRecDepth 100000 in
theorem qX7_lowestCoveringFrom (l : Launch) (D : va_G) (cy : Nat → ClassId) (g : CWt) (S : St) (e0 : Nat) (hV : CV e0 g S) (day : Int32) (s_ : Nat) (hs_ : s_ < nsc S) : CPure l D cy g S yX7_lowestCoveringFrom wsX7_lowestCoveringFrom ({ frames := 4, cells := 0, slots := 0, locals := 88 } : Room) [.ref (ga g 18 0), .int day, .ref (ga g 5 s_)] (fX7_lowestCoveringFrom S day s_) := by
  refine Met.ofW (cc := cX7_lowestCoveringFrom) (maxL := 5) (ret := (some .int)) (by decide) rfl ?_
  intro p e s m args below meth c s₁ B hml hv
  obtain ⟨rfl, hM, hK⟩ := hv
  have hx := B.exec
  have hb := B.bytes
  have hr := B.returns
  have hts := atoms_spec (ws := wsX7_lowestCoveringFrom) B.pre
  have hown : s.vm.findClass RX7 = some m.cls := findClass_of_methodNamed B.named
  have hlocks := B.notSynchronized
  have hC : CC p s m _ c cX7_lowestCoveringFrom 5 RX7 D cy wsX7_lowestCoveringFrom := ⟨⟨hx, hb, hml, hown, hts⟩, hK⟩
  have hI : CI (fun _ => False) D cy g s S s.heap [] := ⟨hM, va_S.rf⟩
  have hT := hV.2.1
  have hN := hV.2.2.1
  have hQ := hV.2.2.2
  have hb7 := hN.b7
  have hb15 := hN.b15
  have hb23 := hN.b23
  have hb28 := hN.b28
  have hb42 := hN.b42
  have hb64 := hQ.b64
  have k_38 := hts (.fieldLink RX7 38 "RelatorsBench" "suits" "Ljava/util/ArrayList;") (List.mem_cons_of_mem _ (List.mem_append_left _ (List.mem_append_left _ (List.mem_append_left _ (List.mem_append_left _ (List.mem_append_left _ (List.mem_append_left _ (List.mem_of_getElem? (i := 0) rfl))))))))
  have hinX7 : ∀ w ∈ wsX70, w ∈ wsX7_lowestCoveringFrom := fun _ h => List.mem_cons_of_mem _ (List.mem_append_left _ (List.mem_append_left _ (List.mem_append_left _ (List.mem_append_left _ (List.mem_append_right _ (h))))))
  have k_195 := hts (.fieldLink RX7 195 "RelatorsBench$Suit" "state" "I") (List.mem_cons_of_mem _ (List.mem_append_left _ (List.mem_append_left _ (List.mem_append_left _ (List.mem_append_left _ (List.mem_append_left _ (List.mem_append_left _ (List.mem_of_getElem? (i := 2) rfl))))))))
  have hinX5 : ∀ w ∈ wsX50, w ∈ wsX7_lowestCoveringFrom := fun _ h => List.mem_cons_of_mem _ (List.mem_append_left _ (List.mem_append_left _ (List.mem_append_left _ (List.mem_append_right _ (h)))))
  have hl := lv_entry ([.ref (ga g 18 0), .int day, .ref (ga g 5 s_)]) (n := 5) (Nat.le_of_ble_eq_true rfl)
  rw [lg_entry_eq]
  generalize (lg_sl ([.ref (ga g 18 0), .int day, .ref (ga g 5 s_)]) ++ List.replicate (5 - (lg_sl ([.ref (ga g 18 0), .int day, .ref (ga g 5 s_)])).length) Slot.unset).toArray = ls at hl ⊢
  have hl : lv_has ls 5 [(0, .ref (ga g 18 0)), (1, .int day), (2, .ref (ga g 5 s_))] := hl
  have hG : fX7_lowestCoveringFrom S day s_ = fX7_lowestCoveringFrom S day s_ := rfl
  refine lv_iconst (v := 0) hx hb dX7_lowestCoveringFrom_0 (by decide) ?_
  refine lv_istore_n (lv' := [(3, .int 0), (0, .ref (ga g 18 0)), (1, .int day), (2, .ref (ga g 5 s_))]) hx hb dX7_lowestCoveringFrom_1 rfl hl (by decide) rfl (fun ls hl => ?_)
  refine w_loop (σ := Unit) (nsu S) 2 (fun i2 z H locs ls => fX7_lowestCoveringFrom S day s_ = rX7_lowestCoveringFrom_2 S day s_ ((nsu S) - i2) i2 ∧ CI (fun _ => False) D cy g s S H locs ∧ lv_has ls 5 [(3, .int (nI i2)), (0, .ref (ga g 18 0)), (1, .int day), (2, .ref (ga g 5 s_))]) ?_ () ⟨hG, hI, lv_sub hl [0, 1, 2, 3] rfl⟩
  intro i2 z H locs ls ⟨hG, hI, hl⟩ hi2 ih2
  refine lv_iload_n hx hb dX7_lowestCoveringFrom_2 rfl (lv_at hl 0 rfl) ?_
  refine lv_aload_n hx hb dX7_lowestCoveringFrom_3 rfl (lv_at hl 1 rfl) ?_
  refine cr_get (ci := 8) hC hI 18 0 rfl rfl rfl hinX7 6 (by decide) k_38 (fun _ h => h) (v := .ref (ga g 12 3)) rfl dX7_lowestCoveringFrom_4 ?_
  refine cr_size (rest := [.int (nI i2)]) hC hI 12 3 (show 3 < 4 by decide) rfl (cwV 0 hts gX7_lowestCoveringFrom_Jx4a65c_size_8abf5 rfl rfl rfl (by decide +kernel) ⟨Nat.le_of_ble_eq_true rfl, Nat.le_of_ble_eq_true rfl⟩) (qAL_size0 l D cy (ga g 12 3) (ga g 13 3) (gm g 12 3) _) hl.1 (Nat.le_of_ble_eq_true rfl) dX7_lowestCoveringFrom_7 ⟨Nat.zero_le _, Nat.zero_le _⟩ (w := (S 28 0)) rfl (fun H locs hI => ?_)
  refine lv_icmp_ge (tgt := 53) hx hb dX7_lowestCoveringFrom_10 (by decide) (fun c_1 => ?_) (fun c_1 => ?_)
  · have hxN : i2 = nsu S := w_exit hN.n28 hi2 (by have := hN.b28; omega) c_1
    rw [show (nsu S) - i2 = 0 by omega] at hG
    have hG := hG.trans (rX7_lowestCoveringFrom_2_0 S day s_ i2)
    refine lv_iconst (v := (-1)) hx hb dX7_lowestCoveringFrom_53 (by decide) ?_
    exact W.iret (v := (-1)) hx hb hr (fun t9 ht9 hW9 => ⟨⟨(-1), (), rfl, hG.symm, trivial⟩, hI.2.F ht9⟩) hI.2.2.2 dX7_lowestCoveringFrom_54
  · have hlt2 : i2 < nsu S := w_in hN.n28 hi2 (by have := hN.b28; omega) c_1
    rw [show (nsu S) - i2 = ((nsu S) - (i2 + 1)) + 1 by omega] at hG
    have hG := hG.trans (rX7_lowestCoveringFrom_2_s S day s_ i2 ((nsu S) - (i2 + 1)))
    refine lv_aload_n hx hb dX7_lowestCoveringFrom_13 rfl (lv_at hl 1 rfl) ?_
    refine cr_get (ci := 8) hC hI 18 0 rfl rfl rfl hinX7 6 (by decide) k_38 (fun _ h => h) (v := .ref (ga g 12 3)) rfl dX7_lowestCoveringFrom_14 ?_
    refine lv_iload_n hx hb dX7_lowestCoveringFrom_17 rfl (lv_at hl 0 rfl) ?_
    refine cr_get12 (rest := []) hC hI hV 3 (by decide) rfl (n := i2) (hT.v8 hlt2) (cwV 1 hts gX7_lowestCoveringFrom_Jx4a65c_get_915e3 rfl rfl rfl (by decide +kernel) ⟨Nat.le_of_ble_eq_true rfl, Nat.le_of_ble_eq_true rfl⟩) hl.1 (Nat.le_of_ble_eq_true rfl) dX7_lowestCoveringFrom_18 ⟨Nat.zero_le _, Nat.zero_le _⟩ (fun H locs hI => ?_)
    refine cr_cast (ci := 6) hC hI 8 i2 (hT.v8 hlt2) rfl rfl (hts (.classLink RX7 163 "RelatorsBench$Suit") (List.mem_cons_of_mem _ (List.mem_append_left _ (List.mem_append_left _ (List.mem_append_left _ (List.mem_append_left _ (List.mem_append_left _ (List.mem_append_left _ (List.mem_of_getElem? (i := 1) rfl))))))))) dX7_lowestCoveringFrom_21 ?_
    refine lv_astore (lv' := [(4, .ref (ga g 8 i2)), (3, .int (nI i2)), (0, .ref (ga g 18 0)), (1, .int day), (2, .ref (ga g 5 s_))]) hx hb dX7_lowestCoveringFrom_24 hl (by decide) rfl (fun ls hl => ?_)
    refine lv_aload hx hb dX7_lowestCoveringFrom_26 (lv_at hl 0 rfl) ?_
    refine cr_get (ci := 6) hC hI 8 i2 (hT.v8 hlt2) rfl rfl hinX5 7 (by decide) k_195 (fun _ h => h) (v := .int (S 34 i2)) rfl dX7_lowestCoveringFrom_28 ?_
    refine lv_iconst (v := 3) hx hb dX7_lowestCoveringFrom_31 (by decide) ?_
    refine lv_icmp_eq (tgt := 47) hx hb dX7_lowestCoveringFrom_32 (by decide) (fun c_2 => ?_) (fun c_2 => ?_)
    · have hG := hG.trans (if_pos c_2)
      refine lv_iinc (v := (nI (i2 + 1))) (lv' := [(3, .int (nI (i2 + 1))), (4, .ref (ga g 8 i2)), (0, .ref (ga g 18 0)), (1, .int day), (2, .ref (ga g 5 s_))]) hx hb dX7_lowestCoveringFrom_47 hl (k := 1) rfl (nI_1 i2) (by decide) rfl (fun ls hl => ?_)
      refine lv_goto (tgt := 2) hx hb dX7_lowestCoveringFrom_50 (by decide) ?_
      exact ih2 () _ _ ls hlt2 ⟨hG, hI, lv_sub hl [0, 2, 3, 4] rfl⟩
    · have hG := hG.trans (if_neg c_2)
      refine lv_aload hx hb dX7_lowestCoveringFrom_35 (lv_at hl 0 rfl) ?_
      refine lv_aload_n hx hb dX7_lowestCoveringFrom_37 rfl (lv_at hl 4 rfl) ?_
      refine cr_call (As := [.ref (ga g 5 s_)]) (rest := []) hC hI (qX5_coverDay l D cy g S e0 hV i2 hlt2 s_ hs_) (cwV 1 hts gX7_lowestCoveringFrom_X5_coverDay rfl rfl rfl (by decide +kernel) ⟨Nat.le_of_ble_eq_true rfl, Nat.le_of_ble_eq_true rfl⟩) (cr_prev (ci := 6) hC hI 8 i2 (hT.v8 hlt2) rfl rfl) rfl hl.1 rfl (Nat.le_of_ble_eq_true rfl) dX7_lowestCoveringFrom_38 ⟨Nat.zero_le _, Nat.zero_le _⟩ (fun H locs hI => ?_)
      refine lv_iload_n hx hb dX7_lowestCoveringFrom_41 rfl (lv_at hl 3 rfl) ?_
      refine lv_icmp_ne (tgt := 47) hx hb dX7_lowestCoveringFrom_42 (by decide) (fun c_3 => ?_) (fun c_3 => ?_)
      · have hG := hG.trans (if_neg c_3)
        refine lv_iinc (v := (nI (i2 + 1))) (lv' := [(3, .int (nI (i2 + 1))), (4, .ref (ga g 8 i2)), (0, .ref (ga g 18 0)), (1, .int day), (2, .ref (ga g 5 s_))]) hx hb dX7_lowestCoveringFrom_47 hl (k := 1) rfl (nI_1 i2) (by decide) rfl (fun ls hl => ?_)
        refine lv_goto (tgt := 2) hx hb dX7_lowestCoveringFrom_50 (by decide) ?_
        exact ih2 () _ _ ls hlt2 ⟨hG, hI, lv_sub hl [0, 2, 3, 4] rfl⟩
      · have hG := hG.trans (if_pos c_3)
        refine lv_iload_n hx hb dX7_lowestCoveringFrom_45 rfl (lv_at hl 1 rfl) ?_
        exact W.iret (v := (nI i2)) hx hb hr (fun t9 ht9 hW9 => ⟨⟨nI i2, (), rfl, hG.symm, trivial⟩, hI.2.F ht9⟩) hI.2.2.2 dX7_lowestCoveringFrom_46
set_option maxHeartbeats 4000000 in
set_option maxRecDepth 100000 in
theorem qX7_restsOnThePublic (l : Launch) (D : va_G) (cy : Nat → ClassId) (g : CWt) (S : St) (e0 : Nat) (hV : CV e0 g S) (k : Nat) (hk : k < nsu S) (s_ : Nat) (hs_ : s_ < nsc S) (covered : Int32) : CPure l D cy g S yX7_restsOnThePublic wsX7_restsOnThePublic ({ frames := 2, cells := 0, slots := 0, locals := 41 } : Room) [.ref (ga g 18 0), .ref (ga g 8 k), .ref (ga g 5 s_), .int covered] (fX7_restsOnThePublic S k s_ covered) := by
  refine Met.ofW (cc := cX7_restsOnThePublic) (maxL := 6) (ret := (some .boolean)) (by decide) rfl ?_
  intro p e s m args below meth c s₁ B hml hv
  obtain ⟨rfl, hM, hK⟩ := hv
  have hx := B.exec
  have hb := B.bytes
  have hr := B.returns
  have hts := atoms_spec (ws := wsX7_restsOnThePublic) B.pre
  have hown : s.vm.findClass RX7 = some m.cls := findClass_of_methodNamed B.named
  have hlocks := B.notSynchronized
  have hC : CC p s m _ c cX7_restsOnThePublic 6 RX7 D cy wsX7_restsOnThePublic := ⟨⟨hx, hb, hml, hown, hts⟩, hK⟩
  have hI : CI (fun _ => False) D cy g s S s.heap [] := ⟨hM, va_S.rf⟩
  have hT := hV.2.1
  have hN := hV.2.2.1
  have hQ := hV.2.2.2
  have hb7 := hN.b7
  have hb15 := hN.b15
  have hb23 := hN.b23
  have hb28 := hN.b28
  have hb42 := hN.b42
  have hb64 := hQ.b64
  have k_341 := hts (.fieldLink RX7 341 "RelatorsBench$Scheme" "facts" "I") (List.mem_cons_of_mem _ (List.mem_append_left _ (List.mem_append_left _ (List.mem_append_left _ (List.mem_of_getElem? (i := 0) rfl)))))
  have hinX4 : ∀ w ∈ wsX40, w ∈ wsX7_restsOnThePublic := fun _ h => List.mem_cons_of_mem _ (List.mem_append_left _ (List.mem_append_left _ (List.mem_append_right _ (h))))
  have k_185 := hts (.fieldLink RX7 185 "RelatorsBench$Suit" "facts" "I") (List.mem_cons_of_mem _ (List.mem_append_left _ (List.mem_append_left _ (List.mem_append_left _ (List.mem_of_getElem? (i := 1) rfl)))))
  have hinX5 : ∀ w ∈ wsX50, w ∈ wsX7_restsOnThePublic := fun _ h => List.mem_cons_of_mem _ (List.mem_append_left _ (List.mem_append_right _ (h)))
  have k_198 := hts (.fieldLink RX7 198 "RelatorsBench$Suit" "wasJoined" "Z") (List.mem_cons_of_mem _ (List.mem_append_left _ (List.mem_append_left _ (List.mem_append_left _ (List.mem_of_getElem? (i := 2) rfl)))))
  have hl := lv_entry ([.ref (ga g 18 0), .ref (ga g 8 k), .ref (ga g 5 s_), .int covered]) (n := 6) (Nat.le_of_ble_eq_true rfl)
  rw [lg_entry_eq]
  generalize (lg_sl ([.ref (ga g 18 0), .ref (ga g 8 k), .ref (ga g 5 s_), .int covered]) ++ List.replicate (6 - (lg_sl ([.ref (ga g 18 0), .ref (ga g 8 k), .ref (ga g 5 s_), .int covered])).length) Slot.unset).toArray = ls at hl ⊢
  have hl : lv_has ls 6 [(0, .ref (ga g 18 0)), (1, .ref (ga g 8 k)), (2, .ref (ga g 5 s_)), (3, .int covered)] := hl
  have hG : fX7_restsOnThePublic S k s_ covered = fX7_restsOnThePublic S k s_ covered := rfl
  refine lv_aload_n hx hb dX7_restsOnThePublic_0 rfl (lv_at hl 0 rfl) ?_
  refine lv_iload_n hx hb dX7_restsOnThePublic_1 rfl (lv_at hl 3 rfl) ?_
  refine cr_call (As := [.int covered]) (rest := []) hC hI (qX7_publicBy l D cy g S e0 hV covered) (cwV 1 hts gX7_restsOnThePublic_X7_publicBy rfl rfl rfl (by decide +kernel) ⟨Nat.le_of_ble_eq_true rfl, Nat.le_of_ble_eq_true rfl⟩) (cr_prev (ci := 8) hC hI 18 0 rfl rfl rfl) rfl hl.1 rfl (Nat.le_of_ble_eq_true rfl) dX7_restsOnThePublic_2 ⟨Nat.zero_le _, Nat.zero_le _⟩ (fun H locs hI => ?_)
  refine lv_istore (lv' := [(4, .int (fX7_publicBy S covered)), (0, .ref (ga g 18 0)), (1, .ref (ga g 8 k)), (2, .ref (ga g 5 s_)), (3, .int covered)]) hx hb dX7_restsOnThePublic_5 hl (by decide) rfl (fun ls hl => ?_)
  refine lv_aload_n hx hb dX7_restsOnThePublic_7 rfl (lv_at hl 3 rfl) ?_
  refine cr_get (ci := 5) hC hI 5 s_ (hT.v5 hs_) rfl rfl hinX4 2 (by decide) k_341 (fun _ h => h) (v := .int (S 9 s_)) rfl dX7_restsOnThePublic_8 ?_
  refine lv_iload hx hb dX7_restsOnThePublic_11 (lv_at hl 0 rfl) ?_
  refine lv_iconst (v := (-1)) hx hb dX7_restsOnThePublic_13 (by decide) ?_
  refine lv_ixor hx hb dX7_restsOnThePublic_14 ?_
  refine lv_iand hx hb dX7_restsOnThePublic_15 ?_
  refine lv_istore (lv' := [(5, .int ((S 9 s_) &&& ((fX7_publicBy S covered) ^^^ (-1)))), (4, .int (fX7_publicBy S covered)), (0, .ref (ga g 18 0)), (1, .ref (ga g 8 k)), (2, .ref (ga g 5 s_)), (3, .int covered)]) hx hb dX7_restsOnThePublic_16 hl (by decide) rfl (fun ls hl => ?_)
  refine lv_aload_n hx hb dX7_restsOnThePublic_18 rfl (lv_at hl 4 rfl) ?_
  refine lv_iload hx hb dX7_restsOnThePublic_19 (lv_at hl 1 rfl) ?_
  refine cr_call (As := [.int (fX7_publicBy S covered)]) (rest := []) hC hI (qX4_hasHalfIn l D cy g S e0 hV s_ hs_ (fX7_publicBy S covered)) (cwV 1 hts gX7_restsOnThePublic_X4_hasHalfIn rfl rfl rfl (by decide +kernel) ⟨Nat.le_of_ble_eq_true rfl, Nat.le_of_ble_eq_true rfl⟩) (cr_prev (ci := 5) hC hI 5 s_ (hT.v5 hs_) rfl rfl) rfl hl.1 rfl (Nat.le_of_ble_eq_true rfl) dX7_restsOnThePublic_21 ⟨Nat.zero_le _, Nat.zero_le _⟩ (fun H locs hI => ?_)
  refine lv_if_eq (tgt := 48) hx hb dX7_restsOnThePublic_24 (by decide) (fun c_1 => ?_) (fun c_1 => ?_)
  · have hG := hG.trans (if_pos c_1)
    refine lv_iconst (v := 0) hx hb dX7_restsOnThePublic_48 (by decide) ?_
    exact W.zret (v := 0) (ty := .boolean) hx hb hr rfl (fun t9 ht9 hW9 => ⟨⟨0, (), rfl, hG.symm, trivial⟩, hI.2.F ht9⟩) hI.2.2.2 dX7_restsOnThePublic_49
  · have hG := hG.trans (if_neg c_1)
    refine lv_aload_n hx hb dX7_restsOnThePublic_27 rfl (lv_at hl 3 rfl) ?_
    refine cr_get (ci := 6) hC hI 8 k (hT.v8 hk) rfl rfl hinX5 6 (by decide) k_185 (fun _ h => h) (v := .int (S 32 k)) rfl dX7_restsOnThePublic_28 ?_
    refine lv_iload hx hb dX7_restsOnThePublic_31 (lv_at hl 0 rfl) ?_
    refine lv_iand hx hb dX7_restsOnThePublic_33 ?_
    refine lv_if_ne (tgt := 48) hx hb dX7_restsOnThePublic_34 (by decide) (fun c_2 => ?_) (fun c_2 => ?_)
    · have hG := hG.trans (if_neg c_2)
      refine lv_iconst (v := 0) hx hb dX7_restsOnThePublic_48 (by decide) ?_
      exact W.zret (v := 0) (ty := .boolean) hx hb hr rfl (fun t9 ht9 hW9 => ⟨⟨0, (), rfl, hG.symm, trivial⟩, hI.2.F ht9⟩) hI.2.2.2 dX7_restsOnThePublic_49
    · have hG := hG.trans (if_pos c_2)
      refine lv_aload_n hx hb dX7_restsOnThePublic_37 rfl (lv_at hl 3 rfl) ?_
      refine cr_get (ci := 6) hC hI 8 k (hT.v8 hk) rfl rfl hinX5 8 (by decide) k_198 (fun _ h => h) (v := .int (S 35 k)) rfl dX7_restsOnThePublic_38 ?_
      refine lv_if_ne (tgt := 48) hx hb dX7_restsOnThePublic_41 (by decide) (fun c_3 => ?_) (fun c_3 => ?_)
      · have hG := hG.trans (if_neg c_3)
        refine lv_iconst (v := 0) hx hb dX7_restsOnThePublic_48 (by decide) ?_
        exact W.zret (v := 0) (ty := .boolean) hx hb hr rfl (fun t9 ht9 hW9 => ⟨⟨0, (), rfl, hG.symm, trivial⟩, hI.2.F ht9⟩) hI.2.2.2 dX7_restsOnThePublic_49
      · have hG := hG.trans (if_pos c_3)
        refine lv_iconst (v := 1) hx hb dX7_restsOnThePublic_44 (by decide) ?_
        refine lv_goto (tgt := 49) hx hb dX7_restsOnThePublic_45 (by decide) ?_
        exact W.zret (v := 1) (ty := .boolean) hx hb hr rfl (fun t9 ht9 hW9 => ⟨⟨1, (), rfl, hG.symm, trivial⟩, hI.2.F ht9⟩) hI.2.2.2 dX7_restsOnThePublic_49
set_option maxHeartbeats 4000000 in
set_option maxRecDepth 100000 in
theorem qX7_barOf (l : Launch) (D : va_G) (cy : Nat → ClassId) (g : CWt) (S : St) (e0 : Nat) (hV : CV e0 g S) (k : Nat) (hk : k < nsu S) (s_ : Nat) (hs_ : s_ < nsc S) : CPure l D cy g S yX7_barOf wsX7_barOf ({ frames := 5, cells := 0, slots := 0, locals := 114 } : Room) [.ref (ga g 18 0), .ref (ga g 8 k), .ref (ga g 5 s_)] (fX7_barOf S k s_) := by
  refine Met.ofW (cc := cX7_barOf) (maxL := 4) (ret := (some .int)) (by decide) rfl ?_
  intro p e s m args below meth c s₁ B hml hv
  obtain ⟨rfl, hM, hK⟩ := hv
  have hx := B.exec
  have hb := B.bytes
  have hr := B.returns
  have hts := atoms_spec (ws := wsX7_barOf) B.pre
  have hown : s.vm.findClass RX7 = some m.cls := findClass_of_methodNamed B.named
  have hlocks := B.notSynchronized
  have hC : CC p s m _ c cX7_barOf 4 RX7 D cy wsX7_barOf := ⟨⟨hx, hb, hml, hown, hts⟩, hK⟩
  have hI : CI (fun _ => False) D cy g s S s.heap [] := ⟨hM, va_S.rf⟩
  have hT := hV.2.1
  have hN := hV.2.2.1
  have hQ := hV.2.2.2
  have hb7 := hN.b7
  have hb15 := hN.b15
  have hb23 := hN.b23
  have hb28 := hN.b28
  have hb42 := hN.b42
  have hb64 := hQ.b64
  have k_334 := hts (.fieldLink RX7 334 "RelatorsBench$Suit" "number" "I") (List.mem_cons_of_mem _ (List.mem_append_left _ (List.mem_append_left _ (List.mem_append_left _ (List.mem_append_left _ (List.mem_append_left _ (List.mem_append_left _ (List.mem_of_getElem? (i := 0) rfl))))))))
  have hinX5 : ∀ w ∈ wsX50, w ∈ wsX7_barOf := fun _ h => List.mem_cons_of_mem _ (List.mem_append_left _ (List.mem_append_left _ (List.mem_append_left _ (List.mem_append_left _ (List.mem_append_right _ (h))))))
  have hl := lv_entry ([.ref (ga g 18 0), .ref (ga g 8 k), .ref (ga g 5 s_)]) (n := 4) (Nat.le_of_ble_eq_true rfl)
  rw [lg_entry_eq]
  generalize (lg_sl ([.ref (ga g 18 0), .ref (ga g 8 k), .ref (ga g 5 s_)]) ++ List.replicate (4 - (lg_sl ([.ref (ga g 18 0), .ref (ga g 8 k), .ref (ga g 5 s_)])).length) Slot.unset).toArray = ls at hl ⊢
  have hl : lv_has ls 4 [(0, .ref (ga g 18 0)), (1, .ref (ga g 8 k)), (2, .ref (ga g 5 s_))] := hl
  have hG : fX7_barOf S k s_ = fX7_barOf S k s_ := rfl
  refine lv_aload_n hx hb dX7_barOf_0 rfl (lv_at hl 1 rfl) ?_
  refine lv_aload_n hx hb dX7_barOf_1 rfl (lv_at hl 2 rfl) ?_
  refine cr_call (As := [.ref (ga g 5 s_)]) (rest := []) hC hI (qX5_coverDay l D cy g S e0 hV k hk s_ hs_) (cwV 1 hts gX7_barOf_X5_coverDay rfl rfl rfl (by decide +kernel) ⟨Nat.le_of_ble_eq_true rfl, Nat.le_of_ble_eq_true rfl⟩) (cr_prev (ci := 6) hC hI 8 k (hT.v8 hk) rfl rfl) rfl hl.1 rfl (Nat.le_of_ble_eq_true rfl) dX7_barOf_2 ⟨Nat.zero_le _, Nat.zero_le _⟩ (fun H locs hI => ?_)
  refine lv_istore_n (lv' := [(3, .int (fX5_coverDay S k s_)), (0, .ref (ga g 18 0)), (1, .ref (ga g 8 k)), (2, .ref (ga g 5 s_))]) hx hb dX7_barOf_5 rfl hl (by decide) rfl (fun ls hl => ?_)
  refine lv_iload_n hx hb dX7_barOf_6 rfl (lv_at hl 0 rfl) ?_
  refine lv_iconst (v := (-1)) hx hb dX7_barOf_7 (by decide) ?_
  refine lv_icmp_ne (tgt := 13) hx hb dX7_barOf_8 (by decide) (fun c_1 => ?_) (fun c_1 => ?_)
  · have hG := hG.trans (if_neg c_1)
    refine lv_aload_n hx hb dX7_barOf_13 rfl (lv_at hl 1 rfl) ?_
    refine lv_aload_n hx hb dX7_barOf_14 rfl (lv_at hl 3 rfl) ?_
    refine cr_call (As := [.ref (ga g 5 s_)]) (rest := []) hC hI (qX7_firstFor l D cy g S e0 hV s_ hs_) (cwV 1 hts gX7_barOf_X7_firstFor rfl rfl rfl (by decide +kernel) ⟨Nat.le_of_ble_eq_true rfl, Nat.le_of_ble_eq_true rfl⟩) (cr_prev (ci := 8) hC hI 18 0 rfl rfl rfl) rfl hl.1 rfl (Nat.le_of_ble_eq_true rfl) dX7_barOf_15 ⟨Nat.zero_le _, Nat.zero_le _⟩ (fun H locs hI => ?_)
    refine lv_aload_n hx hb dX7_barOf_18 rfl (lv_at hl 2 rfl) ?_
    refine cr_get (ci := 6) hC hI 8 k (hT.v8 hk) rfl rfl hinX5 0 (by decide) k_334 (fun _ h => h) (v := .int (nI k)) rfl dX7_barOf_19 ?_
    refine lv_icmp_eq (tgt := 27) hx hb dX7_barOf_22 (by decide) (fun c_2 => ?_) (fun c_2 => ?_)
    · have hG := hG.trans (if_pos c_2)
      refine lv_aload_n hx hb dX7_barOf_27 rfl (lv_at hl 1 rfl) ?_
      refine lv_aload_n hx hb dX7_barOf_28 rfl (lv_at hl 2 rfl) ?_
      refine lv_aload_n hx hb dX7_barOf_29 rfl (lv_at hl 3 rfl) ?_
      refine lv_iload_n hx hb dX7_barOf_30 rfl (lv_at hl 0 rfl) ?_
      refine cr_call (As := [.ref (ga g 8 k), .ref (ga g 5 s_), .int (fX5_coverDay S k s_)]) (rest := []) hC hI (qX7_restsOnThePublic l D cy g S e0 hV k hk s_ hs_ (fX5_coverDay S k s_)) (cwV 3 hts gX7_barOf_X7_restsOnThePublic rfl rfl rfl (by decide +kernel) ⟨Nat.le_of_ble_eq_true rfl, Nat.le_of_ble_eq_true rfl⟩) (cr_prev (ci := 8) hC hI 18 0 rfl rfl rfl) rfl hl.1 rfl (Nat.le_of_ble_eq_true rfl) dX7_barOf_31 ⟨Nat.zero_le _, Nat.zero_le _⟩ (fun H locs hI => ?_)
      refine lv_if_eq (tgt := 41) hx hb dX7_barOf_34 (by decide) (fun c_3 => ?_) (fun c_3 => ?_)
      · have hG := hG.trans (if_pos c_3)
        refine lv_iconst (v := 0) hx hb dX7_barOf_41 (by decide) ?_
        exact W.iret (v := 0) hx hb hr (fun t9 ht9 hW9 => ⟨⟨0, (), rfl, hG.symm, trivial⟩, hI.2.F ht9⟩) hI.2.2.2 dX7_barOf_42
      · have hG := hG.trans (if_neg c_3)
        refine lv_iconst (v := 3) hx hb dX7_barOf_37 (by decide) ?_
        refine lv_goto (tgt := 42) hx hb dX7_barOf_38 (by decide) ?_
        exact W.iret (v := 3) hx hb hr (fun t9 ht9 hW9 => ⟨⟨3, (), rfl, hG.symm, trivial⟩, hI.2.F ht9⟩) hI.2.2.2 dX7_barOf_42
    · have hG := hG.trans (if_neg c_2)
      refine lv_iconst (v := 2) hx hb dX7_barOf_25 (by decide) ?_
      exact W.iret (v := 2) hx hb hr (fun t9 ht9 hW9 => ⟨⟨2, (), rfl, hG.symm, trivial⟩, hI.2.F ht9⟩) hI.2.2.2 dX7_barOf_26
  · have hG := hG.trans (if_pos c_1)
    refine lv_iconst (v := 1) hx hb dX7_barOf_11 (by decide) ?_
    exact W.iret (v := 1) hx hb hr (fun t9 ht9 hW9 => ⟨⟨1, (), rfl, hG.symm, trivial⟩, hI.2.F ht9⟩) hI.2.2.2 dX7_barOf_12
set_option maxHeartbeats 4000000 in
set_option maxRecDepth 100000 in
theorem qX7_isCoveredInTheOpen (l : Launch) (D : va_G) (cy : Nat → ClassId) (g : CWt) (S : St) (e0 : Nat) (hV : CV e0 g S) (s_ : Nat) (hs_ : s_ < nsc S) : CPure l D cy g S yX7_isCoveredInTheOpen wsX7_isCoveredInTheOpen ({ frames := 4, cells := 0, slots := 0, locals := 88 } : Room) [.ref (ga g 18 0), .ref (ga g 5 s_)] (fX7_isCoveredInTheOpen S s_) := by
  refine Met.ofW (cc := cX7_isCoveredInTheOpen) (maxL := 5) (ret := (some .boolean)) (by decide) rfl ?_
  intro p e s m args below meth c s₁ B hml hv
  obtain ⟨rfl, hM, hK⟩ := hv
  have hx := B.exec
  have hb := B.bytes
  have hr := B.returns
  have hts := atoms_spec (ws := wsX7_isCoveredInTheOpen) B.pre
  have hown : s.vm.findClass RX7 = some m.cls := findClass_of_methodNamed B.named
  have hlocks := B.notSynchronized
  have hC : CC p s m _ c cX7_isCoveredInTheOpen 5 RX7 D cy wsX7_isCoveredInTheOpen := ⟨⟨hx, hb, hml, hown, hts⟩, hK⟩
  have hI : CI (fun _ => False) D cy g s S s.heap [] := ⟨hM, va_S.rf⟩
  have hT := hV.2.1
  have hN := hV.2.2.1
  have hQ := hV.2.2.2
  have hb7 := hN.b7
  have hb15 := hN.b15
  have hb23 := hN.b23
  have hb28 := hN.b28
  have hb42 := hN.b42
  have hb64 := hQ.b64
  have k_38 := hts (.fieldLink RX7 38 "RelatorsBench" "suits" "Ljava/util/ArrayList;") (List.mem_cons_of_mem _ (List.mem_append_left _ (List.mem_append_left _ (List.mem_append_left _ (List.mem_append_left _ (List.mem_append_left _ (List.mem_append_left _ (List.mem_of_getElem? (i := 0) rfl))))))))
  have hinX7 : ∀ w ∈ wsX70, w ∈ wsX7_isCoveredInTheOpen := fun _ h => List.mem_cons_of_mem _ (List.mem_append_left _ (List.mem_append_left _ (List.mem_append_left _ (List.mem_append_left _ (List.mem_append_right _ (h))))))
  have k_195 := hts (.fieldLink RX7 195 "RelatorsBench$Suit" "state" "I") (List.mem_cons_of_mem _ (List.mem_append_left _ (List.mem_append_left _ (List.mem_append_left _ (List.mem_append_left _ (List.mem_append_left _ (List.mem_append_left _ (List.mem_of_getElem? (i := 2) rfl))))))))
  have hinX5 : ∀ w ∈ wsX50, w ∈ wsX7_isCoveredInTheOpen := fun _ h => List.mem_cons_of_mem _ (List.mem_append_left _ (List.mem_append_left _ (List.mem_append_left _ (List.mem_append_right _ (h)))))
  have k_51 := hts (.fieldLink RX7 51 "RelatorsBench" "today" "I") (List.mem_cons_of_mem _ (List.mem_append_left _ (List.mem_append_left _ (List.mem_append_left _ (List.mem_append_left _ (List.mem_append_left _ (List.mem_append_left _ (List.mem_of_getElem? (i := 3) rfl))))))))
  have hl := lv_entry ([.ref (ga g 18 0), .ref (ga g 5 s_)]) (n := 5) (Nat.le_of_ble_eq_true rfl)
  rw [lg_entry_eq]
  generalize (lg_sl ([.ref (ga g 18 0), .ref (ga g 5 s_)]) ++ List.replicate (5 - (lg_sl ([.ref (ga g 18 0), .ref (ga g 5 s_)])).length) Slot.unset).toArray = ls at hl ⊢
  have hl : lv_has ls 5 [(0, .ref (ga g 18 0)), (1, .ref (ga g 5 s_))] := hl
  have hG : fX7_isCoveredInTheOpen S s_ = fX7_isCoveredInTheOpen S s_ := rfl
  refine lv_iconst (v := 0) hx hb dX7_isCoveredInTheOpen_0 (by decide) ?_
  refine lv_istore_n (lv' := [(2, .int 0), (0, .ref (ga g 18 0)), (1, .ref (ga g 5 s_))]) hx hb dX7_isCoveredInTheOpen_1 rfl hl (by decide) rfl (fun ls hl => ?_)
  refine w_loop (σ := Unit) (nsu S) 2 (fun i2 z H locs ls => fX7_isCoveredInTheOpen S s_ = rX7_isCoveredInTheOpen_2 S s_ ((nsu S) - i2) i2 ∧ CI (fun _ => False) D cy g s S H locs ∧ lv_has ls 5 [(2, .int (nI i2)), (0, .ref (ga g 18 0)), (1, .ref (ga g 5 s_))]) ?_ () ⟨hG, hI, lv_sub hl [0, 1, 2] rfl⟩
  intro i2 z H locs ls ⟨hG, hI, hl⟩ hi2 ih2
  refine lv_iload_n hx hb dX7_isCoveredInTheOpen_2 rfl (lv_at hl 0 rfl) ?_
  refine lv_aload_n hx hb dX7_isCoveredInTheOpen_3 rfl (lv_at hl 1 rfl) ?_
  refine cr_get (ci := 8) hC hI 18 0 rfl rfl rfl hinX7 6 (by decide) k_38 (fun _ h => h) (v := .ref (ga g 12 3)) rfl dX7_isCoveredInTheOpen_4 ?_
  refine cr_size (rest := [.int (nI i2)]) hC hI 12 3 (show 3 < 4 by decide) rfl (cwV 0 hts gX7_isCoveredInTheOpen_Jx4a65c_size_8abf5 rfl rfl rfl (by decide +kernel) ⟨Nat.le_of_ble_eq_true rfl, Nat.le_of_ble_eq_true rfl⟩) (qAL_size0 l D cy (ga g 12 3) (ga g 13 3) (gm g 12 3) _) hl.1 (Nat.le_of_ble_eq_true rfl) dX7_isCoveredInTheOpen_7 ⟨Nat.zero_le _, Nat.zero_le _⟩ (w := (S 28 0)) rfl (fun H locs hI => ?_)
  refine lv_icmp_ge (tgt := 73) hx hb dX7_isCoveredInTheOpen_10 (by decide) (fun c_1 => ?_) (fun c_1 => ?_)
  · have hxN : i2 = nsu S := w_exit hN.n28 hi2 (by have := hN.b28; omega) c_1
    rw [show (nsu S) - i2 = 0 by omega] at hG
    have hG := hG.trans (rX7_isCoveredInTheOpen_2_0 S s_ i2)
    refine lv_iconst (v := 0) hx hb dX7_isCoveredInTheOpen_73 (by decide) ?_
    exact W.zret (v := 0) (ty := .boolean) hx hb hr rfl (fun t9 ht9 hW9 => ⟨⟨0, (), rfl, hG.symm, trivial⟩, hI.2.F ht9⟩) hI.2.2.2 dX7_isCoveredInTheOpen_74
  · have hlt2 : i2 < nsu S := w_in hN.n28 hi2 (by have := hN.b28; omega) c_1
    rw [show (nsu S) - i2 = ((nsu S) - (i2 + 1)) + 1 by omega] at hG
    have hG := hG.trans (rX7_isCoveredInTheOpen_2_s S s_ i2 ((nsu S) - (i2 + 1)))
    refine lv_aload_n hx hb dX7_isCoveredInTheOpen_13 rfl (lv_at hl 1 rfl) ?_
    refine cr_get (ci := 8) hC hI 18 0 rfl rfl rfl hinX7 6 (by decide) k_38 (fun _ h => h) (v := .ref (ga g 12 3)) rfl dX7_isCoveredInTheOpen_14 ?_
    refine lv_iload_n hx hb dX7_isCoveredInTheOpen_17 rfl (lv_at hl 0 rfl) ?_
    refine cr_get12 (rest := []) hC hI hV 3 (by decide) rfl (n := i2) (hT.v8 hlt2) (cwV 1 hts gX7_isCoveredInTheOpen_Jx4a65c_get_915e3 rfl rfl rfl (by decide +kernel) ⟨Nat.le_of_ble_eq_true rfl, Nat.le_of_ble_eq_true rfl⟩) hl.1 (Nat.le_of_ble_eq_true rfl) dX7_isCoveredInTheOpen_18 ⟨Nat.zero_le _, Nat.zero_le _⟩ (fun H locs hI => ?_)
    refine cr_cast (ci := 6) hC hI 8 i2 (hT.v8 hlt2) rfl rfl (hts (.classLink RX7 163 "RelatorsBench$Suit") (List.mem_cons_of_mem _ (List.mem_append_left _ (List.mem_append_left _ (List.mem_append_left _ (List.mem_append_left _ (List.mem_append_left _ (List.mem_append_left _ (List.mem_of_getElem? (i := 1) rfl))))))))) dX7_isCoveredInTheOpen_21 ?_
    refine lv_astore_n (lv' := [(3, .ref (ga g 8 i2)), (2, .int (nI i2)), (0, .ref (ga g 18 0)), (1, .ref (ga g 5 s_))]) hx hb dX7_isCoveredInTheOpen_24 rfl hl (by decide) rfl (fun ls hl => ?_)
    refine lv_aload_n hx hb dX7_isCoveredInTheOpen_25 rfl (lv_at hl 0 rfl) ?_
    refine cr_get (ci := 6) hC hI 8 i2 (hT.v8 hlt2) rfl rfl hinX5 7 (by decide) k_195 (fun _ h => h) (v := .int (S 34 i2)) rfl dX7_isCoveredInTheOpen_26 ?_
    refine lv_iconst (v := 3) hx hb dX7_isCoveredInTheOpen_29 (by decide) ?_
    refine lv_icmp_eq (tgt := 48) hx hb dX7_isCoveredInTheOpen_30 (by decide) (fun c_2 => ?_) (fun c_2 => ?_)
    · have hG := hG.trans (if_pos c_2)
      refine lv_iconst (v := 0) hx hb dX7_isCoveredInTheOpen_48 (by decide) ?_
      refine lv_istore (lv' := [(4, .int 0), (3, .ref (ga g 8 i2)), (2, .int (nI i2)), (0, .ref (ga g 18 0)), (1, .ref (ga g 5 s_))]) hx hb dX7_isCoveredInTheOpen_49 hl (by decide) rfl (fun ls hl => ?_)
      refine lv_iload hx hb dX7_isCoveredInTheOpen_51 (lv_at hl 0 rfl) ?_
      refine lv_if_eq (tgt := 67) hx hb dX7_isCoveredInTheOpen_53 (by decide) (fun _ => ?_) (fun c => absurd (by decide : (0 : Int32) = 0) c)
      refine lv_iinc (v := (nI (i2 + 1))) (lv' := [(2, .int (nI (i2 + 1))), (4, .int 0), (3, .ref (ga g 8 i2)), (0, .ref (ga g 18 0)), (1, .ref (ga g 5 s_))]) hx hb dX7_isCoveredInTheOpen_67 hl (k := 2) rfl (nI_1 i2) (by decide) rfl (fun ls hl => ?_)
      refine lv_goto (tgt := 2) hx hb dX7_isCoveredInTheOpen_70 (by decide) ?_
      exact ih2 () _ _ ls hlt2 ⟨hG, hI, lv_sub hl [0, 3, 4] rfl⟩
    · have hG := hG.trans (if_neg c_2)
      refine lv_aload_n hx hb dX7_isCoveredInTheOpen_33 rfl (lv_at hl 0 rfl) ?_
      refine lv_aload_n hx hb dX7_isCoveredInTheOpen_34 rfl (lv_at hl 2 rfl) ?_
      refine cr_get (ci := 8) hC hI 18 0 rfl rfl rfl hinX7 10 (by decide) k_51 (fun _ h => h) (v := .int (S 1 0)) rfl dX7_isCoveredInTheOpen_35 ?_
      refine cr_call (As := [.int (S 1 0)]) (rest := []) hC hI (qX5_isSealedOn l D cy g S e0 hV i2 hlt2 (S 1 0)) (cwV 1 hts gX7_isCoveredInTheOpen_X5_isSealedOn rfl rfl rfl (by decide +kernel) ⟨Nat.le_of_ble_eq_true rfl, Nat.le_of_ble_eq_true rfl⟩) (cr_prev (ci := 6) hC hI 8 i2 (hT.v8 hlt2) rfl rfl) rfl hl.1 rfl (Nat.le_of_ble_eq_true rfl) dX7_isCoveredInTheOpen_38 ⟨Nat.zero_le _, Nat.zero_le _⟩ (fun H locs hI => ?_)
      refine lv_if_ne (tgt := 48) hx hb dX7_isCoveredInTheOpen_41 (by decide) (fun c_3 => ?_) (fun c_3 => ?_)
      · have hG := hG.trans (if_neg c_3)
        refine lv_iconst (v := 0) hx hb dX7_isCoveredInTheOpen_48 (by decide) ?_
        refine lv_istore (lv' := [(4, .int 0), (3, .ref (ga g 8 i2)), (2, .int (nI i2)), (0, .ref (ga g 18 0)), (1, .ref (ga g 5 s_))]) hx hb dX7_isCoveredInTheOpen_49 hl (by decide) rfl (fun ls hl => ?_)
        refine lv_iload hx hb dX7_isCoveredInTheOpen_51 (lv_at hl 0 rfl) ?_
        refine lv_if_eq (tgt := 67) hx hb dX7_isCoveredInTheOpen_53 (by decide) (fun _ => ?_) (fun c => absurd (by decide : (0 : Int32) = 0) c)
        refine lv_iinc (v := (nI (i2 + 1))) (lv' := [(2, .int (nI (i2 + 1))), (4, .int 0), (3, .ref (ga g 8 i2)), (0, .ref (ga g 18 0)), (1, .ref (ga g 5 s_))]) hx hb dX7_isCoveredInTheOpen_67 hl (k := 2) rfl (nI_1 i2) (by decide) rfl (fun ls hl => ?_)
        refine lv_goto (tgt := 2) hx hb dX7_isCoveredInTheOpen_70 (by decide) ?_
        exact ih2 () _ _ ls hlt2 ⟨hG, hI, lv_sub hl [0, 3, 4] rfl⟩
      · have hG := hG.trans (if_pos c_3)
        refine lv_iconst (v := 1) hx hb dX7_isCoveredInTheOpen_44 (by decide) ?_
        refine lv_goto (tgt := 49) hx hb dX7_isCoveredInTheOpen_45 (by decide) ?_
        refine lv_istore (lv' := [(4, .int 1), (3, .ref (ga g 8 i2)), (2, .int (nI i2)), (0, .ref (ga g 18 0)), (1, .ref (ga g 5 s_))]) hx hb dX7_isCoveredInTheOpen_49 hl (by decide) rfl (fun ls hl => ?_)
        refine lv_iload hx hb dX7_isCoveredInTheOpen_51 (lv_at hl 0 rfl) ?_
        refine lv_if_eq (tgt := 67) hx hb dX7_isCoveredInTheOpen_53 (by decide) (fun c => absurd c (by decide : ¬ (1 : Int32) = 0)) (fun _ => ?_)
        refine lv_aload_n hx hb dX7_isCoveredInTheOpen_56 rfl (lv_at hl 1 rfl) ?_
        refine lv_aload_n hx hb dX7_isCoveredInTheOpen_57 rfl (lv_at hl 4 rfl) ?_
        refine cr_call (As := [.ref (ga g 5 s_)]) (rest := []) hC hI (qX5_coverDay l D cy g S e0 hV i2 hlt2 s_ hs_) (cwV 1 hts gX7_isCoveredInTheOpen_X5_coverDay rfl rfl rfl (by decide +kernel) ⟨Nat.le_of_ble_eq_true rfl, Nat.le_of_ble_eq_true rfl⟩) (cr_prev (ci := 6) hC hI 8 i2 (hT.v8 hlt2) rfl rfl) rfl hl.1 rfl (Nat.le_of_ble_eq_true rfl) dX7_isCoveredInTheOpen_58 ⟨Nat.zero_le _, Nat.zero_le _⟩ (fun H locs hI => ?_)
        refine lv_iconst (v := (-1)) hx hb dX7_isCoveredInTheOpen_61 (by decide) ?_
        refine lv_icmp_eq (tgt := 67) hx hb dX7_isCoveredInTheOpen_62 (by decide) (fun c_4 => ?_) (fun c_4 => ?_)
        · have hG := hG.trans (if_pos c_4)
          refine lv_iinc (v := (nI (i2 + 1))) (lv' := [(2, .int (nI (i2 + 1))), (4, .int 1), (3, .ref (ga g 8 i2)), (0, .ref (ga g 18 0)), (1, .ref (ga g 5 s_))]) hx hb dX7_isCoveredInTheOpen_67 hl (k := 2) rfl (nI_1 i2) (by decide) rfl (fun ls hl => ?_)
          refine lv_goto (tgt := 2) hx hb dX7_isCoveredInTheOpen_70 (by decide) ?_
          exact ih2 () _ _ ls hlt2 ⟨hG, hI, lv_sub hl [0, 3, 4] rfl⟩
        · have hG := hG.trans (if_neg c_4)
          refine lv_iconst (v := 1) hx hb dX7_isCoveredInTheOpen_65 (by decide) ?_
          exact W.zret (v := 1) (ty := .boolean) hx hb hr rfl (fun t9 ht9 hW9 => ⟨⟨1, (), rfl, hG.symm, trivial⟩, hI.2.F ht9⟩) hI.2.2.2 dX7_isCoveredInTheOpen_66
set_option maxHeartbeats 4000000 in
set_option maxRecDepth 100000 in
theorem qX7_sealedSuits (l : Launch) (D : va_G) (cy : Nat → ClassId) (g : CWt) (S : St) (e0 : Nat) (hV : CV e0 g S) : CPure l D cy g S yX7_sealedSuits wsX7_sealedSuits ({ frames := 3, cells := 0, slots := 0, locals := 64 } : Room) [.ref (ga g 18 0)] (fX7_sealedSuits S) := by
  refine Met.ofW (cc := cX7_sealedSuits) (maxL := 3) (ret := (some .int)) (by decide) rfl ?_
  intro p e s m args below meth c s₁ B hml hv
  obtain ⟨rfl, hM, hK⟩ := hv
  have hx := B.exec
  have hb := B.bytes
  have hr := B.returns
  have hts := atoms_spec (ws := wsX7_sealedSuits) B.pre
  have hown : s.vm.findClass RX7 = some m.cls := findClass_of_methodNamed B.named
  have hlocks := B.notSynchronized
  have hC : CC p s m _ c cX7_sealedSuits 3 RX7 D cy wsX7_sealedSuits := ⟨⟨hx, hb, hml, hown, hts⟩, hK⟩
  have hI : CI (fun _ => False) D cy g s S s.heap [] := ⟨hM, va_S.rf⟩
  have hT := hV.2.1
  have hN := hV.2.2.1
  have hQ := hV.2.2.2
  have hb7 := hN.b7
  have hb15 := hN.b15
  have hb23 := hN.b23
  have hb28 := hN.b28
  have hb42 := hN.b42
  have hb64 := hQ.b64
  have k_38 := hts (.fieldLink RX7 38 "RelatorsBench" "suits" "Ljava/util/ArrayList;") (List.mem_cons_of_mem _ (List.mem_append_left _ (List.mem_append_left _ (List.mem_append_left _ (List.mem_append_left _ (List.mem_of_getElem? (i := 0) rfl))))))
  have hinX7 : ∀ w ∈ wsX70, w ∈ wsX7_sealedSuits := fun _ h => List.mem_cons_of_mem _ (List.mem_append_left _ (List.mem_append_left _ (List.mem_append_right _ (h))))
  have k_51 := hts (.fieldLink RX7 51 "RelatorsBench" "today" "I") (List.mem_cons_of_mem _ (List.mem_append_left _ (List.mem_append_left _ (List.mem_append_left _ (List.mem_append_left _ (List.mem_of_getElem? (i := 2) rfl))))))
  have hl := lv_entry ([.ref (ga g 18 0)]) (n := 3) (Nat.le_of_ble_eq_true rfl)
  rw [lg_entry_eq]
  generalize (lg_sl ([.ref (ga g 18 0)]) ++ List.replicate (3 - (lg_sl ([.ref (ga g 18 0)])).length) Slot.unset).toArray = ls at hl ⊢
  have hl : lv_has ls 3 [(0, .ref (ga g 18 0))] := hl
  have hG : fX7_sealedSuits S = fX7_sealedSuits S := rfl
  refine lv_iconst (v := 0) hx hb dX7_sealedSuits_0 (by decide) ?_
  refine lv_istore_n (lv' := [(1, .int 0), (0, .ref (ga g 18 0))]) hx hb dX7_sealedSuits_1 rfl hl (by decide) rfl (fun ls hl => ?_)
  refine lv_iconst (v := 0) hx hb dX7_sealedSuits_2 (by decide) ?_
  refine lv_istore_n (lv' := [(2, .int 0), (1, .int 0), (0, .ref (ga g 18 0))]) hx hb dX7_sealedSuits_3 rfl hl (by decide) rfl (fun ls hl => ?_)
  refine w_loop (σ := Int32) (nsu S) 4 (fun i4 z H locs ls => z = lX7_sealedSuits_4 S i4 ∧ CI (fun _ => False) D cy g s S H locs ∧ lv_has ls 3 [(2, .int (nI i4)), (1, .int z), (0, .ref (ga g 18 0))]) ?_ 0 ⟨rfl, hI, lv_sub hl [0, 1, 2] rfl⟩
  intro i4 z H locs ls ⟨hz4, hI, hl⟩ hi4 ih4
  obtain ⟨x4_1, rfl⟩ : ∃ x, x = z := ⟨_, rfl⟩
  refine lv_iload_n hx hb dX7_sealedSuits_4 rfl (lv_at hl 0 rfl) ?_
  refine lv_aload_n hx hb dX7_sealedSuits_5 rfl (lv_at hl 2 rfl) ?_
  refine cr_get (ci := 8) hC hI 18 0 rfl rfl rfl hinX7 6 (by decide) k_38 (fun _ h => h) (v := .ref (ga g 12 3)) rfl dX7_sealedSuits_6 ?_
  refine cr_size (rest := [.int (nI i4)]) hC hI 12 3 (show 3 < 4 by decide) rfl (cwV 0 hts gX7_sealedSuits_Jx4a65c_size_8abf5 rfl rfl rfl (by decide +kernel) ⟨Nat.le_of_ble_eq_true rfl, Nat.le_of_ble_eq_true rfl⟩) (qAL_size0 l D cy (ga g 12 3) (ga g 13 3) (gm g 12 3) _) hl.1 (Nat.le_of_ble_eq_true rfl) dX7_sealedSuits_9 ⟨Nat.zero_le _, Nat.zero_le _⟩ (w := (S 28 0)) rfl (fun H locs hI => ?_)
  refine lv_icmp_ge (tgt := 45) hx hb dX7_sealedSuits_12 (by decide) (fun c_1 => ?_) (fun c_1 => ?_)
  · obtain rfl : i4 = nsu S := w_exit hN.n28 hi4 (by have := hN.b28; omega) c_1
    obtain rfl : x4_1 = (lX7_sealedSuits_4 S (nsu S)) := by rw [← hz4]
    refine lv_iload_n hx hb dX7_sealedSuits_45 rfl (lv_at hl 1 rfl) ?_
    exact W.iret (v := (lX7_sealedSuits_4 S (nsu S))) hx hb hr (fun t9 ht9 hW9 => ⟨⟨(lX7_sealedSuits_4 S (nsu S)), (), rfl, hG.symm, trivial⟩, hI.2.F ht9⟩) hI.2.2.2 dX7_sealedSuits_46
  · have hlt4 : i4 < nsu S := w_in hN.n28 hi4 (by have := hN.b28; omega) c_1
    have hB4 : iX7_sealedSuits_4 S i4 x4_1 = iX7_sealedSuits_4 S i4 x4_1 := rfl
    refine lv_aload_n hx hb dX7_sealedSuits_15 rfl (lv_at hl 2 rfl) ?_
    refine cr_get (ci := 8) hC hI 18 0 rfl rfl rfl hinX7 6 (by decide) k_38 (fun _ h => h) (v := .ref (ga g 12 3)) rfl dX7_sealedSuits_16 ?_
    refine lv_iload_n hx hb dX7_sealedSuits_19 rfl (lv_at hl 0 rfl) ?_
    refine cr_get12 (rest := []) hC hI hV 3 (by decide) rfl (n := i4) (hT.v8 hlt4) (cwV 1 hts gX7_sealedSuits_Jx4a65c_get_915e3 rfl rfl rfl (by decide +kernel) ⟨Nat.le_of_ble_eq_true rfl, Nat.le_of_ble_eq_true rfl⟩) hl.1 (Nat.le_of_ble_eq_true rfl) dX7_sealedSuits_20 ⟨Nat.zero_le _, Nat.zero_le _⟩ (fun H locs hI => ?_)
    refine cr_cast (ci := 6) hC hI 8 i4 (hT.v8 hlt4) rfl rfl (hts (.classLink RX7 163 "RelatorsBench$Suit") (List.mem_cons_of_mem _ (List.mem_append_left _ (List.mem_append_left _ (List.mem_append_left _ (List.mem_append_left _ (List.mem_of_getElem? (i := 1) rfl))))))) dX7_sealedSuits_23 ?_
    refine lv_aload_n hx hb dX7_sealedSuits_26 rfl (lv_at hl 2 rfl) ?_
    refine cr_get (ci := 8) hC hI 18 0 rfl rfl rfl hinX7 10 (by decide) k_51 (fun _ h => h) (v := .int (S 1 0)) rfl dX7_sealedSuits_27 ?_
    refine cr_call (As := [.int (S 1 0)]) (rest := []) hC hI (qX5_isSealedOn l D cy g S e0 hV i4 hlt4 (S 1 0)) (cwV 1 hts gX7_sealedSuits_X5_isSealedOn rfl rfl rfl (by decide +kernel) ⟨Nat.le_of_ble_eq_true rfl, Nat.le_of_ble_eq_true rfl⟩) (cr_prev (ci := 6) hC hI 8 i4 (hT.v8 hlt4) rfl rfl) rfl hl.1 rfl (Nat.le_of_ble_eq_true rfl) dX7_sealedSuits_30 ⟨Nat.zero_le _, Nat.zero_le _⟩ (fun H locs hI => ?_)
    refine lv_if_eq (tgt := 39) hx hb dX7_sealedSuits_33 (by decide) (fun c_2 => ?_) (fun c_2 => ?_)
    · have hB4 := hB4.trans (if_pos c_2)
      refine lv_iinc (v := (nI (i4 + 1))) (lv' := [(2, .int (nI (i4 + 1))), (1, .int x4_1), (0, .ref (ga g 18 0))]) hx hb dX7_sealedSuits_39 hl (k := 0) rfl (nI_1 i4) (by decide) rfl (fun ls hl => ?_)
      refine lv_goto (tgt := 4) hx hb dX7_sealedSuits_42 (by decide) ?_
      exact ih4 x4_1 _ _ ls hlt4 ⟨(by show _ = iX7_sealedSuits_4 S i4 (lX7_sealedSuits_4 S i4); rw [← hz4]; exact hB4.symm), hI, lv_sub hl [0, 1, 2] rfl⟩
    · have hB4 := hB4.trans (if_neg c_2)
      refine lv_iinc (v := (x4_1 + 1)) (lv' := [(1, .int (x4_1 + 1)), (2, .int (nI i4)), (0, .ref (ga g 18 0))]) hx hb dX7_sealedSuits_36 hl (k := 1) rfl rfl (by decide) rfl (fun ls hl => ?_)
      refine lv_iinc (v := (nI (i4 + 1))) (lv' := [(2, .int (nI (i4 + 1))), (1, .int (x4_1 + 1)), (0, .ref (ga g 18 0))]) hx hb dX7_sealedSuits_39 hl (k := 1) rfl (nI_1 i4) (by decide) rfl (fun ls hl => ?_)
      refine lv_goto (tgt := 4) hx hb dX7_sealedSuits_42 (by decide) ?_
      exact ih4 (x4_1 + 1) _ _ ls hlt4 ⟨(by show _ = iX7_sealedSuits_4 S i4 (lX7_sealedSuits_4 S i4); rw [← hz4]; exact hB4.symm), hI, lv_sub hl [0, 1, 2] rfl⟩
set_option maxHeartbeats 4000000 in
set_option maxRecDepth 100000 in
theorem qX7_counts (l : Launch) (D : va_G) (cy : Nat → ClassId) (g : CWt) (S : St) (e0 : Nat) (hV : CV e0 g S) (c_ : Nat) (hc_ : c_ < ncl S) (s_ : Nat) (hs_ : s_ < nsc S) (covered : Int32) : CPure l D cy g S yX7_counts wsX7_counts ({ frames := 0, cells := 0, slots := 0, locals := 0 } : Room) [.ref (ga g 6 c_), .ref (ga g 5 s_), .int covered] (fX7_counts S c_ s_ covered) := by
  refine Met.ofW (cc := cX7_counts) (maxL := 3) (ret := (some .boolean)) (by decide) rfl ?_
  intro p e s m args below meth c s₁ B hml hv
  obtain ⟨rfl, hM, hK⟩ := hv
  have hx := B.exec
  have hb := B.bytes
  have hr := B.returns
  have hts := atoms_spec (ws := wsX7_counts) B.pre
  have hown : s.vm.findClass RX7 = some m.cls := findClass_of_methodNamed B.named
  have hlocks := B.notSynchronized
  have hC : CC p s m _ c cX7_counts 3 RX7 D cy wsX7_counts := ⟨⟨hx, hb, hml, hown, hts⟩, hK⟩
  have hI : CI (fun _ => False) D cy g s S s.heap [] := ⟨hM, va_S.rf⟩
  have hT := hV.2.1
  have hN := hV.2.2.1
  have hQ := hV.2.2.2
  have hb7 := hN.b7
  have hb15 := hN.b15
  have hb23 := hN.b23
  have hb28 := hN.b28
  have hb42 := hN.b42
  have hb64 := hQ.b64
  have k_290 := hts (.fieldLink RX7 290 "RelatorsBench$Claim" "scheme" "I") (List.mem_cons_of_mem _ (List.mem_append_left _ (List.mem_append_left _ (List.mem_of_getElem? (i := 0) rfl))))
  have hinX0 : ∀ w ∈ wsX00, w ∈ wsX7_counts := fun _ h => List.mem_cons_of_mem _ (List.mem_append_left _ (List.mem_append_right _ (h)))
  have k_358 := hts (.fieldLink RX7 358 "RelatorsBench$Scheme" "number" "I") (List.mem_cons_of_mem _ (List.mem_append_left _ (List.mem_append_left _ (List.mem_of_getElem? (i := 1) rfl))))
  have hinX4 : ∀ w ∈ wsX40, w ∈ wsX7_counts := fun _ h => List.mem_cons_of_mem _ (List.mem_append_right _ (h))
  have k_299 := hts (.fieldLink RX7 299 "RelatorsBench$Claim" "paidBy" "I") (List.mem_cons_of_mem _ (List.mem_append_left _ (List.mem_append_left _ (List.mem_of_getElem? (i := 2) rfl))))
  have k_296 := hts (.fieldLink RX7 296 "RelatorsBench$Claim" "day" "I") (List.mem_cons_of_mem _ (List.mem_append_left _ (List.mem_append_left _ (List.mem_of_getElem? (i := 3) rfl))))
  have k_140 := hts (.fieldLink RX7 140 "RelatorsBench$Scheme" "knownFrom" "I") (List.mem_cons_of_mem _ (List.mem_append_left _ (List.mem_append_left _ (List.mem_of_getElem? (i := 4) rfl))))
  have hl := lv_entry ([.ref (ga g 6 c_), .ref (ga g 5 s_), .int covered]) (n := 3) (Nat.le_of_ble_eq_true rfl)
  rw [lg_entry_eq]
  generalize (lg_sl ([.ref (ga g 6 c_), .ref (ga g 5 s_), .int covered]) ++ List.replicate (3 - (lg_sl ([.ref (ga g 6 c_), .ref (ga g 5 s_), .int covered])).length) Slot.unset).toArray = ls at hl ⊢
  have hl : lv_has ls 3 [(0, .ref (ga g 6 c_)), (1, .ref (ga g 5 s_)), (2, .int covered)] := hl
  have hG : fX7_counts S c_ s_ covered = fX7_counts S c_ s_ covered := rfl
  refine lv_aload_n hx hb dX7_counts_0 rfl (lv_at hl 0 rfl) ?_
  refine cr_get (ci := 1) hC hI 6 c_ (hT.v6 hc_) rfl rfl hinX0 0 (by decide) k_290 (fun _ h => h) (v := .int (S 16 c_)) rfl dX7_counts_1 ?_
  refine lv_aload_n hx hb dX7_counts_4 rfl (lv_at hl 1 rfl) ?_
  refine cr_get (ci := 5) hC hI 5 s_ (hT.v5 hs_) rfl rfl hinX4 0 (by decide) k_358 (fun _ h => h) (v := .int (nI s_)) rfl dX7_counts_5 ?_
  refine lv_icmp_ne (tgt := 54) hx hb dX7_counts_8 (by decide) (fun c_1 => ?_) (fun c_1 => ?_)
  · have hG := hG.trans (if_neg c_1)
    refine lv_iconst (v := 0) hx hb dX7_counts_54 (by decide) ?_
    exact W.zret (v := 0) (ty := .boolean) hx hb hr rfl (fun t9 ht9 hW9 => ⟨⟨0, (), rfl, hG.symm, trivial⟩, hI.2.F ht9⟩) hI.2.2.2 dX7_counts_55
  · have hG := hG.trans (if_pos c_1)
    refine lv_aload_n hx hb dX7_counts_11 rfl (lv_at hl 0 rfl) ?_
    refine cr_get (ci := 1) hC hI 6 c_ (hT.v6 hc_) rfl rfl hinX0 3 (by decide) k_299 (fun _ h => h) (v := .int (S 19 c_)) rfl dX7_counts_12 ?_
    refine lv_iconst (v := (-1)) hx hb dX7_counts_15 (by decide) ?_
    refine lv_icmp_ne (tgt := 54) hx hb dX7_counts_16 (by decide) (fun c_2 => ?_) (fun c_2 => ?_)
    · have hG := hG.trans (if_neg c_2)
      refine lv_iconst (v := 0) hx hb dX7_counts_54 (by decide) ?_
      exact W.zret (v := 0) (ty := .boolean) hx hb hr rfl (fun t9 ht9 hW9 => ⟨⟨0, (), rfl, hG.symm, trivial⟩, hI.2.F ht9⟩) hI.2.2.2 dX7_counts_55
    · have hG := hG.trans (if_pos c_2)
      refine lv_aload_n hx hb dX7_counts_19 rfl (lv_at hl 0 rfl) ?_
      refine cr_get (ci := 1) hC hI 6 c_ (hT.v6 hc_) rfl rfl hinX0 2 (by decide) k_296 (fun _ h => h) (v := .int (S 18 c_)) rfl dX7_counts_20 ?_
      refine lv_iload_n hx hb dX7_counts_23 rfl (lv_at hl 2 rfl) ?_
      refine lv_sipush (v := 600) hx hb dX7_counts_24 (by decide) ?_
      refine lv_isub hx hb dX7_counts_27 ?_
      refine lv_icmp_lt (tgt := 54) hx hb dX7_counts_28 (by decide) (fun c_3 => ?_) (fun c_3 => ?_)
      · have hG := hG.trans (if_pos c_3)
        refine lv_iconst (v := 0) hx hb dX7_counts_54 (by decide) ?_
        exact W.zret (v := 0) (ty := .boolean) hx hb hr rfl (fun t9 ht9 hW9 => ⟨⟨0, (), rfl, hG.symm, trivial⟩, hI.2.F ht9⟩) hI.2.2.2 dX7_counts_55
      · have hG := hG.trans (if_neg c_3)
        refine lv_aload_n hx hb dX7_counts_31 rfl (lv_at hl 1 rfl) ?_
        refine cr_get (ci := 5) hC hI 5 s_ (hT.v5 hs_) rfl rfl hinX4 6 (by decide) k_140 (fun _ h => h) (v := .int (S 13 s_)) rfl dX7_counts_32 ?_
        refine lv_iconst (v := (-1)) hx hb dX7_counts_35 (by decide) ?_
        refine lv_icmp_eq (tgt := 50) hx hb dX7_counts_36 (by decide) (fun c_4 => ?_) (fun c_4 => ?_)
        · have hG := hG.trans (if_pos c_4)
          refine lv_iconst (v := 1) hx hb dX7_counts_50 (by decide) ?_
          refine lv_goto (tgt := 55) hx hb dX7_counts_51 (by decide) ?_
          exact W.zret (v := 1) (ty := .boolean) hx hb hr rfl (fun t9 ht9 hW9 => ⟨⟨1, (), rfl, hG.symm, trivial⟩, hI.2.F ht9⟩) hI.2.2.2 dX7_counts_55
        · have hG := hG.trans (if_neg c_4)
          refine lv_aload_n hx hb dX7_counts_39 rfl (lv_at hl 0 rfl) ?_
          refine cr_get (ci := 1) hC hI 6 c_ (hT.v6 hc_) rfl rfl hinX0 2 (by decide) k_296 (fun _ h => h) (v := .int (S 18 c_)) rfl dX7_counts_40 ?_
          refine lv_aload_n hx hb dX7_counts_43 rfl (lv_at hl 1 rfl) ?_
          refine cr_get (ci := 5) hC hI 5 s_ (hT.v5 hs_) rfl rfl hinX4 6 (by decide) k_140 (fun _ h => h) (v := .int (S 13 s_)) rfl dX7_counts_44 ?_
          refine lv_icmp_ge (tgt := 54) hx hb dX7_counts_47 (by decide) (fun c_5 => ?_) (fun c_5 => ?_)
          · have hG := hG.trans (if_pos c_5)
            refine lv_iconst (v := 0) hx hb dX7_counts_54 (by decide) ?_
            exact W.zret (v := 0) (ty := .boolean) hx hb hr rfl (fun t9 ht9 hW9 => ⟨⟨0, (), rfl, hG.symm, trivial⟩, hI.2.F ht9⟩) hI.2.2.2 dX7_counts_55
          · have hG := hG.trans (if_neg c_5)
            refine lv_iconst (v := 1) hx hb dX7_counts_50 (by decide) ?_
            refine lv_goto (tgt := 55) hx hb dX7_counts_51 (by decide) ?_
            exact W.zret (v := 1) (ty := .boolean) hx hb hr rfl (fun t9 ht9 hW9 => ⟨⟨1, (), rfl, hG.symm, trivial⟩, hI.2.F ht9⟩) hI.2.2.2 dX7_counts_55
set_option maxHeartbeats 4000000 in
set_option maxRecDepth 100000 in
theorem qX7_sumFor (l : Launch) (D : va_G) (cy : Nat → ClassId) (g : CWt) (S : St) (e0 : Nat) (hV : CV e0 g S) (k : Nat) (hk : k < nsu S) (s_ : Nat) (hs_ : s_ < nsc S) : CPure l D cy g S yX7_sumFor wsX7_sumFor ({ frames := 4, cells := 0, slots := 0, locals := 88 } : Room) [.ref (ga g 18 0), .ref (ga g 8 k), .ref (ga g 5 s_)] (fX7_sumFor S k s_) := by
  refine Met.ofW (cc := cX7_sumFor) (maxL := 8) (ret := (some .int)) (by decide) rfl ?_
  intro p e s m args below meth c s₁ B hml hv
  obtain ⟨rfl, hM, hK⟩ := hv
  have hx := B.exec
  have hb := B.bytes
  have hr := B.returns
  have hts := atoms_spec (ws := wsX7_sumFor) B.pre
  have hown : s.vm.findClass RX7 = some m.cls := findClass_of_methodNamed B.named
  have hlocks := B.notSynchronized
  have hC : CC p s m _ c cX7_sumFor 8 RX7 D cy wsX7_sumFor := ⟨⟨hx, hb, hml, hown, hts⟩, hK⟩
  have hI : CI (fun _ => False) D cy g s S s.heap [] := ⟨hM, va_S.rf⟩
  have hT := hV.2.1
  have hN := hV.2.2.1
  have hQ := hV.2.2.2
  have hb7 := hN.b7
  have hb15 := hN.b15
  have hb23 := hN.b23
  have hb28 := hN.b28
  have hb42 := hN.b42
  have hb64 := hQ.b64
  have k_32 := hts (.fieldLink RX7 32 "RelatorsBench" "claims" "Ljava/util/ArrayList;") (List.mem_cons_of_mem _ (List.mem_append_left _ (List.mem_append_left _ (List.mem_append_left _ (List.mem_append_left _ (List.mem_append_left _ (List.mem_append_left _ (List.mem_append_left _ (List.mem_of_getElem? (i := 0) rfl)))))))))
  have hinX7 : ∀ w ∈ wsX70, w ∈ wsX7_sumFor := fun _ h => List.mem_cons_of_mem _ (List.mem_append_left _ (List.mem_append_left _ (List.mem_append_left _ (List.mem_append_left _ (List.mem_append_left _ (List.mem_append_right _ (h)))))))
  have k_147 := hts (.fieldLink RX7 147 "RelatorsBench$Scheme" "isAdmitted" "Z") (List.mem_cons_of_mem _ (List.mem_append_left _ (List.mem_append_left _ (List.mem_append_left _ (List.mem_append_left _ (List.mem_append_left _ (List.mem_append_left _ (List.mem_append_left _ (List.mem_of_getElem? (i := 3) rfl)))))))))
  have hinX4 : ∀ w ∈ wsX40, w ∈ wsX7_sumFor := fun _ h => List.mem_cons_of_mem _ (List.mem_append_left _ (List.mem_append_left _ (List.mem_append_left _ (List.mem_append_right _ (h)))))
  have k_293 := hts (.fieldLink RX7 293 "RelatorsBench$Claim" "amount" "I") (List.mem_cons_of_mem _ (List.mem_append_left _ (List.mem_append_left _ (List.mem_append_left _ (List.mem_append_left _ (List.mem_append_left _ (List.mem_append_left _ (List.mem_append_left _ (List.mem_of_getElem? (i := 2) rfl)))))))))
  have hinX0 : ∀ w ∈ wsX00, w ∈ wsX7_sumFor := fun _ h => List.mem_cons_of_mem _ (List.mem_append_left _ (List.mem_append_left _ (List.mem_append_left _ (List.mem_append_left _ (List.mem_append_right _ (h))))))
  have hl := lv_entry ([.ref (ga g 18 0), .ref (ga g 8 k), .ref (ga g 5 s_)]) (n := 8) (Nat.le_of_ble_eq_true rfl)
  rw [lg_entry_eq]
  generalize (lg_sl ([.ref (ga g 18 0), .ref (ga g 8 k), .ref (ga g 5 s_)]) ++ List.replicate (8 - (lg_sl ([.ref (ga g 18 0), .ref (ga g 8 k), .ref (ga g 5 s_)])).length) Slot.unset).toArray = ls at hl ⊢
  have hl : lv_has ls 8 [(0, .ref (ga g 18 0)), (1, .ref (ga g 8 k)), (2, .ref (ga g 5 s_))] := hl
  have hG : fX7_sumFor S k s_ = fX7_sumFor S k s_ := rfl
  refine lv_aload_n hx hb dX7_sumFor_0 rfl (lv_at hl 1 rfl) ?_
  refine lv_aload_n hx hb dX7_sumFor_1 rfl (lv_at hl 2 rfl) ?_
  refine cr_call (As := [.ref (ga g 5 s_)]) (rest := []) hC hI (qX5_coverDay l D cy g S e0 hV k hk s_ hs_) (cwV 1 hts gX7_sumFor_X5_coverDay rfl rfl rfl (by decide +kernel) ⟨Nat.le_of_ble_eq_true rfl, Nat.le_of_ble_eq_true rfl⟩) (cr_prev (ci := 6) hC hI 8 k (hT.v8 hk) rfl rfl) rfl hl.1 rfl (Nat.le_of_ble_eq_true rfl) dX7_sumFor_2 ⟨Nat.zero_le _, Nat.zero_le _⟩ (fun H locs hI => ?_)
  refine lv_istore_n (lv' := [(3, .int (fX5_coverDay S k s_)), (0, .ref (ga g 18 0)), (1, .ref (ga g 8 k)), (2, .ref (ga g 5 s_))]) hx hb dX7_sumFor_5 rfl hl (by decide) rfl (fun ls hl => ?_)
  refine lv_iconst (v := 0) hx hb dX7_sumFor_6 (by decide) ?_
  refine lv_istore (lv' := [(4, .int 0), (3, .int (fX5_coverDay S k s_)), (0, .ref (ga g 18 0)), (1, .ref (ga g 8 k)), (2, .ref (ga g 5 s_))]) hx hb dX7_sumFor_7 hl (by decide) rfl (fun ls hl => ?_)
  refine lv_iconst (v := 0) hx hb dX7_sumFor_9 (by decide) ?_
  refine lv_istore (lv' := [(5, .int 0), (4, .int 0), (3, .int (fX5_coverDay S k s_)), (0, .ref (ga g 18 0)), (1, .ref (ga g 8 k)), (2, .ref (ga g 5 s_))]) hx hb dX7_sumFor_10 hl (by decide) rfl (fun ls hl => ?_)
  refine lv_iconst (v := 0) hx hb dX7_sumFor_12 (by decide) ?_
  refine lv_istore (lv' := [(6, .int 0), (5, .int 0), (4, .int 0), (3, .int (fX5_coverDay S k s_)), (0, .ref (ga g 18 0)), (1, .ref (ga g 8 k)), (2, .ref (ga g 5 s_))]) hx hb dX7_sumFor_13 hl (by decide) rfl (fun ls hl => ?_)
  refine w_loop (σ := Int32 × Int32) (ncl S) 15 (fun i15 z H locs ls => z = lX7_sumFor_15 S k s_ i15 ∧ CI (fun _ => False) D cy g s S H locs ∧ lv_has ls 8 [(6, .int (nI i15)), (5, .int z.1), (4, .int z.2), (3, .int (fX5_coverDay S k s_)), (0, .ref (ga g 18 0)), (1, .ref (ga g 8 k)), (2, .ref (ga g 5 s_))]) ?_ (0, 0) ⟨rfl, hI, lv_sub hl [0, 1, 2, 3, 4, 5, 6] rfl⟩
  intro i15 z H locs ls ⟨hz15, hI, hl⟩ hi15 ih15
  obtain ⟨x15_5, x15_4⟩ := z
  dsimp only at hI hl hz15
  refine lv_iload hx hb dX7_sumFor_15 (lv_at hl 0 rfl) ?_
  refine lv_aload_n hx hb dX7_sumFor_17 rfl (lv_at hl 4 rfl) ?_
  refine cr_get (ci := 8) hC hI 18 0 rfl rfl rfl hinX7 4 (by decide) k_32 (fun _ h => h) (v := .ref (ga g 12 1)) rfl dX7_sumFor_18 ?_
  refine cr_size (rest := [.int (nI i15)]) hC hI 12 1 (show 1 < 4 by decide) rfl (cwV 0 hts gX7_sumFor_Jx4a65c_size_8abf5 rfl rfl rfl (by decide +kernel) ⟨Nat.le_of_ble_eq_true rfl, Nat.le_of_ble_eq_true rfl⟩) (qAL_size0 l D cy (ga g 12 1) (ga g 13 1) (gm g 12 1) _) hl.1 (Nat.le_of_ble_eq_true rfl) dX7_sumFor_21 ⟨Nat.zero_le _, Nat.zero_le _⟩ (w := (S 15 0)) rfl (fun H locs hI => ?_)
  refine lv_icmp_ge (tgt := 70) hx hb dX7_sumFor_24 (by decide) (fun c_1 => ?_) (fun c_1 => ?_)
  · obtain rfl : i15 = ncl S := w_exit hN.n15 hi15 (by have := hN.b15; omega) c_1
    obtain rfl : x15_5 = (lX7_sumFor_15 S k s_ (ncl S)).1 := by rw [← hz15]
    obtain rfl : x15_4 = (lX7_sumFor_15 S k s_ (ncl S)).2 := by rw [← hz15]
    refine lv_aload_n hx hb dX7_sumFor_70 rfl (lv_at hl 6 rfl) ?_
    refine cr_get (ci := 5) hC hI 5 s_ (hT.v5 hs_) rfl rfl hinX4 7 (by decide) k_147 (fun _ h => h) (v := .int (S 14 s_)) rfl dX7_sumFor_71 ?_
    refine lv_if_eq (tgt := 81) hx hb dX7_sumFor_74 (by decide) (fun c_4 => ?_) (fun c_4 => ?_)
    · have hG := hG.trans (if_pos c_4)
      refine lv_iconst (v := 3) hx hb dX7_sumFor_81 (by decide) ?_
      refine lv_istore (lv' := [(6, .int 3), (5, .int ((lX7_sumFor_15 S k s_ (ncl S)).1)), (4, .int ((lX7_sumFor_15 S k s_ (ncl S)).2)), (3, .int (fX5_coverDay S k s_)), (0, .ref (ga g 18 0)), (1, .ref (ga g 8 k)), (2, .ref (ga g 5 s_))]) hx hb dX7_sumFor_82 hl (by decide) rfl (fun ls hl => ?_)
      refine lv_aload_n hx hb dX7_sumFor_84 rfl (lv_at hl 6 rfl) ?_
      refine lv_iload hx hb dX7_sumFor_85 (lv_at hl 2 rfl) ?_
      refine cr_call (As := [.int ((lX7_sumFor_15 S k s_ (ncl S)).2)]) (rest := []) hC hI (qX4_falsePartOf l D cy g S e0 hV s_ hs_ ((lX7_sumFor_15 S k s_ (ncl S)).2)) (cwV 1 hts gX7_sumFor_X4_falsePartOf rfl rfl rfl (by decide +kernel) ⟨Nat.le_of_ble_eq_true rfl, Nat.le_of_ble_eq_true rfl⟩) (cr_prev (ci := 5) hC hI 5 s_ (hT.v5 hs_) rfl rfl) rfl hl.1 rfl (Nat.le_of_ble_eq_true rfl) dX7_sumFor_87 ⟨Nat.zero_le _, Nat.zero_le _⟩ (fun H locs hI => ?_)
      refine lv_iload hx hb dX7_sumFor_90 (lv_at hl 0 rfl) ?_
      refine lv_imul hx hb dX7_sumFor_92 ?_
      refine lv_aload_n hx hb dX7_sumFor_93 rfl (lv_at hl 6 rfl) ?_
      refine lv_iload hx hb dX7_sumFor_94 (lv_at hl 1 rfl) ?_
      refine cr_call (As := [.int ((lX7_sumFor_15 S k s_ (ncl S)).1)]) (rest := [.int ((fX4_falsePartOf S s_ ((lX7_sumFor_15 S k s_ (ncl S)).2)) * 3)]) hC hI (qX4_falsePartOf l D cy g S e0 hV s_ hs_ ((lX7_sumFor_15 S k s_ (ncl S)).1)) (cwV 1 hts gX7_sumFor_X4_falsePartOf rfl rfl rfl (by decide +kernel) ⟨Nat.le_of_ble_eq_true rfl, Nat.le_of_ble_eq_true rfl⟩) (cr_prev (ci := 5) hC hI 5 s_ (hT.v5 hs_) rfl rfl) rfl hl.1 rfl (Nat.le_of_ble_eq_true rfl) dX7_sumFor_96 ⟨Nat.zero_le _, Nat.zero_le _⟩ (fun H locs hI => ?_)
      refine lv_aload_n hx hb dX7_sumFor_99 rfl (lv_at hl 6 rfl) ?_
      refine cr_call (As := []) (rest := [.int (fX4_falsePartOf S s_ ((lX7_sumFor_15 S k s_ (ncl S)).1)), .int ((fX4_falsePartOf S s_ ((lX7_sumFor_15 S k s_ (ncl S)).2)) * 3)]) hC hI (qX4_penalty l D cy g S e0 hV s_ hs_) (cwV 0 hts gX7_sumFor_X4_penalty rfl rfl rfl (by decide +kernel) ⟨Nat.le_of_ble_eq_true rfl, Nat.le_of_ble_eq_true rfl⟩) (cr_prev (ci := 5) hC hI 5 s_ (hT.v5 hs_) rfl rfl) rfl hl.1 rfl (Nat.le_of_ble_eq_true rfl) dX7_sumFor_100 ⟨Nat.zero_le _, Nat.zero_le _⟩ (fun H locs hI => ?_)
      refine lv_imul hx hb dX7_sumFor_103 ?_
      refine lv_iadd hx hb dX7_sumFor_104 ?_
      exact W.iret (v := (((fX4_falsePartOf S s_ ((lX7_sumFor_15 S k s_ (ncl S)).2)) * 3) + ((fX4_falsePartOf S s_ ((lX7_sumFor_15 S k s_ (ncl S)).1)) * (fX4_penalty S s_)))) hx hb hr (fun t9 ht9 hW9 => ⟨⟨(((fX4_falsePartOf S s_ ((lX7_sumFor_15 S k s_ (ncl S)).2)) * 3) + ((fX4_falsePartOf S s_ ((lX7_sumFor_15 S k s_ (ncl S)).1)) * (fX4_penalty S s_))), (), rfl, hG.symm, trivial⟩, hI.2.F ht9⟩) hI.2.2.2 dX7_sumFor_105
    · have hG := hG.trans (if_neg c_4)
      refine lv_iconst (v := 2) hx hb dX7_sumFor_77 (by decide) ?_
      refine lv_goto (tgt := 82) hx hb dX7_sumFor_78 (by decide) ?_
      refine lv_istore (lv' := [(6, .int 2), (5, .int ((lX7_sumFor_15 S k s_ (ncl S)).1)), (4, .int ((lX7_sumFor_15 S k s_ (ncl S)).2)), (3, .int (fX5_coverDay S k s_)), (0, .ref (ga g 18 0)), (1, .ref (ga g 8 k)), (2, .ref (ga g 5 s_))]) hx hb dX7_sumFor_82 hl (by decide) rfl (fun ls hl => ?_)
      refine lv_aload_n hx hb dX7_sumFor_84 rfl (lv_at hl 6 rfl) ?_
      refine lv_iload hx hb dX7_sumFor_85 (lv_at hl 2 rfl) ?_
      refine cr_call (As := [.int ((lX7_sumFor_15 S k s_ (ncl S)).2)]) (rest := []) hC hI (qX4_falsePartOf l D cy g S e0 hV s_ hs_ ((lX7_sumFor_15 S k s_ (ncl S)).2)) (cwV 1 hts gX7_sumFor_X4_falsePartOf rfl rfl rfl (by decide +kernel) ⟨Nat.le_of_ble_eq_true rfl, Nat.le_of_ble_eq_true rfl⟩) (cr_prev (ci := 5) hC hI 5 s_ (hT.v5 hs_) rfl rfl) rfl hl.1 rfl (Nat.le_of_ble_eq_true rfl) dX7_sumFor_87 ⟨Nat.zero_le _, Nat.zero_le _⟩ (fun H locs hI => ?_)
      refine lv_iload hx hb dX7_sumFor_90 (lv_at hl 0 rfl) ?_
      refine lv_imul hx hb dX7_sumFor_92 ?_
      refine lv_aload_n hx hb dX7_sumFor_93 rfl (lv_at hl 6 rfl) ?_
      refine lv_iload hx hb dX7_sumFor_94 (lv_at hl 1 rfl) ?_
      refine cr_call (As := [.int ((lX7_sumFor_15 S k s_ (ncl S)).1)]) (rest := [.int ((fX4_falsePartOf S s_ ((lX7_sumFor_15 S k s_ (ncl S)).2)) * 2)]) hC hI (qX4_falsePartOf l D cy g S e0 hV s_ hs_ ((lX7_sumFor_15 S k s_ (ncl S)).1)) (cwV 1 hts gX7_sumFor_X4_falsePartOf rfl rfl rfl (by decide +kernel) ⟨Nat.le_of_ble_eq_true rfl, Nat.le_of_ble_eq_true rfl⟩) (cr_prev (ci := 5) hC hI 5 s_ (hT.v5 hs_) rfl rfl) rfl hl.1 rfl (Nat.le_of_ble_eq_true rfl) dX7_sumFor_96 ⟨Nat.zero_le _, Nat.zero_le _⟩ (fun H locs hI => ?_)
      refine lv_aload_n hx hb dX7_sumFor_99 rfl (lv_at hl 6 rfl) ?_
      refine cr_call (As := []) (rest := [.int (fX4_falsePartOf S s_ ((lX7_sumFor_15 S k s_ (ncl S)).1)), .int ((fX4_falsePartOf S s_ ((lX7_sumFor_15 S k s_ (ncl S)).2)) * 2)]) hC hI (qX4_penalty l D cy g S e0 hV s_ hs_) (cwV 0 hts gX7_sumFor_X4_penalty rfl rfl rfl (by decide +kernel) ⟨Nat.le_of_ble_eq_true rfl, Nat.le_of_ble_eq_true rfl⟩) (cr_prev (ci := 5) hC hI 5 s_ (hT.v5 hs_) rfl rfl) rfl hl.1 rfl (Nat.le_of_ble_eq_true rfl) dX7_sumFor_100 ⟨Nat.zero_le _, Nat.zero_le _⟩ (fun H locs hI => ?_)
      refine lv_imul hx hb dX7_sumFor_103 ?_
      refine lv_iadd hx hb dX7_sumFor_104 ?_
      exact W.iret (v := (((fX4_falsePartOf S s_ ((lX7_sumFor_15 S k s_ (ncl S)).2)) * 2) + ((fX4_falsePartOf S s_ ((lX7_sumFor_15 S k s_ (ncl S)).1)) * (fX4_penalty S s_)))) hx hb hr (fun t9 ht9 hW9 => ⟨⟨(((fX4_falsePartOf S s_ ((lX7_sumFor_15 S k s_ (ncl S)).2)) * 2) + ((fX4_falsePartOf S s_ ((lX7_sumFor_15 S k s_ (ncl S)).1)) * (fX4_penalty S s_))), (), rfl, hG.symm, trivial⟩, hI.2.F ht9⟩) hI.2.2.2 dX7_sumFor_105
  · have hlt15 : i15 < ncl S := w_in hN.n15 hi15 (by have := hN.b15; omega) c_1
    have hB15 : iX7_sumFor_15 S k s_ i15 x15_5 x15_4 = iX7_sumFor_15 S k s_ i15 x15_5 x15_4 := rfl
    refine lv_aload_n hx hb dX7_sumFor_27 rfl (lv_at hl 4 rfl) ?_
    refine cr_get (ci := 8) hC hI 18 0 rfl rfl rfl hinX7 4 (by decide) k_32 (fun _ h => h) (v := .ref (ga g 12 1)) rfl dX7_sumFor_28 ?_
    refine lv_iload hx hb dX7_sumFor_31 (lv_at hl 0 rfl) ?_
    refine cr_get12 (rest := []) hC hI hV 1 (by decide) rfl (n := i15) (hT.v6 hlt15) (cwV 1 hts gX7_sumFor_Jx4a65c_get_915e3 rfl rfl rfl (by decide +kernel) ⟨Nat.le_of_ble_eq_true rfl, Nat.le_of_ble_eq_true rfl⟩) hl.1 (Nat.le_of_ble_eq_true rfl) dX7_sumFor_33 ⟨Nat.zero_le _, Nat.zero_le _⟩ (fun H locs hI => ?_)
    refine cr_cast (ci := 1) hC hI 6 i15 (hT.v6 hlt15) rfl rfl (hts (.classLink RX7 103 "RelatorsBench$Claim") (List.mem_cons_of_mem _ (List.mem_append_left _ (List.mem_append_left _ (List.mem_append_left _ (List.mem_append_left _ (List.mem_append_left _ (List.mem_append_left _ (List.mem_append_left _ (List.mem_of_getElem? (i := 1) rfl)))))))))) dX7_sumFor_36 ?_
    refine lv_astore (lv' := [(7, .ref (ga g 6 i15)), (6, .int (nI i15)), (5, .int x15_5), (4, .int x15_4), (3, .int (fX5_coverDay S k s_)), (0, .ref (ga g 18 0)), (1, .ref (ga g 8 k)), (2, .ref (ga g 5 s_))]) hx hb dX7_sumFor_39 hl (by decide) rfl (fun ls hl => ?_)
    refine lv_aload hx hb dX7_sumFor_41 (lv_at hl 0 rfl) ?_
    refine lv_aload_n hx hb dX7_sumFor_43 rfl (lv_at hl 7 rfl) ?_
    refine lv_iload_n hx hb dX7_sumFor_44 rfl (lv_at hl 4 rfl) ?_
    refine cr_callSP (As := [.ref (ga g 6 i15), .ref (ga g 5 s_), .int (fX5_coverDay S k s_)]) (rest := []) hC hI (qX7_counts l D cy g S e0 hV i15 hlt15 s_ hs_ (fX5_coverDay S k s_)) (va_cwS 3 hts gX7_sumFor_X7_counts rfl rfl rfl (by decide +kernel) ⟨Nat.le_of_ble_eq_true rfl, Nat.le_of_ble_eq_true rfl⟩) rfl hl.1 rfl (Nat.le_of_ble_eq_true rfl) dX7_sumFor_45 ⟨Nat.zero_le _, Nat.zero_le _⟩ (fun H locs hI => ?_)
    refine lv_if_eq (tgt := 64) hx hb dX7_sumFor_48 (by decide) (fun c_3 => ?_) (fun c_3 => ?_)
    · have hB15 := hB15.trans (if_pos c_3)
      refine lv_iinc (v := (nI (i15 + 1))) (lv' := [(6, .int (nI (i15 + 1))), (7, .ref (ga g 6 i15)), (5, .int x15_5), (4, .int x15_4), (3, .int (fX5_coverDay S k s_)), (0, .ref (ga g 18 0)), (1, .ref (ga g 8 k)), (2, .ref (ga g 5 s_))]) hx hb dX7_sumFor_64 hl (k := 1) rfl (nI_1 i15) (by decide) rfl (fun ls hl => ?_)
      refine lv_goto (tgt := 15) hx hb dX7_sumFor_67 (by decide) ?_
      exact ih15 (x15_5, x15_4) _ _ ls hlt15 ⟨(by show _ = iX7_sumFor_15 S k s_ i15 (lX7_sumFor_15 S k s_ i15).1 (lX7_sumFor_15 S k s_ i15).2; rw [← hz15]; exact hB15.symm), hI, lv_sub hl [0, 2, 3, 4, 5, 6, 7] rfl⟩
    · have hB15 := hB15.trans (if_neg c_3)
      refine lv_iload hx hb dX7_sumFor_51 (lv_at hl 3 rfl) ?_
      refine lv_aload hx hb dX7_sumFor_53 (lv_at hl 0 rfl) ?_
      refine cr_get (ci := 1) hC hI 6 i15 (hT.v6 hlt15) rfl rfl hinX0 1 (by decide) k_293 (fun _ h => h) (v := .int (S 17 i15)) rfl dX7_sumFor_55 ?_
      refine lv_iadd hx hb dX7_sumFor_58 ?_
      refine lv_istore (lv' := [(4, .int (x15_4 + (S 17 i15))), (7, .ref (ga g 6 i15)), (6, .int (nI i15)), (5, .int x15_5), (3, .int (fX5_coverDay S k s_)), (0, .ref (ga g 18 0)), (1, .ref (ga g 8 k)), (2, .ref (ga g 5 s_))]) hx hb dX7_sumFor_59 hl (by decide) rfl (fun ls hl => ?_)
      refine lv_iinc (v := (x15_5 + 1)) (lv' := [(5, .int (x15_5 + 1)), (4, .int (x15_4 + (S 17 i15))), (7, .ref (ga g 6 i15)), (6, .int (nI i15)), (3, .int (fX5_coverDay S k s_)), (0, .ref (ga g 18 0)), (1, .ref (ga g 8 k)), (2, .ref (ga g 5 s_))]) hx hb dX7_sumFor_61 hl (k := 3) rfl rfl (by decide) rfl (fun ls hl => ?_)
      refine lv_iinc (v := (nI (i15 + 1))) (lv' := [(6, .int (nI (i15 + 1))), (5, .int (x15_5 + 1)), (4, .int (x15_4 + (S 17 i15))), (7, .ref (ga g 6 i15)), (3, .int (fX5_coverDay S k s_)), (0, .ref (ga g 18 0)), (1, .ref (ga g 8 k)), (2, .ref (ga g 5 s_))]) hx hb dX7_sumFor_64 hl (k := 3) rfl (nI_1 i15) (by decide) rfl (fun ls hl => ?_)
      refine lv_goto (tgt := 15) hx hb dX7_sumFor_67 (by decide) ?_
      exact ih15 ((x15_5 + 1), (x15_4 + (S 17 i15))) _ _ ls hlt15 ⟨(by show _ = iX7_sumFor_15 S k s_ i15 (lX7_sumFor_15 S k s_ i15).1 (lX7_sumFor_15 S k s_ i15).2; rw [← hz15]; exact hB15.symm), hI, lv_sub hl [0, 1, 2, 4, 5, 6, 7] rfl⟩
set_option maxHeartbeats 4000000 in
set_option maxRecDepth 100000 in
theorem qX7_dueBy (l : Launch) (D : va_G) (cy : Nat → ClassId) (g : CWt) (S : St) (e0 : Nat) (hV : CV e0 g S) (k : Nat) (hk : k < nsu S) : CPure l D cy g S yX7_dueBy wsX7_dueBy ({ frames := 6, cells := 0, slots := 0, locals := 137 } : Room) [.ref (ga g 18 0), .ref (ga g 8 k)] (fX7_dueBy S k) := by
  refine Met.ofW (cc := cX7_dueBy) (maxL := 5) (ret := (some .int)) (by decide) rfl ?_
  intro p e s m args below meth c s₁ B hml hv
  obtain ⟨rfl, hM, hK⟩ := hv
  have hx := B.exec
  have hb := B.bytes
  have hr := B.returns
  have hts := atoms_spec (ws := wsX7_dueBy) B.pre
  have hown : s.vm.findClass RX7 = some m.cls := findClass_of_methodNamed B.named
  have hlocks := B.notSynchronized
  have hC : CC p s m _ c cX7_dueBy 5 RX7 D cy wsX7_dueBy := ⟨⟨hx, hb, hml, hown, hts⟩, hK⟩
  have hI : CI (fun _ => False) D cy g s S s.heap [] := ⟨hM, va_S.rf⟩
  have hT := hV.2.1
  have hN := hV.2.2.1
  have hQ := hV.2.2.2
  have hb7 := hN.b7
  have hb15 := hN.b15
  have hb23 := hN.b23
  have hb28 := hN.b28
  have hb42 := hN.b42
  have hb64 := hQ.b64
  have k_28 := hts (.fieldLink RX7 28 "RelatorsBench" "schemes" "Ljava/util/ArrayList;") (List.mem_cons_of_mem _ (List.mem_append_left _ (List.mem_append_left _ (List.mem_append_left _ (List.mem_append_left _ (List.mem_append_left _ (List.mem_append_left _ (List.mem_append_left _ (List.mem_of_getElem? (i := 0) rfl)))))))))
  have hinX7 : ∀ w ∈ wsX70, w ∈ wsX7_dueBy := fun _ h => List.mem_cons_of_mem _ (List.mem_append_left _ (List.mem_append_left _ (List.mem_append_left _ (List.mem_append_left _ (List.mem_append_left _ (List.mem_append_right _ (h)))))))
  have hl := lv_entry ([.ref (ga g 18 0), .ref (ga g 8 k)]) (n := 5) (Nat.le_of_ble_eq_true rfl)
  rw [lg_entry_eq]
  generalize (lg_sl ([.ref (ga g 18 0), .ref (ga g 8 k)]) ++ List.replicate (5 - (lg_sl ([.ref (ga g 18 0), .ref (ga g 8 k)])).length) Slot.unset).toArray = ls at hl ⊢
  have hl : lv_has ls 5 [(0, .ref (ga g 18 0)), (1, .ref (ga g 8 k))] := hl
  have hG : fX7_dueBy S k = fX7_dueBy S k := rfl
  refine lv_aload_n hx hb dX7_dueBy_0 rfl (lv_at hl 1 rfl) ?_
  refine cr_call (As := []) (rest := []) hC hI (qX5_isOver l D cy g S e0 hV k hk) (cwV 0 hts gX7_dueBy_X5_isOver rfl rfl rfl (by decide +kernel) ⟨Nat.le_of_ble_eq_true rfl, Nat.le_of_ble_eq_true rfl⟩) (cr_prev (ci := 6) hC hI 8 k (hT.v8 hk) rfl rfl) rfl hl.1 rfl (Nat.le_of_ble_eq_true rfl) dX7_dueBy_1 ⟨Nat.zero_le _, Nat.zero_le _⟩ (fun H locs hI => ?_)
  refine lv_if_eq (tgt := 9) hx hb dX7_dueBy_4 (by decide) (fun c_1 => ?_) (fun c_1 => ?_)
  · have hG := hG.trans (if_pos c_1)
    refine lv_iconst (v := 0) hx hb dX7_dueBy_9 (by decide) ?_
    refine lv_istore_n (lv' := [(2, .int 0), (0, .ref (ga g 18 0)), (1, .ref (ga g 8 k))]) hx hb dX7_dueBy_10 rfl hl (by decide) rfl (fun ls hl => ?_)
    refine lv_iconst (v := 0) hx hb dX7_dueBy_11 (by decide) ?_
    refine lv_istore_n (lv' := [(3, .int 0), (2, .int 0), (0, .ref (ga g 18 0)), (1, .ref (ga g 8 k))]) hx hb dX7_dueBy_12 rfl hl (by decide) rfl (fun ls hl => ?_)
    refine w_loop (σ := Int32) (nsc S) 13 (fun i13 z H locs ls => z = lX7_dueBy_13 S k i13 ∧ CI (fun _ => False) D cy g s S H locs ∧ lv_has ls 5 [(3, .int (nI i13)), (2, .int z), (0, .ref (ga g 18 0)), (1, .ref (ga g 8 k))]) ?_ 0 ⟨rfl, hI, lv_sub hl [0, 1, 2, 3] rfl⟩
    intro i13 z H locs ls ⟨hz13, hI, hl⟩ hi13 ih13
    obtain ⟨x13_2, rfl⟩ : ∃ x, x = z := ⟨_, rfl⟩
    refine lv_iload_n hx hb dX7_dueBy_13 rfl (lv_at hl 0 rfl) ?_
    refine lv_aload_n hx hb dX7_dueBy_14 rfl (lv_at hl 2 rfl) ?_
    refine cr_get (ci := 8) hC hI 18 0 rfl rfl rfl hinX7 3 (by decide) k_28 (fun _ h => h) (v := .ref (ga g 12 0)) rfl dX7_dueBy_15 ?_
    refine cr_size (rest := [.int (nI i13)]) hC hI 12 0 (show 0 < 4 by decide) rfl (cwV 0 hts gX7_dueBy_Jx4a65c_size_8abf5 rfl rfl rfl (by decide +kernel) ⟨Nat.le_of_ble_eq_true rfl, Nat.le_of_ble_eq_true rfl⟩) (qAL_size0 l D cy (ga g 12 0) (ga g 13 0) (gm g 12 0) _) hl.1 (Nat.le_of_ble_eq_true rfl) dX7_dueBy_18 ⟨Nat.zero_le _, Nat.zero_le _⟩ (w := (S 7 0)) rfl (fun H locs hI => ?_)
    refine lv_icmp_ge (tgt := 63) hx hb dX7_dueBy_21 (by decide) (fun c_2 => ?_) (fun c_2 => ?_)
    · obtain rfl : i13 = nsc S := w_exit hN.n7 hi13 (by have := hN.b7; omega) c_2
      obtain rfl : x13_2 = (lX7_dueBy_13 S k (nsc S)) := by rw [← hz13]
      refine lv_iload_n hx hb dX7_dueBy_63 rfl (lv_at hl 1 rfl) ?_
      exact W.iret (v := (lX7_dueBy_13 S k (nsc S))) hx hb hr (fun t9 ht9 hW9 => ⟨⟨(lX7_dueBy_13 S k (nsc S)), (), rfl, hG.symm, trivial⟩, hI.2.F ht9⟩) hI.2.2.2 dX7_dueBy_64
    · have hlt13 : i13 < nsc S := w_in hN.n7 hi13 (by have := hN.b7; omega) c_2
      have hB13 : iX7_dueBy_13 S k i13 x13_2 = iX7_dueBy_13 S k i13 x13_2 := rfl
      refine lv_aload_n hx hb dX7_dueBy_24 rfl (lv_at hl 2 rfl) ?_
      refine cr_get (ci := 8) hC hI 18 0 rfl rfl rfl hinX7 3 (by decide) k_28 (fun _ h => h) (v := .ref (ga g 12 0)) rfl dX7_dueBy_25 ?_
      refine lv_iload_n hx hb dX7_dueBy_28 rfl (lv_at hl 0 rfl) ?_
      refine cr_get12 (rest := []) hC hI hV 0 (by decide) rfl (n := i13) (hT.v5 hlt13) (cwV 1 hts gX7_dueBy_Jx4a65c_get_915e3 rfl rfl rfl (by decide +kernel) ⟨Nat.le_of_ble_eq_true rfl, Nat.le_of_ble_eq_true rfl⟩) hl.1 (Nat.le_of_ble_eq_true rfl) dX7_dueBy_29 ⟨Nat.zero_le _, Nat.zero_le _⟩ (fun H locs hI => ?_)
      refine cr_cast (ci := 5) hC hI 5 i13 (hT.v5 hlt13) rfl rfl (hts (.classLink RX7 94 "RelatorsBench$Scheme") (List.mem_cons_of_mem _ (List.mem_append_left _ (List.mem_append_left _ (List.mem_append_left _ (List.mem_append_left _ (List.mem_append_left _ (List.mem_append_left _ (List.mem_append_left _ (List.mem_of_getElem? (i := 1) rfl)))))))))) dX7_dueBy_32 ?_
      refine lv_astore (lv' := [(4, .ref (ga g 5 i13)), (3, .int (nI i13)), (2, .int x13_2), (0, .ref (ga g 18 0)), (1, .ref (ga g 8 k))]) hx hb dX7_dueBy_35 hl (by decide) rfl (fun ls hl => ?_)
      refine lv_aload_n hx hb dX7_dueBy_37 rfl (lv_at hl 3 rfl) ?_
      refine lv_aload_n hx hb dX7_dueBy_38 rfl (lv_at hl 4 rfl) ?_
      refine lv_aload hx hb dX7_dueBy_39 (lv_at hl 0 rfl) ?_
      refine cr_call (As := [.ref (ga g 8 k), .ref (ga g 5 i13)]) (rest := []) hC hI (qX7_barOf l D cy g S e0 hV k hk i13 hlt13) (cwV 2 hts gX7_dueBy_X7_barOf rfl rfl rfl (by decide +kernel) ⟨Nat.le_of_ble_eq_true rfl, Nat.le_of_ble_eq_true rfl⟩) (cr_prev (ci := 8) hC hI 18 0 rfl rfl rfl) rfl hl.1 rfl (Nat.le_of_ble_eq_true rfl) dX7_dueBy_41 ⟨Nat.zero_le _, Nat.zero_le _⟩ (fun H locs hI => ?_)
      refine lv_if_ne (tgt := 57) hx hb dX7_dueBy_44 (by decide) (fun c_3 => ?_) (fun c_3 => ?_)
      · have hB13 := hB13.trans (if_neg c_3)
        refine lv_iinc (v := (nI (i13 + 1))) (lv' := [(3, .int (nI (i13 + 1))), (4, .ref (ga g 5 i13)), (2, .int x13_2), (0, .ref (ga g 18 0)), (1, .ref (ga g 8 k))]) hx hb dX7_dueBy_57 hl (k := 1) rfl (nI_1 i13) (by decide) rfl (fun ls hl => ?_)
        refine lv_goto (tgt := 13) hx hb dX7_dueBy_60 (by decide) ?_
        exact ih13 x13_2 _ _ ls hlt13 ⟨(by show _ = iX7_dueBy_13 S k i13 (lX7_dueBy_13 S k i13); rw [← hz13]; exact hB13.symm), hI, lv_sub hl [0, 2, 3, 4] rfl⟩
      · have hB13 := hB13.trans (if_pos c_3)
        refine lv_iload_n hx hb dX7_dueBy_47 rfl (lv_at hl 2 rfl) ?_
        refine lv_aload_n hx hb dX7_dueBy_48 rfl (lv_at hl 3 rfl) ?_
        refine lv_aload_n hx hb dX7_dueBy_49 rfl (lv_at hl 4 rfl) ?_
        refine lv_aload hx hb dX7_dueBy_50 (lv_at hl 0 rfl) ?_
        refine cr_call (As := [.ref (ga g 8 k), .ref (ga g 5 i13)]) (rest := [.int x13_2]) hC hI (qX7_sumFor l D cy g S e0 hV k hk i13 hlt13) (cwV 2 hts gX7_dueBy_X7_sumFor rfl rfl rfl (by decide +kernel) ⟨Nat.le_of_ble_eq_true rfl, Nat.le_of_ble_eq_true rfl⟩) (cr_prev (ci := 8) hC hI 18 0 rfl rfl rfl) rfl hl.1 rfl (Nat.le_of_ble_eq_true rfl) dX7_dueBy_52 ⟨Nat.zero_le _, Nat.zero_le _⟩ (fun H locs hI => ?_)
        refine lv_iadd hx hb dX7_dueBy_55 ?_
        refine lv_istore_n (lv' := [(2, .int (x13_2 + (fX7_sumFor S k i13))), (4, .ref (ga g 5 i13)), (3, .int (nI i13)), (0, .ref (ga g 18 0)), (1, .ref (ga g 8 k))]) hx hb dX7_dueBy_56 rfl hl (by decide) rfl (fun ls hl => ?_)
        refine lv_iinc (v := (nI (i13 + 1))) (lv' := [(3, .int (nI (i13 + 1))), (2, .int (x13_2 + (fX7_sumFor S k i13))), (4, .ref (ga g 5 i13)), (0, .ref (ga g 18 0)), (1, .ref (ga g 8 k))]) hx hb dX7_dueBy_57 hl (k := 2) rfl (nI_1 i13) (by decide) rfl (fun ls hl => ?_)
        refine lv_goto (tgt := 13) hx hb dX7_dueBy_60 (by decide) ?_
        exact ih13 (x13_2 + (fX7_sumFor S k i13)) _ _ ls hlt13 ⟨(by show _ = iX7_dueBy_13 S k i13 (lX7_dueBy_13 S k i13); rw [← hz13]; exact hB13.symm), hI, lv_sub hl [0, 1, 3, 4] rfl⟩
  · have hG := hG.trans (if_neg c_1)
    refine lv_iconst (v := 0) hx hb dX7_dueBy_7 (by decide) ?_
    exact W.iret (v := 0) hx hb hr (fun t9 ht9 hW9 => ⟨⟨0, (), rfl, hG.symm, trivial⟩, hI.2.F ht9⟩) hI.2.2.2 dX7_dueBy_8
set_option maxHeartbeats 4000000 in
set_option maxRecDepth 100000 in
theorem qX7_hundredthsOf (l : Launch) (D : va_G) (cy : Nat → ClassId) (g : CWt) (S : St) (e0 : Nat) (hV : CV e0 g S) (k : Nat) (hk : k < nsu S) : CPure l D cy g S yX7_hundredthsOf wsX7_hundredthsOf ({ frames := 6, cells := 0, slots := 0, locals := 137 } : Room) [.ref (ga g 18 0), .ref (ga g 8 k)] (fX7_hundredthsOf S k) := by
  refine Met.ofW (cc := cX7_hundredthsOf) (maxL := 5) (ret := (some .int)) (by decide) rfl ?_
  intro p e s m args below meth c s₁ B hml hv
  obtain ⟨rfl, hM, hK⟩ := hv
  have hx := B.exec
  have hb := B.bytes
  have hr := B.returns
  have hts := atoms_spec (ws := wsX7_hundredthsOf) B.pre
  have hown : s.vm.findClass RX7 = some m.cls := findClass_of_methodNamed B.named
  have hlocks := B.notSynchronized
  have hC : CC p s m _ c cX7_hundredthsOf 5 RX7 D cy wsX7_hundredthsOf := ⟨⟨hx, hb, hml, hown, hts⟩, hK⟩
  have hI : CI (fun _ => False) D cy g s S s.heap [] := ⟨hM, va_S.rf⟩
  have hT := hV.2.1
  have hN := hV.2.2.1
  have hQ := hV.2.2.2
  have hb7 := hN.b7
  have hb15 := hN.b15
  have hb23 := hN.b23
  have hb28 := hN.b28
  have hb42 := hN.b42
  have hb64 := hQ.b64
  have k_195 := hts (.fieldLink RX7 195 "RelatorsBench$Suit" "state" "I") (List.mem_cons_of_mem _ (List.mem_append_left _ (List.mem_append_left _ (List.mem_append_left _ (List.mem_append_left _ (List.mem_append_left _ (List.mem_append_left _ (List.mem_of_getElem? (i := 0) rfl))))))))
  have hinX5 : ∀ w ∈ wsX50, w ∈ wsX7_hundredthsOf := fun _ h => List.mem_cons_of_mem _ (List.mem_append_left _ (List.mem_append_left _ (List.mem_append_left _ (List.mem_append_left _ (List.mem_append_right _ (h))))))
  have k_207 := hts (.fieldLink RX7 207 "RelatorsBench$Suit" "help" "I") (List.mem_cons_of_mem _ (List.mem_append_left _ (List.mem_append_left _ (List.mem_append_left _ (List.mem_append_left _ (List.mem_append_left _ (List.mem_append_left _ (List.mem_of_getElem? (i := 2) rfl))))))))
  have k_28 := hts (.fieldLink RX7 28 "RelatorsBench" "schemes" "Ljava/util/ArrayList;") (List.mem_cons_of_mem _ (List.mem_append_left _ (List.mem_append_left _ (List.mem_append_left _ (List.mem_append_left _ (List.mem_append_left _ (List.mem_append_left _ (List.mem_of_getElem? (i := 3) rfl))))))))
  have hinX7 : ∀ w ∈ wsX70, w ∈ wsX7_hundredthsOf := fun _ h => List.mem_cons_of_mem _ (List.mem_append_left _ (List.mem_append_left _ (List.mem_append_left _ (List.mem_append_right _ (h)))))
  have k_179 := hts (.fieldLink RX7 179 "RelatorsBench$Suit" "teller" "I") (List.mem_cons_of_mem _ (List.mem_append_left _ (List.mem_append_left _ (List.mem_append_left _ (List.mem_append_left _ (List.mem_append_left _ (List.mem_append_left _ (List.mem_of_getElem? (i := 5) rfl))))))))
  have k_359 := hts (.fieldLink RX7 359 "RelatorsBench$Suit" "hundredths" "I") (List.mem_cons_of_mem _ (List.mem_append_left _ (List.mem_append_left _ (List.mem_append_left _ (List.mem_append_left _ (List.mem_append_left _ (List.mem_append_left _ (List.mem_of_getElem? (i := 1) rfl))))))))
  have hl := lv_entry ([.ref (ga g 18 0), .ref (ga g 8 k)]) (n := 5) (Nat.le_of_ble_eq_true rfl)
  rw [lg_entry_eq]
  generalize (lg_sl ([.ref (ga g 18 0), .ref (ga g 8 k)]) ++ List.replicate (5 - (lg_sl ([.ref (ga g 18 0), .ref (ga g 8 k)])).length) Slot.unset).toArray = ls at hl ⊢
  have hl : lv_has ls 5 [(0, .ref (ga g 18 0)), (1, .ref (ga g 8 k))] := hl
  have hG : fX7_hundredthsOf S k = fX7_hundredthsOf S k := rfl
  refine lv_aload_n hx hb dX7_hundredthsOf_0 rfl (lv_at hl 1 rfl) ?_
  refine cr_get (ci := 6) hC hI 8 k (hT.v8 hk) rfl rfl hinX5 7 (by decide) k_195 (fun _ h => h) (v := .int (S 34 k)) rfl dX7_hundredthsOf_1 ?_
  refine lv_iconst (v := 4) hx hb dX7_hundredthsOf_4 (by decide) ?_
  refine lv_icmp_ne (tgt := 13) hx hb dX7_hundredthsOf_5 (by decide) (fun c_1 => ?_) (fun c_1 => ?_)
  · have hG := hG.trans (if_neg c_1)
    refine lv_aload_n hx hb dX7_hundredthsOf_13 rfl (lv_at hl 1 rfl) ?_
    refine cr_call (As := []) (rest := []) hC hI (qX5_isReady l D cy g S e0 hV k hk) (cwV 0 hts gX7_hundredthsOf_X5_isReady rfl rfl rfl (by decide +kernel) ⟨Nat.le_of_ble_eq_true rfl, Nat.le_of_ble_eq_true rfl⟩) (cr_prev (ci := 6) hC hI 8 k (hT.v8 hk) rfl rfl) rfl hl.1 rfl (Nat.le_of_ble_eq_true rfl) dX7_hundredthsOf_14 ⟨Nat.zero_le _, Nat.zero_le _⟩ (fun H locs hI => ?_)
    refine lv_if_ne (tgt := 22) hx hb dX7_hundredthsOf_17 (by decide) (fun c_2 => ?_) (fun c_2 => ?_)
    · have hG := hG.trans (if_neg c_2)
      refine lv_aload_n hx hb dX7_hundredthsOf_22 rfl (lv_at hl 1 rfl) ?_
      refine cr_get (ci := 6) hC hI 8 k (hT.v8 hk) rfl rfl hinX5 7 (by decide) k_195 (fun _ h => h) (v := .int (S 34 k)) rfl dX7_hundredthsOf_23 ?_
      refine lv_iconst (v := 1) hx hb dX7_hundredthsOf_26 (by decide) ?_
      refine lv_icmp_ne (tgt := 40) hx hb dX7_hundredthsOf_27 (by decide) (fun c_3 => ?_) (fun c_3 => ?_)
      · have hG := hG.trans (if_neg c_3)
        refine lv_bipush (v := 25) hx hb dX7_hundredthsOf_40 (by decide) ?_
        refine lv_aload_n hx hb dX7_hundredthsOf_42 rfl (lv_at hl 1 rfl) ?_
        refine cr_get (ci := 6) hC hI 8 k (hT.v8 hk) rfl rfl hinX5 11 (by decide) k_207 (fun _ h => h) (v := .int (S 38 k)) rfl dX7_hundredthsOf_43 ?_
        refine lv_iconst (v := 2) hx hb dX7_hundredthsOf_46 (by decide) ?_
        refine lv_idiv hx hb dX7_hundredthsOf_47 (by decide) ?_
        refine lv_iadd hx hb dX7_hundredthsOf_48 ?_
        refine lv_istore_n (lv' := [(2, .int (25 + ((S 38 k) / 2))), (0, .ref (ga g 18 0)), (1, .ref (ga g 8 k))]) hx hb dX7_hundredthsOf_49 rfl hl (by decide) rfl (fun ls hl => ?_)
        refine lv_iconst (v := 0) hx hb dX7_hundredthsOf_50 (by decide) ?_
        refine lv_istore_n (lv' := [(3, .int 0), (2, .int (25 + ((S 38 k) / 2))), (0, .ref (ga g 18 0)), (1, .ref (ga g 8 k))]) hx hb dX7_hundredthsOf_51 rfl hl (by decide) rfl (fun ls hl => ?_)
        refine w_loop (σ := Unit) (nsc S) 52 (fun i52 z H locs ls => fX7_hundredthsOf S k = rX7_hundredthsOf_52 S k ((nsc S) - i52) i52 ∧ CI (fun _ => False) D cy g s S H locs ∧ lv_has ls 5 [(3, .int (nI i52)), (2, .int (25 + ((S 38 k) / 2))), (0, .ref (ga g 18 0)), (1, .ref (ga g 8 k))]) ?_ () ⟨hG, hI, lv_sub hl [0, 1, 2, 3] rfl⟩
        intro i52 z H locs ls ⟨hG, hI, hl⟩ hi52 ih52
        refine lv_iload_n hx hb dX7_hundredthsOf_52 rfl (lv_at hl 0 rfl) ?_
        refine lv_aload_n hx hb dX7_hundredthsOf_53 rfl (lv_at hl 2 rfl) ?_
        refine cr_get (ci := 8) hC hI 18 0 rfl rfl rfl hinX7 3 (by decide) k_28 (fun _ h => h) (v := .ref (ga g 12 0)) rfl dX7_hundredthsOf_54 ?_
        refine cr_size (rest := [.int (nI i52)]) hC hI 12 0 (show 0 < 4 by decide) rfl (cwV 0 hts gX7_hundredthsOf_Jx4a65c_size_8abf5 rfl rfl rfl (by decide +kernel) ⟨Nat.le_of_ble_eq_true rfl, Nat.le_of_ble_eq_true rfl⟩) (qAL_size0 l D cy (ga g 12 0) (ga g 13 0) (gm g 12 0) _) hl.1 (Nat.le_of_ble_eq_true rfl) dX7_hundredthsOf_57 ⟨Nat.zero_le _, Nat.zero_le _⟩ (w := (S 7 0)) rfl (fun H locs hI => ?_)
        refine lv_icmp_ge (tgt := 108) hx hb dX7_hundredthsOf_60 (by decide) (fun c_4 => ?_) (fun c_4 => ?_)
        · have hxN : i52 = nsc S := w_exit hN.n7 hi52 (by have := hN.b7; omega) c_4
          rw [show (nsc S) - i52 = 0 by omega] at hG
          have hG := hG.trans (rX7_hundredthsOf_52_0 S k i52)
          refine lv_iload_n hx hb dX7_hundredthsOf_108 rfl (lv_at hl 1 rfl) ?_
          exact W.iret (v := (25 + ((S 38 k) / 2))) hx hb hr (fun t9 ht9 hW9 => ⟨⟨(25 + ((S 38 k) / 2)), (), rfl, hG.symm, trivial⟩, hI.2.F ht9⟩) hI.2.2.2 dX7_hundredthsOf_109
        · have hlt52 : i52 < nsc S := w_in hN.n7 hi52 (by have := hN.b7; omega) c_4
          rw [show (nsc S) - i52 = ((nsc S) - (i52 + 1)) + 1 by omega] at hG
          have hG := hG.trans (rX7_hundredthsOf_52_s S k i52 ((nsc S) - (i52 + 1)))
          refine lv_aload_n hx hb dX7_hundredthsOf_63 rfl (lv_at hl 2 rfl) ?_
          refine cr_get (ci := 8) hC hI 18 0 rfl rfl rfl hinX7 3 (by decide) k_28 (fun _ h => h) (v := .ref (ga g 12 0)) rfl dX7_hundredthsOf_64 ?_
          refine lv_iload_n hx hb dX7_hundredthsOf_67 rfl (lv_at hl 0 rfl) ?_
          refine cr_get12 (rest := []) hC hI hV 0 (by decide) rfl (n := i52) (hT.v5 hlt52) (cwV 1 hts gX7_hundredthsOf_Jx4a65c_get_915e3 rfl rfl rfl (by decide +kernel) ⟨Nat.le_of_ble_eq_true rfl, Nat.le_of_ble_eq_true rfl⟩) hl.1 (Nat.le_of_ble_eq_true rfl) dX7_hundredthsOf_68 ⟨Nat.zero_le _, Nat.zero_le _⟩ (fun H locs hI => ?_)
          refine cr_cast (ci := 5) hC hI 5 i52 (hT.v5 hlt52) rfl rfl (hts (.classLink RX7 94 "RelatorsBench$Scheme") (List.mem_cons_of_mem _ (List.mem_append_left _ (List.mem_append_left _ (List.mem_append_left _ (List.mem_append_left _ (List.mem_append_left _ (List.mem_append_left _ (List.mem_of_getElem? (i := 4) rfl))))))))) dX7_hundredthsOf_71 ?_
          refine lv_astore (lv' := [(4, .ref (ga g 5 i52)), (3, .int (nI i52)), (2, .int (25 + ((S 38 k) / 2))), (0, .ref (ga g 18 0)), (1, .ref (ga g 8 k))]) hx hb dX7_hundredthsOf_74 hl (by decide) rfl (fun ls hl => ?_)
          refine lv_aload hx hb dX7_hundredthsOf_76 (lv_at hl 0 rfl) ?_
          refine lv_aload_n hx hb dX7_hundredthsOf_78 rfl (lv_at hl 4 rfl) ?_
          refine cr_get (ci := 6) hC hI 8 k (hT.v8 hk) rfl rfl hinX5 1 (by decide) k_179 (fun _ h => h) (v := .int (S 29 k)) rfl dX7_hundredthsOf_79 ?_
          refine cr_call (As := [.int (S 29 k)]) (rest := []) hC hI (qX4_isPlannedBy l D cy g S e0 hV i52 hlt52 (S 29 k)) (cwV 1 hts gX7_hundredthsOf_X4_isPlannedBy rfl rfl rfl (by decide +kernel) ⟨Nat.le_of_ble_eq_true rfl, Nat.le_of_ble_eq_true rfl⟩) (cr_prev (ci := 5) hC hI 5 i52 (hT.v5 hlt52) rfl rfl) rfl hl.1 rfl (Nat.le_of_ble_eq_true rfl) dX7_hundredthsOf_82 ⟨Nat.zero_le _, Nat.zero_le _⟩ (fun H locs hI => ?_)
          refine lv_if_eq (tgt := 102) hx hb dX7_hundredthsOf_85 (by decide) (fun c_5 => ?_) (fun c_5 => ?_)
          · have hG := hG.trans (if_pos c_5)
            refine lv_iinc (v := (nI (i52 + 1))) (lv' := [(3, .int (nI (i52 + 1))), (4, .ref (ga g 5 i52)), (2, .int (25 + ((S 38 k) / 2))), (0, .ref (ga g 18 0)), (1, .ref (ga g 8 k))]) hx hb dX7_hundredthsOf_102 hl (k := 1) rfl (nI_1 i52) (by decide) rfl (fun ls hl => ?_)
            refine lv_goto (tgt := 52) hx hb dX7_hundredthsOf_105 (by decide) ?_
            exact ih52 () _ _ ls hlt52 ⟨hG, hI, lv_sub hl [0, 2, 3, 4] rfl⟩
          · have hG := hG.trans (if_neg c_5)
            refine lv_aload_n hx hb dX7_hundredthsOf_88 rfl (lv_at hl 3 rfl) ?_
            refine lv_aload_n hx hb dX7_hundredthsOf_89 rfl (lv_at hl 4 rfl) ?_
            refine lv_aload hx hb dX7_hundredthsOf_90 (lv_at hl 0 rfl) ?_
            refine cr_call (As := [.ref (ga g 8 k), .ref (ga g 5 i52)]) (rest := []) hC hI (qX7_barOf l D cy g S e0 hV k hk i52 hlt52) (cwV 2 hts gX7_hundredthsOf_X7_barOf rfl rfl rfl (by decide +kernel) ⟨Nat.le_of_ble_eq_true rfl, Nat.le_of_ble_eq_true rfl⟩) (cr_prev (ci := 8) hC hI 18 0 rfl rfl rfl) rfl hl.1 rfl (Nat.le_of_ble_eq_true rfl) dX7_hundredthsOf_92 ⟨Nat.zero_le _, Nat.zero_le _⟩ (fun H locs hI => ?_)
            refine lv_if_ne (tgt := 102) hx hb dX7_hundredthsOf_95 (by decide) (fun c_6 => ?_) (fun c_6 => ?_)
            · have hG := hG.trans (if_neg c_6)
              refine lv_iinc (v := (nI (i52 + 1))) (lv' := [(3, .int (nI (i52 + 1))), (4, .ref (ga g 5 i52)), (2, .int (25 + ((S 38 k) / 2))), (0, .ref (ga g 18 0)), (1, .ref (ga g 8 k))]) hx hb dX7_hundredthsOf_102 hl (k := 1) rfl (nI_1 i52) (by decide) rfl (fun ls hl => ?_)
              refine lv_goto (tgt := 52) hx hb dX7_hundredthsOf_105 (by decide) ?_
              exact ih52 () _ _ ls hlt52 ⟨hG, hI, lv_sub hl [0, 2, 3, 4] rfl⟩
            · have hG := hG.trans (if_pos c_6)
              refine lv_iload_n hx hb dX7_hundredthsOf_98 rfl (lv_at hl 2 rfl) ?_
              refine lv_iconst (v := 2) hx hb dX7_hundredthsOf_99 (by decide) ?_
              refine lv_idiv hx hb dX7_hundredthsOf_100 (by decide) ?_
              exact W.iret (v := ((25 + ((S 38 k) / 2)) / 2)) hx hb hr (fun t9 ht9 hW9 => ⟨⟨((25 + ((S 38 k) / 2)) / 2), (), rfl, hG.symm, trivial⟩, hI.2.F ht9⟩) hI.2.2.2 dX7_hundredthsOf_101
      · have hG := hG.trans (if_pos c_3)
        refine lv_bipush (v := 15) hx hb dX7_hundredthsOf_30 (by decide) ?_
        refine lv_aload_n hx hb dX7_hundredthsOf_32 rfl (lv_at hl 1 rfl) ?_
        refine cr_get (ci := 6) hC hI 8 k (hT.v8 hk) rfl rfl hinX5 11 (by decide) k_207 (fun _ h => h) (v := .int (S 38 k)) rfl dX7_hundredthsOf_33 ?_
        refine lv_iadd hx hb dX7_hundredthsOf_36 ?_
        refine lv_goto (tgt := 49) hx hb dX7_hundredthsOf_37 (by decide) ?_
        refine lv_istore_n (lv' := [(2, .int (15 + (S 38 k))), (0, .ref (ga g 18 0)), (1, .ref (ga g 8 k))]) hx hb dX7_hundredthsOf_49 rfl hl (by decide) rfl (fun ls hl => ?_)
        refine lv_iconst (v := 0) hx hb dX7_hundredthsOf_50 (by decide) ?_
        refine lv_istore_n (lv' := [(3, .int 0), (2, .int (15 + (S 38 k))), (0, .ref (ga g 18 0)), (1, .ref (ga g 8 k))]) hx hb dX7_hundredthsOf_51 rfl hl (by decide) rfl (fun ls hl => ?_)
        refine w_loop (σ := Unit) (nsc S) 52 (fun i52 z H locs ls => fX7_hundredthsOf S k = rX7_hundredthsOf_52_v2 S k ((nsc S) - i52) i52 ∧ CI (fun _ => False) D cy g s S H locs ∧ lv_has ls 5 [(3, .int (nI i52)), (2, .int (15 + (S 38 k))), (0, .ref (ga g 18 0)), (1, .ref (ga g 8 k))]) ?_ () ⟨hG, hI, lv_sub hl [0, 1, 2, 3] rfl⟩
        intro i52 z H locs ls ⟨hG, hI, hl⟩ hi52 ih52
        refine lv_iload_n hx hb dX7_hundredthsOf_52 rfl (lv_at hl 0 rfl) ?_
        refine lv_aload_n hx hb dX7_hundredthsOf_53 rfl (lv_at hl 2 rfl) ?_
        refine cr_get (ci := 8) hC hI 18 0 rfl rfl rfl hinX7 3 (by decide) k_28 (fun _ h => h) (v := .ref (ga g 12 0)) rfl dX7_hundredthsOf_54 ?_
        refine cr_size (rest := [.int (nI i52)]) hC hI 12 0 (show 0 < 4 by decide) rfl (cwV 0 hts gX7_hundredthsOf_Jx4a65c_size_8abf5 rfl rfl rfl (by decide +kernel) ⟨Nat.le_of_ble_eq_true rfl, Nat.le_of_ble_eq_true rfl⟩) (qAL_size0 l D cy (ga g 12 0) (ga g 13 0) (gm g 12 0) _) hl.1 (Nat.le_of_ble_eq_true rfl) dX7_hundredthsOf_57 ⟨Nat.zero_le _, Nat.zero_le _⟩ (w := (S 7 0)) rfl (fun H locs hI => ?_)
        refine lv_icmp_ge (tgt := 108) hx hb dX7_hundredthsOf_60 (by decide) (fun c_7 => ?_) (fun c_7 => ?_)
        · have hxN : i52 = nsc S := w_exit hN.n7 hi52 (by have := hN.b7; omega) c_7
          rw [show (nsc S) - i52 = 0 by omega] at hG
          have hG := hG.trans (rX7_hundredthsOf_52_v2_0 S k i52)
          refine lv_iload_n hx hb dX7_hundredthsOf_108 rfl (lv_at hl 1 rfl) ?_
          exact W.iret (v := (15 + (S 38 k))) hx hb hr (fun t9 ht9 hW9 => ⟨⟨(15 + (S 38 k)), (), rfl, hG.symm, trivial⟩, hI.2.F ht9⟩) hI.2.2.2 dX7_hundredthsOf_109
        · have hlt52 : i52 < nsc S := w_in hN.n7 hi52 (by have := hN.b7; omega) c_7
          rw [show (nsc S) - i52 = ((nsc S) - (i52 + 1)) + 1 by omega] at hG
          have hG := hG.trans (rX7_hundredthsOf_52_v2_s S k i52 ((nsc S) - (i52 + 1)))
          refine lv_aload_n hx hb dX7_hundredthsOf_63 rfl (lv_at hl 2 rfl) ?_
          refine cr_get (ci := 8) hC hI 18 0 rfl rfl rfl hinX7 3 (by decide) k_28 (fun _ h => h) (v := .ref (ga g 12 0)) rfl dX7_hundredthsOf_64 ?_
          refine lv_iload_n hx hb dX7_hundredthsOf_67 rfl (lv_at hl 0 rfl) ?_
          refine cr_get12 (rest := []) hC hI hV 0 (by decide) rfl (n := i52) (hT.v5 hlt52) (cwV 1 hts gX7_hundredthsOf_Jx4a65c_get_915e3 rfl rfl rfl (by decide +kernel) ⟨Nat.le_of_ble_eq_true rfl, Nat.le_of_ble_eq_true rfl⟩) hl.1 (Nat.le_of_ble_eq_true rfl) dX7_hundredthsOf_68 ⟨Nat.zero_le _, Nat.zero_le _⟩ (fun H locs hI => ?_)
          refine cr_cast (ci := 5) hC hI 5 i52 (hT.v5 hlt52) rfl rfl (hts (.classLink RX7 94 "RelatorsBench$Scheme") (List.mem_cons_of_mem _ (List.mem_append_left _ (List.mem_append_left _ (List.mem_append_left _ (List.mem_append_left _ (List.mem_append_left _ (List.mem_append_left _ (List.mem_of_getElem? (i := 4) rfl))))))))) dX7_hundredthsOf_71 ?_
          refine lv_astore (lv' := [(4, .ref (ga g 5 i52)), (3, .int (nI i52)), (2, .int (15 + (S 38 k))), (0, .ref (ga g 18 0)), (1, .ref (ga g 8 k))]) hx hb dX7_hundredthsOf_74 hl (by decide) rfl (fun ls hl => ?_)
          refine lv_aload hx hb dX7_hundredthsOf_76 (lv_at hl 0 rfl) ?_
          refine lv_aload_n hx hb dX7_hundredthsOf_78 rfl (lv_at hl 4 rfl) ?_
          refine cr_get (ci := 6) hC hI 8 k (hT.v8 hk) rfl rfl hinX5 1 (by decide) k_179 (fun _ h => h) (v := .int (S 29 k)) rfl dX7_hundredthsOf_79 ?_
          refine cr_call (As := [.int (S 29 k)]) (rest := []) hC hI (qX4_isPlannedBy l D cy g S e0 hV i52 hlt52 (S 29 k)) (cwV 1 hts gX7_hundredthsOf_X4_isPlannedBy rfl rfl rfl (by decide +kernel) ⟨Nat.le_of_ble_eq_true rfl, Nat.le_of_ble_eq_true rfl⟩) (cr_prev (ci := 5) hC hI 5 i52 (hT.v5 hlt52) rfl rfl) rfl hl.1 rfl (Nat.le_of_ble_eq_true rfl) dX7_hundredthsOf_82 ⟨Nat.zero_le _, Nat.zero_le _⟩ (fun H locs hI => ?_)
          refine lv_if_eq (tgt := 102) hx hb dX7_hundredthsOf_85 (by decide) (fun c_8 => ?_) (fun c_8 => ?_)
          · have hG := hG.trans (if_pos c_8)
            refine lv_iinc (v := (nI (i52 + 1))) (lv' := [(3, .int (nI (i52 + 1))), (4, .ref (ga g 5 i52)), (2, .int (15 + (S 38 k))), (0, .ref (ga g 18 0)), (1, .ref (ga g 8 k))]) hx hb dX7_hundredthsOf_102 hl (k := 1) rfl (nI_1 i52) (by decide) rfl (fun ls hl => ?_)
            refine lv_goto (tgt := 52) hx hb dX7_hundredthsOf_105 (by decide) ?_
            exact ih52 () _ _ ls hlt52 ⟨hG, hI, lv_sub hl [0, 2, 3, 4] rfl⟩
          · have hG := hG.trans (if_neg c_8)
            refine lv_aload_n hx hb dX7_hundredthsOf_88 rfl (lv_at hl 3 rfl) ?_
            refine lv_aload_n hx hb dX7_hundredthsOf_89 rfl (lv_at hl 4 rfl) ?_
            refine lv_aload hx hb dX7_hundredthsOf_90 (lv_at hl 0 rfl) ?_
            refine cr_call (As := [.ref (ga g 8 k), .ref (ga g 5 i52)]) (rest := []) hC hI (qX7_barOf l D cy g S e0 hV k hk i52 hlt52) (cwV 2 hts gX7_hundredthsOf_X7_barOf rfl rfl rfl (by decide +kernel) ⟨Nat.le_of_ble_eq_true rfl, Nat.le_of_ble_eq_true rfl⟩) (cr_prev (ci := 8) hC hI 18 0 rfl rfl rfl) rfl hl.1 rfl (Nat.le_of_ble_eq_true rfl) dX7_hundredthsOf_92 ⟨Nat.zero_le _, Nat.zero_le _⟩ (fun H locs hI => ?_)
            refine lv_if_ne (tgt := 102) hx hb dX7_hundredthsOf_95 (by decide) (fun c_9 => ?_) (fun c_9 => ?_)
            · have hG := hG.trans (if_neg c_9)
              refine lv_iinc (v := (nI (i52 + 1))) (lv' := [(3, .int (nI (i52 + 1))), (4, .ref (ga g 5 i52)), (2, .int (15 + (S 38 k))), (0, .ref (ga g 18 0)), (1, .ref (ga g 8 k))]) hx hb dX7_hundredthsOf_102 hl (k := 1) rfl (nI_1 i52) (by decide) rfl (fun ls hl => ?_)
              refine lv_goto (tgt := 52) hx hb dX7_hundredthsOf_105 (by decide) ?_
              exact ih52 () _ _ ls hlt52 ⟨hG, hI, lv_sub hl [0, 2, 3, 4] rfl⟩
            · have hG := hG.trans (if_pos c_9)
              refine lv_iload_n hx hb dX7_hundredthsOf_98 rfl (lv_at hl 2 rfl) ?_
              refine lv_iconst (v := 2) hx hb dX7_hundredthsOf_99 (by decide) ?_
              refine lv_idiv hx hb dX7_hundredthsOf_100 (by decide) ?_
              exact W.iret (v := ((15 + (S 38 k)) / 2)) hx hb hr (fun t9 ht9 hW9 => ⟨⟨((15 + (S 38 k)) / 2), (), rfl, hG.symm, trivial⟩, hI.2.F ht9⟩) hI.2.2.2 dX7_hundredthsOf_101
    · have hG := hG.trans (if_pos c_2)
      refine lv_iconst (v := 0) hx hb dX7_hundredthsOf_20 (by decide) ?_
      exact W.iret (v := 0) hx hb hr (fun t9 ht9 hW9 => ⟨⟨0, (), rfl, hG.symm, trivial⟩, hI.2.F ht9⟩) hI.2.2.2 dX7_hundredthsOf_21
  · have hG := hG.trans (if_pos c_1)
    refine lv_aload_n hx hb dX7_hundredthsOf_8 rfl (lv_at hl 1 rfl) ?_
    refine cr_get (ci := 6) hC hI 8 k (hT.v8 hk) rfl rfl hinX5 14 (by decide) k_359 (fun _ h => h) (v := .int (S 41 k)) rfl dX7_hundredthsOf_9 ?_
    exact W.iret (v := (S 41 k)) hx hb hr (fun t9 ht9 hW9 => ⟨⟨S 41 k, (), rfl, hG.symm, trivial⟩, hI.2.F ht9⟩) hI.2.2.2 dX7_hundredthsOf_12
set_option maxHeartbeats 4000000 in
set_option maxRecDepth 100000 in
theorem qX7_hundredthsFrom (l : Launch) (sum : Int32) (hundredths : Int32) : SPure l yX7_hundredthsFrom wsX7_hundredthsFrom ({ frames := 0, cells := 0, slots := 0, locals := 0 } : Room) [.int sum, .int hundredths] (fX7_hundredthsFrom sum hundredths) := by
  refine Met.ofW (cc := cX7_hundredthsFrom) (maxL := 2) (ret := (some .int)) (by decide) rfl ?_
  intro p e s m args below meth c s₁ B hml hv
  obtain ⟨rfl, -⟩ := hv
  have hx := B.exec
  have hb := B.bytes
  have hr := B.returns
  have hts := atoms_spec (ws := wsX7_hundredthsFrom) B.pre
  have hown : s.vm.findClass RX7 = some m.cls := findClass_of_methodNamed B.named
  have hlocks := B.notSynchronized
  have hI : va_S (fun _ => False) s.heap s.heap [] := va_S.rf
  have k_382 := hts (.constantLong RX7 382 (100)) (List.mem_cons_of_mem _ (List.mem_of_getElem? (i := 0) rfl))
  have hl := lv_entry ([.int sum, .int hundredths]) (n := 2) (Nat.le_of_ble_eq_true rfl)
  rw [lg_entry_eq]
  generalize (lg_sl ([.int sum, .int hundredths]) ++ List.replicate (2 - (lg_sl ([.int sum, .int hundredths])).length) Slot.unset).toArray = ls at hl ⊢
  have hl : lv_has ls 2 [(0, .int sum), (1, .int hundredths)] := hl
  have hG : fX7_hundredthsFrom sum hundredths = fX7_hundredthsFrom sum hundredths := rfl
  refine lv_iload_n hx hb dX7_hundredthsFrom_0 rfl (lv_at hl 0 rfl) ?_
  refine lv_i2l hx hb dX7_hundredthsFrom_1 rfl ?_
  refine lv_iload_n hx hb dX7_hundredthsFrom_2 rfl (lv_at hl 1 rfl) ?_
  refine lv_i2l hx hb dX7_hundredthsFrom_3 rfl ?_
  refine lv_lmul hx hb dX7_hundredthsFrom_4 ?_
  refine lv_ldc2 hx hb hown k_382 dX7_hundredthsFrom_5 ?_
  refine lv_ldiv hx hb dX7_hundredthsFrom_8 (by decide) ?_
  refine lv_l2i hx hb dX7_hundredthsFrom_9 rfl ?_
  exact W.iret (v := ((((sum.toInt64) * (hundredths.toInt64)) / (100 : Int64)).toInt32)) hx hb hr (fun t9 ht9 hW9 => ⟨⟨(((sum.toInt64) * (hundredths.toInt64)) / (100 : Int64)).toInt32, (), rfl, hG.symm, trivial⟩, hI.F ht9⟩) hI.2.2 dX7_hundredthsFrom_10
set_option maxHeartbeats 4000000 in
set_option maxRecDepth 100000 in
theorem qX7_dayOfKnowing (l : Launch) (D : va_G) (cy : Nat → ClassId) (g : CWt) (S : St) (e0 : Nat) (hV : CV e0 g S) (f : Int32) (t : Int32) (hf : okI f 6) (ht : okI t 8) : CPure l D cy g S yX7_dayOfKnowing wsX7_dayOfKnowing ({ frames := 3, cells := 0, slots := 0, locals := 64 } : Room) [.ref (ga g 18 0), .int f, .int t] (fX7_dayOfKnowing S f t) := by
  refine Met.ofW (cc := cX7_dayOfKnowing) (maxL := 7) (ret := (some .int)) (by decide) rfl ?_
  intro p e s m args below meth c s₁ B hml hv
  obtain ⟨rfl, hM, hK⟩ := hv
  have hx := B.exec
  have hb := B.bytes
  have hr := B.returns
  have hts := atoms_spec (ws := wsX7_dayOfKnowing) B.pre
  have hown : s.vm.findClass RX7 = some m.cls := findClass_of_methodNamed B.named
  have hlocks := B.notSynchronized
  have hC : CC p s m _ c cX7_dayOfKnowing 7 RX7 D cy wsX7_dayOfKnowing := ⟨⟨hx, hb, hml, hown, hts⟩, hK⟩
  have hI : CI (fun _ => False) D cy g s S s.heap [] := ⟨hM, va_S.rf⟩
  have hT := hV.2.1
  have hN := hV.2.2.1
  have hQ := hV.2.2.2
  have hb7 := hN.b7
  have hb15 := hN.b15
  have hb23 := hN.b23
  have hb28 := hN.b28
  have hb42 := hN.b42
  have hb64 := hQ.b64
  have k_236 := hts (.fieldLink RX7 236 "RelatorsBench$Firm" "toldOn" "[I") (List.mem_cons_of_mem _ (List.mem_append_left _ (List.mem_append_left _ (List.mem_append_left _ (List.mem_append_left _ (List.mem_append_left _ (List.mem_append_left _ (List.mem_of_getElem? (i := 0) rfl))))))))
  have hinX2 : ∀ w ∈ wsX20, w ∈ wsX7_dayOfKnowing := fun _ h => List.mem_cons_of_mem _ (List.mem_append_left _ (List.mem_append_left _ (List.mem_append_left _ (List.mem_append_left _ (List.mem_append_right _ (h))))))
  have k_38 := hts (.fieldLink RX7 38 "RelatorsBench" "suits" "Ljava/util/ArrayList;") (List.mem_cons_of_mem _ (List.mem_append_left _ (List.mem_append_left _ (List.mem_append_left _ (List.mem_append_left _ (List.mem_append_left _ (List.mem_append_left _ (List.mem_of_getElem? (i := 1) rfl))))))))
  have hinX7 : ∀ w ∈ wsX70, w ∈ wsX7_dayOfKnowing := fun _ h => List.mem_cons_of_mem _ (List.mem_append_left _ (List.mem_append_left _ (List.mem_append_left _ (List.mem_append_right _ (h)))))
  have k_179 := hts (.fieldLink RX7 179 "RelatorsBench$Suit" "teller" "I") (List.mem_cons_of_mem _ (List.mem_append_left _ (List.mem_append_left _ (List.mem_append_left _ (List.mem_append_left _ (List.mem_append_left _ (List.mem_append_left _ (List.mem_of_getElem? (i := 3) rfl))))))))
  have hinX5 : ∀ w ∈ wsX50, w ∈ wsX7_dayOfKnowing := fun _ h => List.mem_cons_of_mem _ (List.mem_append_left _ (List.mem_append_left _ (List.mem_append_right _ (h))))
  have k_217 := hts (.fieldLink RX7 217 "RelatorsBench$Suit" "firm" "I") (List.mem_cons_of_mem _ (List.mem_append_left _ (List.mem_append_left _ (List.mem_append_left _ (List.mem_append_left _ (List.mem_append_left _ (List.mem_append_left _ (List.mem_of_getElem? (i := 4) rfl))))))))
  have k_192 := hts (.fieldLink RX7 192 "RelatorsBench$Suit" "unsealedFrom" "I") (List.mem_cons_of_mem _ (List.mem_append_left _ (List.mem_append_left _ (List.mem_append_left _ (List.mem_append_left _ (List.mem_append_left _ (List.mem_append_left _ (List.mem_of_getElem? (i := 5) rfl))))))))
  have hl := lv_entry ([.ref (ga g 18 0), .int f, .int t]) (n := 7) (Nat.le_of_ble_eq_true rfl)
  rw [lg_entry_eq]
  generalize (lg_sl ([.ref (ga g 18 0), .int f, .int t]) ++ List.replicate (7 - (lg_sl ([.ref (ga g 18 0), .int f, .int t])).length) Slot.unset).toArray = ls at hl ⊢
  have hl : lv_has ls 7 [(0, .ref (ga g 18 0)), (1, .int f), (2, .int t)] := hl
  have hG : fX7_dayOfKnowing S f t = fX7_dayOfKnowing S f t := rfl
  refine lv_aload_n hx hb dX7_dayOfKnowing_0 rfl (lv_at hl 0 rfl) ?_
  refine lv_iload_n hx hb dX7_dayOfKnowing_1 rfl (lv_at hl 1 rfl) ?_
  refine cr_callR (As := [.int f]) (rest := []) hC hI (qX7_firmAt l D cy g S e0 hV f hf) (cwV 1 hts gX7_dayOfKnowing_X7_firmAt rfl rfl rfl (by decide +kernel) ⟨Nat.le_of_ble_eq_true rfl, Nat.le_of_ble_eq_true rfl⟩) (cr_prev (ci := 8) hC hI 18 0 rfl rfl rfl) rfl hl.1 rfl (Nat.le_of_ble_eq_true rfl) dX7_dayOfKnowing_2 ⟨Nat.zero_le _, Nat.zero_le _⟩ (fun H locs hI => ?_)
  refine cr_get (ci := 3) hC hI 0 (ix f) (okI_l (N := 6) hf (by decide) (by decide)) rfl rfl hinX2 4 (by decide) k_236 (fun _ h => h) (v := .ref (ga g 1 (ix f))) rfl dX7_dayOfKnowing_5 ?_
  refine lv_iload_n hx hb dX7_dayOfKnowing_8 rfl (lv_at hl 2 rfl) ?_
  refine cr_iald (N := 8) (f := (fun u9 => S 51 (8 * (ix f) + u9))) hC hI 1 (ix f) (okI_l (N := 6) hf (by decide) (by decide)) rfl (okI_in (N := 8) ht (by decide) (by decide)) (v := (S 51 (8 * (ix f) + (ix t)))) rfl dX7_dayOfKnowing_9 ?_
  refine lv_istore_n (lv' := [(3, .int (S 51 (8 * (ix f) + (ix t)))), (0, .ref (ga g 18 0)), (1, .int f), (2, .int t)]) hx hb dX7_dayOfKnowing_10 rfl hl (by decide) rfl (fun ls hl => ?_)
  refine lv_iconst (v := 0) hx hb dX7_dayOfKnowing_11 (by decide) ?_
  refine lv_istore (lv' := [(4, .int 0), (3, .int (S 51 (8 * (ix f) + (ix t)))), (0, .ref (ga g 18 0)), (1, .int f), (2, .int t)]) hx hb dX7_dayOfKnowing_12 hl (by decide) rfl (fun ls hl => ?_)
  refine w_loop (σ := Int32) (nsu S) 14 (fun i14 z H locs ls => z = lX7_dayOfKnowing_14 S f t i14 ∧ CI (fun _ => False) D cy g s S H locs ∧ lv_has ls 7 [(4, .int (nI i14)), (3, .int z), (0, .ref (ga g 18 0)), (1, .int f), (2, .int t)]) ?_ (S 51 (8 * (ix f) + (ix t))) ⟨rfl, hI, lv_sub hl [0, 1, 2, 3, 4] rfl⟩
  intro i14 z H locs ls ⟨hz14, hI, hl⟩ hi14 ih14
  obtain ⟨x14_3, rfl⟩ : ∃ x, x = z := ⟨_, rfl⟩
  refine lv_iload hx hb dX7_dayOfKnowing_14 (lv_at hl 0 rfl) ?_
  refine lv_aload_n hx hb dX7_dayOfKnowing_16 rfl (lv_at hl 2 rfl) ?_
  refine cr_get (ci := 8) hC hI 18 0 rfl rfl rfl hinX7 6 (by decide) k_38 (fun _ h => h) (v := .ref (ga g 12 3)) rfl dX7_dayOfKnowing_17 ?_
  refine cr_size (rest := [.int (nI i14)]) hC hI 12 3 (show 3 < 4 by decide) rfl (cwV 0 hts gX7_dayOfKnowing_Jx4a65c_size_8abf5 rfl rfl rfl (by decide +kernel) ⟨Nat.le_of_ble_eq_true rfl, Nat.le_of_ble_eq_true rfl⟩) (qAL_size0 l D cy (ga g 12 3) (ga g 13 3) (gm g 12 3) _) hl.1 (Nat.le_of_ble_eq_true rfl) dX7_dayOfKnowing_20 ⟨Nat.zero_le _, Nat.zero_le _⟩ (w := (S 28 0)) rfl (fun H locs hI => ?_)
  refine lv_icmp_ge (tgt := 96) hx hb dX7_dayOfKnowing_23 (by decide) (fun c_1 => ?_) (fun c_1 => ?_)
  · obtain rfl : i14 = nsu S := w_exit hN.n28 hi14 (by have := hN.b28; omega) c_1
    obtain rfl : x14_3 = (lX7_dayOfKnowing_14 S f t (nsu S)) := by rw [← hz14]
    refine lv_iload_n hx hb dX7_dayOfKnowing_96 rfl (lv_at hl 1 rfl) ?_
    exact W.iret (v := (lX7_dayOfKnowing_14 S f t (nsu S))) hx hb hr (fun t9 ht9 hW9 => ⟨⟨(lX7_dayOfKnowing_14 S f t (nsu S)), (), rfl, hG.symm, trivial⟩, hI.2.F ht9⟩) hI.2.2.2 dX7_dayOfKnowing_97
  · have hlt14 : i14 < nsu S := w_in hN.n28 hi14 (by have := hN.b28; omega) c_1
    have hB14 : iX7_dayOfKnowing_14 S f t i14 x14_3 = iX7_dayOfKnowing_14 S f t i14 x14_3 := rfl
    refine lv_aload_n hx hb dX7_dayOfKnowing_26 rfl (lv_at hl 2 rfl) ?_
    refine cr_get (ci := 8) hC hI 18 0 rfl rfl rfl hinX7 6 (by decide) k_38 (fun _ h => h) (v := .ref (ga g 12 3)) rfl dX7_dayOfKnowing_27 ?_
    refine lv_iload hx hb dX7_dayOfKnowing_30 (lv_at hl 0 rfl) ?_
    refine cr_get12 (rest := []) hC hI hV 3 (by decide) rfl (n := i14) (hT.v8 hlt14) (cwV 1 hts gX7_dayOfKnowing_Jx4a65c_get_915e3 rfl rfl rfl (by decide +kernel) ⟨Nat.le_of_ble_eq_true rfl, Nat.le_of_ble_eq_true rfl⟩) hl.1 (Nat.le_of_ble_eq_true rfl) dX7_dayOfKnowing_32 ⟨Nat.zero_le _, Nat.zero_le _⟩ (fun H locs hI => ?_)
    refine cr_cast (ci := 6) hC hI 8 i14 (hT.v8 hlt14) rfl rfl (hts (.classLink RX7 163 "RelatorsBench$Suit") (List.mem_cons_of_mem _ (List.mem_append_left _ (List.mem_append_left _ (List.mem_append_left _ (List.mem_append_left _ (List.mem_append_left _ (List.mem_append_left _ (List.mem_of_getElem? (i := 2) rfl))))))))) dX7_dayOfKnowing_35 ?_
    refine lv_astore (lv' := [(5, .ref (ga g 8 i14)), (4, .int (nI i14)), (3, .int x14_3), (0, .ref (ga g 18 0)), (1, .int f), (2, .int t)]) hx hb dX7_dayOfKnowing_38 hl (by decide) rfl (fun ls hl => ?_)
    refine lv_aload hx hb dX7_dayOfKnowing_40 (lv_at hl 0 rfl) ?_
    refine cr_get (ci := 6) hC hI 8 i14 (hT.v8 hlt14) rfl rfl hinX5 1 (by decide) k_179 (fun _ h => h) (v := .int (S 29 i14)) rfl dX7_dayOfKnowing_42 ?_
    refine lv_iload_n hx hb dX7_dayOfKnowing_45 rfl (lv_at hl 5 rfl) ?_
    refine lv_icmp_ne (tgt := 62) hx hb dX7_dayOfKnowing_46 (by decide) (fun c_2 => ?_) (fun c_2 => ?_)
    · have hB14 := hB14.trans (if_neg c_2)
      refine lv_iconst (v := 0) hx hb dX7_dayOfKnowing_62 (by decide) ?_
      refine lv_istore (lv' := [(6, .int 0), (5, .ref (ga g 8 i14)), (4, .int (nI i14)), (3, .int x14_3), (0, .ref (ga g 18 0)), (1, .int f), (2, .int t)]) hx hb dX7_dayOfKnowing_63 hl (by decide) rfl (fun ls hl => ?_)
      refine lv_iload hx hb dX7_dayOfKnowing_65 (lv_at hl 0 rfl) ?_
      refine lv_if_eq (tgt := 90) hx hb dX7_dayOfKnowing_67 (by decide) (fun _ => ?_) (fun c => absurd (by decide : (0 : Int32) = 0) c)
      refine lv_iinc (v := (nI (i14 + 1))) (lv' := [(4, .int (nI (i14 + 1))), (6, .int 0), (5, .ref (ga g 8 i14)), (3, .int x14_3), (0, .ref (ga g 18 0)), (1, .int f), (2, .int t)]) hx hb dX7_dayOfKnowing_90 hl (k := 2) rfl (nI_1 i14) (by decide) rfl (fun ls hl => ?_)
      refine lv_goto (tgt := 14) hx hb dX7_dayOfKnowing_93 (by decide) ?_
      exact ih14 x14_3 _ _ ls hlt14 ⟨(by show _ = iX7_dayOfKnowing_14 S f t i14 (lX7_dayOfKnowing_14 S f t i14); rw [← hz14]; exact hB14.symm), hI, lv_sub hl [0, 3, 4, 5, 6] rfl⟩
    · have hB14 := hB14.trans (if_pos c_2)
      refine lv_aload hx hb dX7_dayOfKnowing_49 (lv_at hl 0 rfl) ?_
      refine cr_get (ci := 6) hC hI 8 i14 (hT.v8 hlt14) rfl rfl hinX5 2 (by decide) k_217 (fun _ h => h) (v := .int (S 30 i14)) rfl dX7_dayOfKnowing_51 ?_
      refine lv_iload_n hx hb dX7_dayOfKnowing_54 rfl (lv_at hl 4 rfl) ?_
      refine lv_icmp_ne (tgt := 62) hx hb dX7_dayOfKnowing_55 (by decide) (fun c_3 => ?_) (fun c_3 => ?_)
      · have hB14 := hB14.trans (if_neg c_3)
        refine lv_iconst (v := 0) hx hb dX7_dayOfKnowing_62 (by decide) ?_
        refine lv_istore (lv' := [(6, .int 0), (5, .ref (ga g 8 i14)), (4, .int (nI i14)), (3, .int x14_3), (0, .ref (ga g 18 0)), (1, .int f), (2, .int t)]) hx hb dX7_dayOfKnowing_63 hl (by decide) rfl (fun ls hl => ?_)
        refine lv_iload hx hb dX7_dayOfKnowing_65 (lv_at hl 0 rfl) ?_
        refine lv_if_eq (tgt := 90) hx hb dX7_dayOfKnowing_67 (by decide) (fun _ => ?_) (fun c => absurd (by decide : (0 : Int32) = 0) c)
        refine lv_iinc (v := (nI (i14 + 1))) (lv' := [(4, .int (nI (i14 + 1))), (6, .int 0), (5, .ref (ga g 8 i14)), (3, .int x14_3), (0, .ref (ga g 18 0)), (1, .int f), (2, .int t)]) hx hb dX7_dayOfKnowing_90 hl (k := 2) rfl (nI_1 i14) (by decide) rfl (fun ls hl => ?_)
        refine lv_goto (tgt := 14) hx hb dX7_dayOfKnowing_93 (by decide) ?_
        exact ih14 x14_3 _ _ ls hlt14 ⟨(by show _ = iX7_dayOfKnowing_14 S f t i14 (lX7_dayOfKnowing_14 S f t i14); rw [← hz14]; exact hB14.symm), hI, lv_sub hl [0, 3, 4, 5, 6] rfl⟩
      · have hB14 := hB14.trans (if_pos c_3)
        refine lv_iconst (v := 1) hx hb dX7_dayOfKnowing_58 (by decide) ?_
        refine lv_goto (tgt := 63) hx hb dX7_dayOfKnowing_59 (by decide) ?_
        refine lv_istore (lv' := [(6, .int 1), (5, .ref (ga g 8 i14)), (4, .int (nI i14)), (3, .int x14_3), (0, .ref (ga g 18 0)), (1, .int f), (2, .int t)]) hx hb dX7_dayOfKnowing_63 hl (by decide) rfl (fun ls hl => ?_)
        refine lv_iload hx hb dX7_dayOfKnowing_65 (lv_at hl 0 rfl) ?_
        refine lv_if_eq (tgt := 90) hx hb dX7_dayOfKnowing_67 (by decide) (fun c => absurd c (by decide : ¬ (1 : Int32) = 0)) (fun _ => ?_)
        refine lv_iload_n hx hb dX7_dayOfKnowing_70 rfl (lv_at hl 3 rfl) ?_
        refine lv_iconst (v := (-1)) hx hb dX7_dayOfKnowing_71 (by decide) ?_
        refine lv_icmp_eq (tgt := 84) hx hb dX7_dayOfKnowing_72 (by decide) (fun c_4 => ?_) (fun c_4 => ?_)
        · have hB14 := hB14.trans (if_pos c_4)
          refine lv_aload hx hb dX7_dayOfKnowing_84 (lv_at hl 1 rfl) ?_
          refine cr_get (ci := 6) hC hI 8 i14 (hT.v8 hlt14) rfl rfl hinX5 10 (by decide) k_192 (fun _ h => h) (v := .int (S 36 i14)) rfl dX7_dayOfKnowing_86 ?_
          refine lv_istore_n (lv' := [(3, .int (S 36 i14)), (6, .int 1), (5, .ref (ga g 8 i14)), (4, .int (nI i14)), (0, .ref (ga g 18 0)), (1, .int f), (2, .int t)]) hx hb dX7_dayOfKnowing_89 rfl hl (by decide) rfl (fun ls hl => ?_)
          refine lv_iinc (v := (nI (i14 + 1))) (lv' := [(4, .int (nI (i14 + 1))), (3, .int (S 36 i14)), (6, .int 1), (5, .ref (ga g 8 i14)), (0, .ref (ga g 18 0)), (1, .int f), (2, .int t)]) hx hb dX7_dayOfKnowing_90 hl (k := 3) rfl (nI_1 i14) (by decide) rfl (fun ls hl => ?_)
          refine lv_goto (tgt := 14) hx hb dX7_dayOfKnowing_93 (by decide) ?_
          exact ih14 (S 36 i14) _ _ ls hlt14 ⟨(by show _ = iX7_dayOfKnowing_14 S f t i14 (lX7_dayOfKnowing_14 S f t i14); rw [← hz14]; exact hB14.symm), hI, lv_sub hl [0, 1, 4, 5, 6] rfl⟩
        · have hB14 := hB14.trans (if_neg c_4)
          refine lv_aload hx hb dX7_dayOfKnowing_75 (lv_at hl 1 rfl) ?_
          refine cr_get (ci := 6) hC hI 8 i14 (hT.v8 hlt14) rfl rfl hinX5 10 (by decide) k_192 (fun _ h => h) (v := .int (S 36 i14)) rfl dX7_dayOfKnowing_77 ?_
          refine lv_iload_n hx hb dX7_dayOfKnowing_80 rfl (lv_at hl 3 rfl) ?_
          refine lv_icmp_ge (tgt := 90) hx hb dX7_dayOfKnowing_81 (by decide) (fun c_5 => ?_) (fun c_5 => ?_)
          · have hB14 := hB14.trans (if_pos c_5)
            refine lv_iinc (v := (nI (i14 + 1))) (lv' := [(4, .int (nI (i14 + 1))), (6, .int 1), (5, .ref (ga g 8 i14)), (3, .int x14_3), (0, .ref (ga g 18 0)), (1, .int f), (2, .int t)]) hx hb dX7_dayOfKnowing_90 hl (k := 2) rfl (nI_1 i14) (by decide) rfl (fun ls hl => ?_)
            refine lv_goto (tgt := 14) hx hb dX7_dayOfKnowing_93 (by decide) ?_
            exact ih14 x14_3 _ _ ls hlt14 ⟨(by show _ = iX7_dayOfKnowing_14 S f t i14 (lX7_dayOfKnowing_14 S f t i14); rw [← hz14]; exact hB14.symm), hI, lv_sub hl [0, 3, 4, 5, 6] rfl⟩
          · have hB14 := hB14.trans (if_neg c_5)
            refine lv_aload hx hb dX7_dayOfKnowing_84 (lv_at hl 1 rfl) ?_
            refine cr_get (ci := 6) hC hI 8 i14 (hT.v8 hlt14) rfl rfl hinX5 10 (by decide) k_192 (fun _ h => h) (v := .int (S 36 i14)) rfl dX7_dayOfKnowing_86 ?_
            refine lv_istore_n (lv' := [(3, .int (S 36 i14)), (6, .int 1), (5, .ref (ga g 8 i14)), (4, .int (nI i14)), (0, .ref (ga g 18 0)), (1, .int f), (2, .int t)]) hx hb dX7_dayOfKnowing_89 rfl hl (by decide) rfl (fun ls hl => ?_)
            refine lv_iinc (v := (nI (i14 + 1))) (lv' := [(4, .int (nI (i14 + 1))), (3, .int (S 36 i14)), (6, .int 1), (5, .ref (ga g 8 i14)), (0, .ref (ga g 18 0)), (1, .int f), (2, .int t)]) hx hb dX7_dayOfKnowing_90 hl (k := 3) rfl (nI_1 i14) (by decide) rfl (fun ls hl => ?_)
            refine lv_goto (tgt := 14) hx hb dX7_dayOfKnowing_93 (by decide) ?_
            exact ih14 (S 36 i14) _ _ ls hlt14 ⟨(by show _ = iX7_dayOfKnowing_14 S f t i14 (lX7_dayOfKnowing_14 S f t i14); rw [← hz14]; exact hB14.symm), hI, lv_sub hl [0, 1, 4, 5, 6] rfl⟩
set_option maxHeartbeats 4000000 in
set_option maxRecDepth 100000 in
theorem qX7_wouldFireForTelling (l : Launch) (D : va_G) (cy : Nat → ClassId) (g : CWt) (S : St) (e0 : Nat) (hV : CV e0 g S) (f : Int32) (t : Int32) (hf : okI f 6) (ht : okI t 8) : CPure l D cy g S yX7_wouldFireForTelling wsX7_wouldFireForTelling ({ frames := 4, cells := 0, slots := 0, locals := 90 } : Room) [.ref (ga g 18 0), .int f, .int t] (fX7_wouldFireForTelling S f t) := by
  refine Met.ofW (cc := cX7_wouldFireForTelling) (maxL := 4) (ret := (some .boolean)) (by decide) rfl ?_
  intro p e s m args below meth c s₁ B hml hv
  obtain ⟨rfl, hM, hK⟩ := hv
  have hx := B.exec
  have hb := B.bytes
  have hr := B.returns
  have hts := atoms_spec (ws := wsX7_wouldFireForTelling) B.pre
  have hown : s.vm.findClass RX7 = some m.cls := findClass_of_methodNamed B.named
  have hlocks := B.notSynchronized
  have hC : CC p s m _ c cX7_wouldFireForTelling 4 RX7 D cy wsX7_wouldFireForTelling := ⟨⟨hx, hb, hml, hown, hts⟩, hK⟩
  have hI : CI (fun _ => False) D cy g s S s.heap [] := ⟨hM, va_S.rf⟩
  have hT := hV.2.1
  have hN := hV.2.2.1
  have hQ := hV.2.2.2
  have hb7 := hN.b7
  have hb15 := hN.b15
  have hb23 := hN.b23
  have hb28 := hN.b28
  have hb42 := hN.b42
  have hb64 := hQ.b64
  have k_51 := hts (.fieldLink RX7 51 "RelatorsBench" "today" "I") (List.mem_cons_of_mem _ (List.mem_append_left _ (List.mem_append_left _ (List.mem_append_left _ (List.mem_append_left _ (List.mem_append_left _ (List.mem_append_left _ (List.mem_of_getElem? (i := 0) rfl))))))))
  have hinX7 : ∀ w ∈ wsX70, w ∈ wsX7_wouldFireForTelling := fun _ h => List.mem_cons_of_mem _ (List.mem_append_left _ (List.mem_append_left _ (List.mem_append_left _ (List.mem_append_left _ (List.mem_append_right _ (h))))))
  have hl := lv_entry ([.ref (ga g 18 0), .int f, .int t]) (n := 4) (Nat.le_of_ble_eq_true rfl)
  rw [lg_entry_eq]
  generalize (lg_sl ([.ref (ga g 18 0), .int f, .int t]) ++ List.replicate (4 - (lg_sl ([.ref (ga g 18 0), .int f, .int t])).length) Slot.unset).toArray = ls at hl ⊢
  have hl : lv_has ls 4 [(0, .ref (ga g 18 0)), (1, .int f), (2, .int t)] := hl
  have hG : fX7_wouldFireForTelling S f t = fX7_wouldFireForTelling S f t := rfl
  refine lv_aload_n hx hb dX7_wouldFireForTelling_0 rfl (lv_at hl 0 rfl) ?_
  refine lv_iload_n hx hb dX7_wouldFireForTelling_1 rfl (lv_at hl 1 rfl) ?_
  refine lv_iload_n hx hb dX7_wouldFireForTelling_2 rfl (lv_at hl 2 rfl) ?_
  refine cr_call (As := [.int f, .int t]) (rest := []) hC hI (qX7_dayOfKnowing l D cy g S e0 hV f t hf ht) (cwV 2 hts gX7_wouldFireForTelling_X7_dayOfKnowing rfl rfl rfl (by decide +kernel) ⟨Nat.le_of_ble_eq_true rfl, Nat.le_of_ble_eq_true rfl⟩) (cr_prev (ci := 8) hC hI 18 0 rfl rfl rfl) rfl hl.1 rfl (Nat.le_of_ble_eq_true rfl) dX7_wouldFireForTelling_3 ⟨Nat.zero_le _, Nat.zero_le _⟩ (fun H locs hI => ?_)
  refine lv_istore_n (lv' := [(3, .int (fX7_dayOfKnowing S f t)), (0, .ref (ga g 18 0)), (1, .int f), (2, .int t)]) hx hb dX7_wouldFireForTelling_6 rfl hl (by decide) rfl (fun ls hl => ?_)
  refine lv_iload_n hx hb dX7_wouldFireForTelling_7 rfl (lv_at hl 0 rfl) ?_
  refine lv_iconst (v := (-1)) hx hb dX7_wouldFireForTelling_8 (by decide) ?_
  refine lv_icmp_eq (tgt := 35) hx hb dX7_wouldFireForTelling_9 (by decide) (fun c_1 => ?_) (fun c_1 => ?_)
  · have hG := hG.trans (if_pos c_1)
    refine lv_iconst (v := 0) hx hb dX7_wouldFireForTelling_35 (by decide) ?_
    exact W.zret (v := 0) (ty := .boolean) hx hb hr rfl (fun t9 ht9 hW9 => ⟨⟨0, (), rfl, hG.symm, trivial⟩, hI.2.F ht9⟩) hI.2.2.2 dX7_wouldFireForTelling_36
  · have hG := hG.trans (if_neg c_1)
    refine lv_iload_n hx hb dX7_wouldFireForTelling_12 rfl (lv_at hl 0 rfl) ?_
    refine lv_aload_n hx hb dX7_wouldFireForTelling_13 rfl (lv_at hl 1 rfl) ?_
    refine cr_get (ci := 8) hC hI 18 0 rfl rfl rfl hinX7 10 (by decide) k_51 (fun _ h => h) (v := .int (S 1 0)) rfl dX7_wouldFireForTelling_14 ?_
    refine lv_icmp_gt (tgt := 35) hx hb dX7_wouldFireForTelling_17 (by decide) (fun c_2 => ?_) (fun c_2 => ?_)
    · have hG := hG.trans (if_pos c_2)
      refine lv_iconst (v := 0) hx hb dX7_wouldFireForTelling_35 (by decide) ?_
      exact W.zret (v := 0) (ty := .boolean) hx hb hr rfl (fun t9 ht9 hW9 => ⟨⟨0, (), rfl, hG.symm, trivial⟩, hI.2.F ht9⟩) hI.2.2.2 dX7_wouldFireForTelling_36
    · have hG := hG.trans (if_neg c_2)
      refine lv_aload_n hx hb dX7_wouldFireForTelling_20 rfl (lv_at hl 1 rfl) ?_
      refine cr_get (ci := 8) hC hI 18 0 rfl rfl rfl hinX7 10 (by decide) k_51 (fun _ h => h) (v := .int (S 1 0)) rfl dX7_wouldFireForTelling_21 ?_
      refine lv_iload_n hx hb dX7_wouldFireForTelling_24 rfl (lv_at hl 0 rfl) ?_
      refine lv_isub hx hb dX7_wouldFireForTelling_25 ?_
      refine lv_bipush (v := 90) hx hb dX7_wouldFireForTelling_26 (by decide) ?_
      refine lv_icmp_gt (tgt := 35) hx hb dX7_wouldFireForTelling_28 (by decide) (fun c_3 => ?_) (fun c_3 => ?_)
      · have hG := hG.trans (if_pos c_3)
        refine lv_iconst (v := 0) hx hb dX7_wouldFireForTelling_35 (by decide) ?_
        exact W.zret (v := 0) (ty := .boolean) hx hb hr rfl (fun t9 ht9 hW9 => ⟨⟨0, (), rfl, hG.symm, trivial⟩, hI.2.F ht9⟩) hI.2.2.2 dX7_wouldFireForTelling_36
      · have hG := hG.trans (if_neg c_3)
        refine lv_iconst (v := 1) hx hb dX7_wouldFireForTelling_31 (by decide) ?_
        refine lv_goto (tgt := 36) hx hb dX7_wouldFireForTelling_32 (by decide) ?_
        exact W.zret (v := 1) (ty := .boolean) hx hb hr rfl (fun t9 ht9 hW9 => ⟨⟨1, (), rfl, hG.symm, trivial⟩, hI.2.F ht9⟩) hI.2.2.2 dX7_wouldFireForTelling_36
