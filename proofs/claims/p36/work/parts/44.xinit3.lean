set_option maxHeartbeats 4000000 in
set_option maxRecDepth 100000 in
theorem qX7_init (l : Launch) (D : va_G) (cy : Nat → ClassId) (e0 mi q sz : Nat) : Met l yX7_init wsX7_init ({ frames := 4, cells := 40, slots := 336, locals := 72 } : Room) (va_Pc [.ref q] (fun U => U.heap.size = sz ∧ at1 D q (.inr (8, [.null, .null, .null, .null, .null, .null, .null, .null, .int 0, .int 0, .int 0, .int 0])) U.heap ∧ JX (fun z => z = q ∨ sz ≤ z) D cy e0 mi U U.heap ∧ JO U ∧ JF U ∧ va_Nw (.methodLinkNest RX7 58 yX6_init RX7) U)) (va_Qv (fun u : CWt => CL (fun z => z = q ∨ sz ≤ z) u ∧ CG e0 u ∧ CT u S0 ∧ ga u 18 0 = q) (fun u t => CH D cy u S0 t.heap) (fun z => z = q ∨ sz ≤ z)) 40 336 (fun z => z = q ∨ sz ≤ z) := by
  refine Met.ofW (cc := cX7_init) (maxL := 2) (ret := none) (by decide) rfl ?_
  intro p e s m args below meth c s₁ B hml hv
  obtain ⟨rfl, hsz, hO, hJ, hW, hF, hNst⟩ := hv
  have hK := hJ.1
  have hx := B.exec
  have hb := B.bytes
  have hr := B.returns
  have hts := atoms_spec (ws := wsX7_init) B.pre
  have hown : s.vm.findClass RX7 = some m.cls := findClass_of_methodNamed B.named
  have hlocks := B.notSynchronized
  have hini : meth.name = "<init>" := (name_of_methodNamed B.named B.method).1
  have hC : CC p s m _ c cX7_init 2 RX7 D cy wsX7_init := ⟨⟨hx, hb, hml, hown, hts⟩, hK⟩
  have hS : va_S (fun z => z = q ∨ sz ≤ z) s.heap s.heap [] := va_S.rf
  have ko1 := hts (.methodLink RX7 1 objectInit) (List.mem_cons_of_mem _ (List.mem_append_left _ (List.mem_append_left _ (List.mem_append_left _ (List.mem_append_left _ (List.mem_append_left _ (List.mem_of_getElem? (i := 0) rfl)))))))
  have ko2 := hts (.instanceMethod objectInit) (List.mem_cons_of_mem _ (List.mem_append_left _ (List.mem_append_left _ (List.mem_append_left _ (List.mem_append_left _ (List.mem_append_left _ (List.mem_of_getElem? (i := 1) rfl)))))))
  have ko3 := hts (.code objectInit ⟨#[0xb1]⟩ 1 none) (List.mem_cons_of_mem _ (List.mem_append_left _ (List.mem_append_left _ (List.mem_append_left _ (List.mem_append_left _ (List.mem_append_left _ (List.mem_of_getElem? (i := 2) rfl)))))))
  have k_11 := hts (.fieldLink RX7 11 "RelatorsBench" "firms" "[LRelatorsBench$Firm;") (List.mem_cons_of_mem _ (List.mem_append_left _ (List.mem_append_left _ (List.mem_append_left _ (List.mem_append_left _ (List.mem_append_left _ (List.mem_of_getElem? (i := 4) rfl)))))))
  have hinX7 : ∀ w ∈ wsX70, w ∈ wsX7_init := fun _ h => List.mem_cons_of_mem _ (List.mem_append_left _ (List.mem_append_left _ (List.mem_append_left _ (List.mem_append_right _ (h)))))
  have k_17 := hts (.fieldLink RX7 17 "RelatorsBench" "tellers" "[LRelatorsBench$Teller;") (List.mem_cons_of_mem _ (List.mem_append_left _ (List.mem_append_left _ (List.mem_append_left _ (List.mem_append_left _ (List.mem_append_left _ (List.mem_of_getElem? (i := 6) rfl)))))))
  have harr := hts (.arrayClass .int) (List.mem_cons_of_mem _ (List.mem_append_left _ (List.mem_append_left _ (List.mem_append_left _ (List.mem_append_left _ (List.mem_append_left _ (List.mem_of_getElem? (i := 7) rfl)))))))
  have k_21 := hts (.fieldLink RX7 21 "RelatorsBench" "publicFrom" "[I") (List.mem_cons_of_mem _ (List.mem_append_left _ (List.mem_append_left _ (List.mem_append_left _ (List.mem_append_left _ (List.mem_append_left _ (List.mem_of_getElem? (i := 8) rfl)))))))
  have hinJx4a65c : ∀ w ∈ wsJx4a65c0, w ∈ wsX7_init := fun _ h => List.mem_cons_of_mem _ (List.mem_append_left _ (List.mem_append_left _ (List.mem_append_right _ (h))))
  have k_28 := hts (.fieldLink RX7 28 "RelatorsBench" "schemes" "Ljava/util/ArrayList;") (List.mem_cons_of_mem _ (List.mem_append_left _ (List.mem_append_left _ (List.mem_append_left _ (List.mem_append_left _ (List.mem_append_left _ (List.mem_of_getElem? (i := 12) rfl)))))))
  have k_32 := hts (.fieldLink RX7 32 "RelatorsBench" "claims" "Ljava/util/ArrayList;") (List.mem_cons_of_mem _ (List.mem_append_left _ (List.mem_append_left _ (List.mem_append_left _ (List.mem_append_left _ (List.mem_append_left _ (List.mem_of_getElem? (i := 13) rfl)))))))
  have k_35 := hts (.fieldLink RX7 35 "RelatorsBench" "deals" "Ljava/util/ArrayList;") (List.mem_cons_of_mem _ (List.mem_append_left _ (List.mem_append_left _ (List.mem_append_left _ (List.mem_append_left _ (List.mem_append_left _ (List.mem_of_getElem? (i := 14) rfl)))))))
  have k_38 := hts (.fieldLink RX7 38 "RelatorsBench" "suits" "Ljava/util/ArrayList;") (List.mem_cons_of_mem _ (List.mem_append_left _ (List.mem_append_left _ (List.mem_append_left _ (List.mem_append_left _ (List.mem_append_left _ (List.mem_of_getElem? (i := 15) rfl)))))))
  have k_41 := hts (.fieldLink RX7 41 "RelatorsBench" "paperDays" "[I") (List.mem_cons_of_mem _ (List.mem_append_left _ (List.mem_append_left _ (List.mem_append_left _ (List.mem_append_left _ (List.mem_append_left _ (List.mem_of_getElem? (i := 16) rfl)))))))
  have k_44 := hts (.fieldLink RX7 44 "RelatorsBench" "paperDayCount" "I") (List.mem_cons_of_mem _ (List.mem_append_left _ (List.mem_append_left _ (List.mem_append_left _ (List.mem_append_left _ (List.mem_append_left _ (List.mem_of_getElem? (i := 17) rfl)))))))
  have k_48 := hts (.fieldLink RX7 48 "RelatorsBench" "amendmentCount" "I") (List.mem_cons_of_mem _ (List.mem_append_left _ (List.mem_append_left _ (List.mem_append_left _ (List.mem_append_left _ (List.mem_append_left _ (List.mem_of_getElem? (i := 18) rfl)))))))
  have k_51 := hts (.fieldLink RX7 51 "RelatorsBench" "today" "I") (List.mem_cons_of_mem _ (List.mem_append_left _ (List.mem_append_left _ (List.mem_append_left _ (List.mem_append_left _ (List.mem_append_left _ (List.mem_of_getElem? (i := 19) rfl)))))))
  have k_54 := hts (.fieldLink RX7 54 "RelatorsBench" "stateGot" "I") (List.mem_cons_of_mem _ (List.mem_append_left _ (List.mem_append_left _ (List.mem_append_left _ (List.mem_append_left _ (List.mem_append_left _ (List.mem_of_getElem? (i := 20) rfl)))))))
  have hinX2 : ∀ w ∈ wsX20, w ∈ wsX7_init := fun _ h => List.mem_cons_of_mem _ (List.mem_append_left _ (List.mem_append_right _ (h)))
  have hinX6 : ∀ w ∈ wsX60, w ∈ wsX7_init := fun _ h => List.mem_cons_of_mem _ (List.mem_append_right _ (h))
  have hl := lv_entry ([.ref q]) (n := 2) (Nat.le_of_ble_eq_true rfl)
  rw [lg_entry_eq]
  generalize (lg_sl ([.ref q]) ++ List.replicate (2 - (lg_sl ([.ref q])).length) Slot.unset).toArray = ls at hl ⊢
  have hl : lv_has ls 2 [(0, .ref q)] := hl
  refine lv_aload_n hx hb dX7_init_0 rfl (lv_at hl 0 rfl) ?_
  refine oi_obj (a := q) hC ko1 ko2 ko3 hl.1 (Nat.le_of_ble_eq_true rfl) (Nat.le_of_ble_eq_true rfl) dX7_init_1 ?_
  refine lv_aload_n hx hb dX7_init_4 rfl (lv_at hl 0 rfl) ?_
  refine lv_bipush (v := 6) hx hb dX7_init_5 (by decide) ?_
  obtain ⟨b1, a_b1⟩ : ∃ z, z = s.heap.size := ⟨_, rfl⟩
  have z_b1 : sz ≤ b1 := by rw [a_b1, ← hsz]; exact hS.1
  have n_q_b1 : q ≠ b1 := by rw [a_b1]; exact Nat.ne_of_lt hO.lt
  refine oi_newq (C := RX2) (t0 := 2) hC hS hF.1 rfl (hts (.classLink RX7 9 RX2) (List.mem_cons_of_mem _ (List.mem_append_left _ (List.mem_append_left _ (List.mem_append_left _ (List.mem_append_left _ (List.mem_append_left _ (List.mem_of_getElem? (i := 3) rfl)))))))) (by decide) (N := 6) (by decide) (by decide) (Nat.le_of_ble_eq_true rfl) (Nat.le_of_ble_eq_true rfl) dX7_init_7 (fun H h1 hq hz hS => ?_)
  have hO := at_keep hO hq
  rw [← a_b1] at h1 ⊢
  refine oi_put (v := .ref b1) (ty := (.array (.object "RelatorsBench$Firm"))) hC hO hS (Or.inl rfl) rfl hinX7 tyX7 tyX7_ok nmX7 0 (by decide) k_11 (fun _ h => h) (Or.inr ⟨rfl, hini, rfl⟩) (by decide +kernel) rfl rfl (Nat.le_of_ble_eq_true rfl) dX7_init_10 (fun H locs hO hq hz hS => ?_)
  have hO : at1 D q (.inr (8, [.ref b1, .null, .null, .null, .null, .null, .null, .null, .int 0, .int 0, .int 0, .int 0])) H := hO
  have h1 := h1.kept (hq _ (Ne.symm n_q_b1))
  refine lv_aload_n hx hb dX7_init_13 rfl (lv_at hl 0 rfl) ?_
  refine lv_bipush (v := 8) hx hb dX7_init_14 (by decide) ?_
  obtain ⟨b2, a_b2⟩ : ∃ z, z = H.size := ⟨_, rfl⟩
  have z_b2 : sz ≤ b2 := by rw [a_b2, ← hsz]; exact hS.1
  have n_q_b2 : q ≠ b2 := by rw [a_b2]; exact Nat.ne_of_lt hO.lt
  have n_b1_b2 : b1 ≠ b2 := by rw [a_b2]; exact Nat.ne_of_lt h1.lt
  refine oi_newq (C := RX6) (t0 := 3) hC hS hF.2 rfl (hts (.classLink RX7 15 RX6) (List.mem_cons_of_mem _ (List.mem_append_left _ (List.mem_append_left _ (List.mem_append_left _ (List.mem_append_left _ (List.mem_append_left _ (List.mem_of_getElem? (i := 5) rfl)))))))) (by decide) (N := 8) (by decide) (by decide) (Nat.le_of_ble_eq_true rfl) (Nat.le_of_ble_eq_true rfl) dX7_init_16 (fun H h2 hq hz hS => ?_)
  have hO := at_keep hO hq
  have h1 := at_keep h1 hq
  rw [← a_b2] at h2 ⊢
  refine oi_put (v := .ref b2) (ty := (.array (.object "RelatorsBench$Teller"))) hC hO hS (Or.inl rfl) rfl hinX7 tyX7 tyX7_ok nmX7 1 (by decide) k_17 (fun _ h => h) (Or.inr ⟨rfl, hini, rfl⟩) (by decide +kernel) rfl rfl (Nat.le_of_ble_eq_true rfl) dX7_init_19 (fun H locs hO hq hz hS => ?_)
  have hO : at1 D q (.inr (8, [.ref b1, .ref b2, .null, .null, .null, .null, .null, .null, .int 0, .int 0, .int 0, .int 0])) H := hO
  have h1 := h1.kept (hq _ (Ne.symm n_q_b1))
  have h2 := h2.kept (hq _ (Ne.symm n_q_b2))
  refine lv_aload_n hx hb dX7_init_22 rfl (lv_at hl 0 rfl) ?_
  refine lv_bipush (v := 16) hx hb dX7_init_23 (by decide) ?_
  obtain ⟨b3, a_b3⟩ : ∃ z, z = H.size := ⟨_, rfl⟩
  have z_b3 : sz ≤ b3 := by rw [a_b3, ← hsz]; exact hS.1
  have n_q_b3 : q ≠ b3 := by rw [a_b3]; exact Nat.ne_of_lt hO.lt
  have n_b1_b3 : b1 ≠ b3 := by rw [a_b3]; exact Nat.ne_of_lt h1.lt
  have n_b2_b3 : b2 ≠ b3 := by rw [a_b3]; exact Nat.ne_of_lt h2.lt
  refine oi_newa hC hS harr (by decide) (N := 16) (by decide) (by decide) (Nat.le_of_ble_eq_true rfl) (Nat.le_of_ble_eq_true rfl) dX7_init_25 (fun H h3 hq hz hS => ?_)
  have hO := at_keep hO hq
  have h1 := at_keep h1 hq
  have h2 := at_keep h2 hq
  rw [← a_b3] at h3 ⊢
  refine oi_put (v := .ref b3) (ty := (.array .int)) hC hO hS (Or.inl rfl) rfl hinX7 tyX7 tyX7_ok nmX7 2 (by decide) k_21 (fun _ h => h) (Or.inr ⟨rfl, hini, rfl⟩) (by decide +kernel) rfl rfl (Nat.le_of_ble_eq_true rfl) dX7_init_27 (fun H locs hO hq hz hS => ?_)
  have hO : at1 D q (.inr (8, [.ref b1, .ref b2, .ref b3, .null, .null, .null, .null, .null, .int 0, .int 0, .int 0, .int 0])) H := hO
  have h1 := h1.kept (hq _ (Ne.symm n_q_b1))
  have h2 := h2.kept (hq _ (Ne.symm n_q_b2))
  have h3 := h3.kept (hq _ (Ne.symm n_q_b3))
  refine lv_aload_n hx hb dX7_init_30 rfl (lv_at hl 0 rfl) ?_
  obtain ⟨la1, a_la1⟩ : ∃ z, z = H.size := ⟨_, rfl⟩
  have z_la1 : sz ≤ la1 := by rw [a_la1, ← hsz]; exact hS.1
  have n_q_la1 : q ≠ la1 := by rw [a_la1]; exact Nat.ne_of_lt hO.lt
  have n_b1_la1 : b1 ≠ la1 := by rw [a_la1]; exact Nat.ne_of_lt h1.lt
  have n_b2_la1 : b2 ≠ la1 := by rw [a_la1]; exact Nat.ne_of_lt h2.lt
  have n_b3_la1 : b3 ≠ la1 := by rw [a_la1]; exact Nat.ne_of_lt h3.lt
  refine oi_new (ci := 0) (fs := [.int 0, .null, .int 0]) hC hS hinJx4a65c tyJx4a65c tyJx4a65c_ok (hts (.classLink RX7 25 RJx4a65c) (List.mem_cons_of_mem _ (List.mem_append_left _ (List.mem_append_left _ (List.mem_append_left _ (List.mem_append_left _ (List.mem_append_left _ (List.mem_of_getElem? (i := 9) rfl)))))))) (hts (.instantiable RJx4a65c 3) (List.mem_cons_of_mem _ (List.mem_append_left _ (List.mem_append_left _ (List.mem_append_left _ (List.mem_append_left _ (List.mem_append_left _ (List.mem_of_getElem? (i := 10) rfl)))))))) (hts (.initialized RJx4a65c) (List.mem_cons_of_mem _ (List.mem_append_left _ (List.mem_append_left _ (List.mem_append_left _ (List.mem_append_left _ (List.mem_append_left _ (List.mem_of_getElem? (i := 11) rfl)))))))) rfl (by decide +kernel) (Nat.le_of_ble_eq_true rfl) (Nat.le_of_ble_eq_true rfl) dX7_init_31 (fun H hL1 hq hz hS => ?_)
  have hO := at_keep hO hq
  have h1 := at_keep h1 hq
  have h2 := at_keep h2 hq
  have h3 := at_keep h3 hq
  rw [← a_la1] at hL1 ⊢
  refine lv_dup hx hb dX7_init_34 rfl ?_
  refine oi_list (rest := [.ref la1, .ref q]) hC hJ hL1 hS (Or.inr z_la1) (cwI 0 hts gX7_init_Jx4a65c_init_da8c8 rfl rfl rfl (hts (.initialized RJx4a65c) (List.mem_cons_of_mem _ (List.mem_append_left _ (List.mem_append_left _ (List.mem_append_left _ (List.mem_append_left _ (List.mem_append_left _ (List.mem_of_getElem? (i := 11) rfl)))))))) (hts (.methodLink RX7 27 yJx4a65c_init_da8c8) (List.mem_cons_of_mem _ (List.mem_append_left _ (List.mem_append_left _ (List.mem_append_left _ (List.mem_append_left _ (List.mem_append_right _ (List.mem_append_left _ (List.mem_of_getElem? (i := 1) rfl))))))))) (hts (.instanceMethod yJx4a65c_init_da8c8) (List.mem_cons_of_mem _ (List.mem_append_left _ (List.mem_append_left _ (List.mem_append_left _ (List.mem_append_left _ (List.mem_append_right _ (List.mem_append_left _ (List.mem_of_getElem? (i := 2) rfl))))))))) rfl (by decide +kernel) ⟨Nat.le_of_ble_eq_true rfl, Nat.le_of_ble_eq_true rfl⟩) hl.1 (Nat.le_of_ble_eq_true rfl) dX7_init_35 ⟨(Nat.le_of_ble_eq_true rfl), (Nat.le_of_ble_eq_true rfl)⟩ (fun H locs hL1 hq hz hS => ?_)
  have hO := hO.kept (hq _ hO.lt n_q_la1)
  have h1 := h1.kept (hq _ h1.lt n_b1_la1)
  have h2 := h2.kept (hq _ h2.lt n_b2_la1)
  have h3 := h3.kept (hq _ h3.lt n_b3_la1)
  refine oi_put (v := .ref la1) (ty := (.object "java/util/ArrayList")) hC hO hS (Or.inl rfl) rfl hinX7 tyX7 tyX7_ok nmX7 3 (by decide) k_28 (fun _ h => h) (Or.inr ⟨rfl, hini, rfl⟩) (by decide +kernel) rfl rfl (Nat.le_of_ble_eq_true rfl) dX7_init_38 (fun H locs hO hq hz hS => ?_)
  have hO : at1 D q (.inr (8, [.ref b1, .ref b2, .ref b3, .ref la1, .null, .null, .null, .null, .int 0, .int 0, .int 0, .int 0])) H := hO
  have h1 := h1.kept (hq _ (Ne.symm n_q_b1))
  have h2 := h2.kept (hq _ (Ne.symm n_q_b2))
  have h3 := h3.kept (hq _ (Ne.symm n_q_b3))
  have hL1 := hL1.kept (hq _ (Ne.symm n_q_la1))
  refine lv_aload_n hx hb dX7_init_41 rfl (lv_at hl 0 rfl) ?_
  obtain ⟨la2, a_la2⟩ : ∃ z, z = H.size := ⟨_, rfl⟩
  have z_la2 : sz ≤ la2 := by rw [a_la2, ← hsz]; exact hS.1
  have n_q_la2 : q ≠ la2 := by rw [a_la2]; exact Nat.ne_of_lt hO.lt
  have n_b1_la2 : b1 ≠ la2 := by rw [a_la2]; exact Nat.ne_of_lt h1.lt
  have n_b2_la2 : b2 ≠ la2 := by rw [a_la2]; exact Nat.ne_of_lt h2.lt
  have n_b3_la2 : b3 ≠ la2 := by rw [a_la2]; exact Nat.ne_of_lt h3.lt
  have n_la1_la2 : la1 ≠ la2 := by rw [a_la2]; exact Nat.ne_of_lt hL1.lt
  refine oi_new (ci := 0) (fs := [.int 0, .null, .int 0]) hC hS hinJx4a65c tyJx4a65c tyJx4a65c_ok (hts (.classLink RX7 25 RJx4a65c) (List.mem_cons_of_mem _ (List.mem_append_left _ (List.mem_append_left _ (List.mem_append_left _ (List.mem_append_left _ (List.mem_append_left _ (List.mem_of_getElem? (i := 9) rfl)))))))) (hts (.instantiable RJx4a65c 3) (List.mem_cons_of_mem _ (List.mem_append_left _ (List.mem_append_left _ (List.mem_append_left _ (List.mem_append_left _ (List.mem_append_left _ (List.mem_of_getElem? (i := 10) rfl)))))))) (hts (.initialized RJx4a65c) (List.mem_cons_of_mem _ (List.mem_append_left _ (List.mem_append_left _ (List.mem_append_left _ (List.mem_append_left _ (List.mem_append_left _ (List.mem_of_getElem? (i := 11) rfl)))))))) rfl (by decide +kernel) (Nat.le_of_ble_eq_true rfl) (Nat.le_of_ble_eq_true rfl) dX7_init_42 (fun H hL2 hq hz hS => ?_)
  have hO := at_keep hO hq
  have h1 := at_keep h1 hq
  have h2 := at_keep h2 hq
  have h3 := at_keep h3 hq
  have hL1 := at_keep hL1 hq
  rw [← a_la2] at hL2 ⊢
  refine lv_dup hx hb dX7_init_45 rfl ?_
  refine oi_list (rest := [.ref la2, .ref q]) hC hJ hL2 hS (Or.inr z_la2) (cwI 0 hts gX7_init_Jx4a65c_init_da8c8 rfl rfl rfl (hts (.initialized RJx4a65c) (List.mem_cons_of_mem _ (List.mem_append_left _ (List.mem_append_left _ (List.mem_append_left _ (List.mem_append_left _ (List.mem_append_left _ (List.mem_of_getElem? (i := 11) rfl)))))))) (hts (.methodLink RX7 27 yJx4a65c_init_da8c8) (List.mem_cons_of_mem _ (List.mem_append_left _ (List.mem_append_left _ (List.mem_append_left _ (List.mem_append_left _ (List.mem_append_right _ (List.mem_append_left _ (List.mem_of_getElem? (i := 1) rfl))))))))) (hts (.instanceMethod yJx4a65c_init_da8c8) (List.mem_cons_of_mem _ (List.mem_append_left _ (List.mem_append_left _ (List.mem_append_left _ (List.mem_append_left _ (List.mem_append_right _ (List.mem_append_left _ (List.mem_of_getElem? (i := 2) rfl))))))))) rfl (by decide +kernel) ⟨Nat.le_of_ble_eq_true rfl, Nat.le_of_ble_eq_true rfl⟩) hl.1 (Nat.le_of_ble_eq_true rfl) dX7_init_46 ⟨(Nat.le_of_ble_eq_true rfl), (Nat.le_of_ble_eq_true rfl)⟩ (fun H locs hL2 hq hz hS => ?_)
  have hO := hO.kept (hq _ hO.lt n_q_la2)
  have h1 := h1.kept (hq _ h1.lt n_b1_la2)
  have h2 := h2.kept (hq _ h2.lt n_b2_la2)
  have h3 := h3.kept (hq _ h3.lt n_b3_la2)
  have hL1 := hL1.kept (hq _ hL1.lt n_la1_la2)
  refine oi_put (v := .ref la2) (ty := (.object "java/util/ArrayList")) hC hO hS (Or.inl rfl) rfl hinX7 tyX7 tyX7_ok nmX7 4 (by decide) k_32 (fun _ h => h) (Or.inr ⟨rfl, hini, rfl⟩) (by decide +kernel) rfl rfl (Nat.le_of_ble_eq_true rfl) dX7_init_49 (fun H locs hO hq hz hS => ?_)
  have hO : at1 D q (.inr (8, [.ref b1, .ref b2, .ref b3, .ref la1, .ref la2, .null, .null, .null, .int 0, .int 0, .int 0, .int 0])) H := hO
  have h1 := h1.kept (hq _ (Ne.symm n_q_b1))
  have h2 := h2.kept (hq _ (Ne.symm n_q_b2))
  have h3 := h3.kept (hq _ (Ne.symm n_q_b3))
  have hL1 := hL1.kept (hq _ (Ne.symm n_q_la1))
  have hL2 := hL2.kept (hq _ (Ne.symm n_q_la2))
  refine lv_aload_n hx hb dX7_init_52 rfl (lv_at hl 0 rfl) ?_
  obtain ⟨la3, a_la3⟩ : ∃ z, z = H.size := ⟨_, rfl⟩
  have z_la3 : sz ≤ la3 := by rw [a_la3, ← hsz]; exact hS.1
  have n_q_la3 : q ≠ la3 := by rw [a_la3]; exact Nat.ne_of_lt hO.lt
  have n_b1_la3 : b1 ≠ la3 := by rw [a_la3]; exact Nat.ne_of_lt h1.lt
  have n_b2_la3 : b2 ≠ la3 := by rw [a_la3]; exact Nat.ne_of_lt h2.lt
  have n_b3_la3 : b3 ≠ la3 := by rw [a_la3]; exact Nat.ne_of_lt h3.lt
  have n_la1_la3 : la1 ≠ la3 := by rw [a_la3]; exact Nat.ne_of_lt hL1.lt
  have n_la2_la3 : la2 ≠ la3 := by rw [a_la3]; exact Nat.ne_of_lt hL2.lt
  refine oi_new (ci := 0) (fs := [.int 0, .null, .int 0]) hC hS hinJx4a65c tyJx4a65c tyJx4a65c_ok (hts (.classLink RX7 25 RJx4a65c) (List.mem_cons_of_mem _ (List.mem_append_left _ (List.mem_append_left _ (List.mem_append_left _ (List.mem_append_left _ (List.mem_append_left _ (List.mem_of_getElem? (i := 9) rfl)))))))) (hts (.instantiable RJx4a65c 3) (List.mem_cons_of_mem _ (List.mem_append_left _ (List.mem_append_left _ (List.mem_append_left _ (List.mem_append_left _ (List.mem_append_left _ (List.mem_of_getElem? (i := 10) rfl)))))))) (hts (.initialized RJx4a65c) (List.mem_cons_of_mem _ (List.mem_append_left _ (List.mem_append_left _ (List.mem_append_left _ (List.mem_append_left _ (List.mem_append_left _ (List.mem_of_getElem? (i := 11) rfl)))))))) rfl (by decide +kernel) (Nat.le_of_ble_eq_true rfl) (Nat.le_of_ble_eq_true rfl) dX7_init_53 (fun H hL3 hq hz hS => ?_)
  have hO := at_keep hO hq
  have h1 := at_keep h1 hq
  have h2 := at_keep h2 hq
  have h3 := at_keep h3 hq
  have hL1 := at_keep hL1 hq
  have hL2 := at_keep hL2 hq
  rw [← a_la3] at hL3 ⊢
  refine lv_dup hx hb dX7_init_56 rfl ?_
  refine oi_list (rest := [.ref la3, .ref q]) hC hJ hL3 hS (Or.inr z_la3) (cwI 0 hts gX7_init_Jx4a65c_init_da8c8 rfl rfl rfl (hts (.initialized RJx4a65c) (List.mem_cons_of_mem _ (List.mem_append_left _ (List.mem_append_left _ (List.mem_append_left _ (List.mem_append_left _ (List.mem_append_left _ (List.mem_of_getElem? (i := 11) rfl)))))))) (hts (.methodLink RX7 27 yJx4a65c_init_da8c8) (List.mem_cons_of_mem _ (List.mem_append_left _ (List.mem_append_left _ (List.mem_append_left _ (List.mem_append_left _ (List.mem_append_right _ (List.mem_append_left _ (List.mem_of_getElem? (i := 1) rfl))))))))) (hts (.instanceMethod yJx4a65c_init_da8c8) (List.mem_cons_of_mem _ (List.mem_append_left _ (List.mem_append_left _ (List.mem_append_left _ (List.mem_append_left _ (List.mem_append_right _ (List.mem_append_left _ (List.mem_of_getElem? (i := 2) rfl))))))))) rfl (by decide +kernel) ⟨Nat.le_of_ble_eq_true rfl, Nat.le_of_ble_eq_true rfl⟩) hl.1 (Nat.le_of_ble_eq_true rfl) dX7_init_57 ⟨(Nat.le_of_ble_eq_true rfl), (Nat.le_of_ble_eq_true rfl)⟩ (fun H locs hL3 hq hz hS => ?_)
  have hO := hO.kept (hq _ hO.lt n_q_la3)
  have h1 := h1.kept (hq _ h1.lt n_b1_la3)
  have h2 := h2.kept (hq _ h2.lt n_b2_la3)
  have h3 := h3.kept (hq _ h3.lt n_b3_la3)
  have hL1 := hL1.kept (hq _ hL1.lt n_la1_la3)
  have hL2 := hL2.kept (hq _ hL2.lt n_la2_la3)
  refine oi_put (v := .ref la3) (ty := (.object "java/util/ArrayList")) hC hO hS (Or.inl rfl) rfl hinX7 tyX7 tyX7_ok nmX7 5 (by decide) k_35 (fun _ h => h) (Or.inr ⟨rfl, hini, rfl⟩) (by decide +kernel) rfl rfl (Nat.le_of_ble_eq_true rfl) dX7_init_60 (fun H locs hO hq hz hS => ?_)
  have hO : at1 D q (.inr (8, [.ref b1, .ref b2, .ref b3, .ref la1, .ref la2, .ref la3, .null, .null, .int 0, .int 0, .int 0, .int 0])) H := hO
  have h1 := h1.kept (hq _ (Ne.symm n_q_b1))
  have h2 := h2.kept (hq _ (Ne.symm n_q_b2))
  have h3 := h3.kept (hq _ (Ne.symm n_q_b3))
  have hL1 := hL1.kept (hq _ (Ne.symm n_q_la1))
  have hL2 := hL2.kept (hq _ (Ne.symm n_q_la2))
  have hL3 := hL3.kept (hq _ (Ne.symm n_q_la3))
  refine lv_aload_n hx hb dX7_init_63 rfl (lv_at hl 0 rfl) ?_
  obtain ⟨la4, a_la4⟩ : ∃ z, z = H.size := ⟨_, rfl⟩
  have z_la4 : sz ≤ la4 := by rw [a_la4, ← hsz]; exact hS.1
  have n_q_la4 : q ≠ la4 := by rw [a_la4]; exact Nat.ne_of_lt hO.lt
  have n_b1_la4 : b1 ≠ la4 := by rw [a_la4]; exact Nat.ne_of_lt h1.lt
  have n_b2_la4 : b2 ≠ la4 := by rw [a_la4]; exact Nat.ne_of_lt h2.lt
  have n_b3_la4 : b3 ≠ la4 := by rw [a_la4]; exact Nat.ne_of_lt h3.lt
  have n_la1_la4 : la1 ≠ la4 := by rw [a_la4]; exact Nat.ne_of_lt hL1.lt
  have n_la2_la4 : la2 ≠ la4 := by rw [a_la4]; exact Nat.ne_of_lt hL2.lt
  have n_la3_la4 : la3 ≠ la4 := by rw [a_la4]; exact Nat.ne_of_lt hL3.lt
  refine oi_new (ci := 0) (fs := [.int 0, .null, .int 0]) hC hS hinJx4a65c tyJx4a65c tyJx4a65c_ok (hts (.classLink RX7 25 RJx4a65c) (List.mem_cons_of_mem _ (List.mem_append_left _ (List.mem_append_left _ (List.mem_append_left _ (List.mem_append_left _ (List.mem_append_left _ (List.mem_of_getElem? (i := 9) rfl)))))))) (hts (.instantiable RJx4a65c 3) (List.mem_cons_of_mem _ (List.mem_append_left _ (List.mem_append_left _ (List.mem_append_left _ (List.mem_append_left _ (List.mem_append_left _ (List.mem_of_getElem? (i := 10) rfl)))))))) (hts (.initialized RJx4a65c) (List.mem_cons_of_mem _ (List.mem_append_left _ (List.mem_append_left _ (List.mem_append_left _ (List.mem_append_left _ (List.mem_append_left _ (List.mem_of_getElem? (i := 11) rfl)))))))) rfl (by decide +kernel) (Nat.le_of_ble_eq_true rfl) (Nat.le_of_ble_eq_true rfl) dX7_init_64 (fun H hL4 hq hz hS => ?_)
  have hO := at_keep hO hq
  have h1 := at_keep h1 hq
  have h2 := at_keep h2 hq
  have h3 := at_keep h3 hq
  have hL1 := at_keep hL1 hq
  have hL2 := at_keep hL2 hq
  have hL3 := at_keep hL3 hq
  rw [← a_la4] at hL4 ⊢
  refine lv_dup hx hb dX7_init_67 rfl ?_
  refine oi_list (rest := [.ref la4, .ref q]) hC hJ hL4 hS (Or.inr z_la4) (cwI 0 hts gX7_init_Jx4a65c_init_da8c8 rfl rfl rfl (hts (.initialized RJx4a65c) (List.mem_cons_of_mem _ (List.mem_append_left _ (List.mem_append_left _ (List.mem_append_left _ (List.mem_append_left _ (List.mem_append_left _ (List.mem_of_getElem? (i := 11) rfl)))))))) (hts (.methodLink RX7 27 yJx4a65c_init_da8c8) (List.mem_cons_of_mem _ (List.mem_append_left _ (List.mem_append_left _ (List.mem_append_left _ (List.mem_append_left _ (List.mem_append_right _ (List.mem_append_left _ (List.mem_of_getElem? (i := 1) rfl))))))))) (hts (.instanceMethod yJx4a65c_init_da8c8) (List.mem_cons_of_mem _ (List.mem_append_left _ (List.mem_append_left _ (List.mem_append_left _ (List.mem_append_left _ (List.mem_append_right _ (List.mem_append_left _ (List.mem_of_getElem? (i := 2) rfl))))))))) rfl (by decide +kernel) ⟨Nat.le_of_ble_eq_true rfl, Nat.le_of_ble_eq_true rfl⟩) hl.1 (Nat.le_of_ble_eq_true rfl) dX7_init_68 ⟨(Nat.le_of_ble_eq_true rfl), (Nat.le_of_ble_eq_true rfl)⟩ (fun H locs hL4 hq hz hS => ?_)
  have hO := hO.kept (hq _ hO.lt n_q_la4)
  have h1 := h1.kept (hq _ h1.lt n_b1_la4)
  have h2 := h2.kept (hq _ h2.lt n_b2_la4)
  have h3 := h3.kept (hq _ h3.lt n_b3_la4)
  have hL1 := hL1.kept (hq _ hL1.lt n_la1_la4)
  have hL2 := hL2.kept (hq _ hL2.lt n_la2_la4)
  have hL3 := hL3.kept (hq _ hL3.lt n_la3_la4)
  refine oi_put (v := .ref la4) (ty := (.object "java/util/ArrayList")) hC hO hS (Or.inl rfl) rfl hinX7 tyX7 tyX7_ok nmX7 6 (by decide) k_38 (fun _ h => h) (Or.inr ⟨rfl, hini, rfl⟩) (by decide +kernel) rfl rfl (Nat.le_of_ble_eq_true rfl) dX7_init_71 (fun H locs hO hq hz hS => ?_)
  have hO : at1 D q (.inr (8, [.ref b1, .ref b2, .ref b3, .ref la1, .ref la2, .ref la3, .ref la4, .null, .int 0, .int 0, .int 0, .int 0])) H := hO
  have h1 := h1.kept (hq _ (Ne.symm n_q_b1))
  have h2 := h2.kept (hq _ (Ne.symm n_q_b2))
  have h3 := h3.kept (hq _ (Ne.symm n_q_b3))
  have hL1 := hL1.kept (hq _ (Ne.symm n_q_la1))
  have hL2 := hL2.kept (hq _ (Ne.symm n_q_la2))
  have hL3 := hL3.kept (hq _ (Ne.symm n_q_la3))
  have hL4 := hL4.kept (hq _ (Ne.symm n_q_la4))
  refine lv_aload_n hx hb dX7_init_74 rfl (lv_at hl 0 rfl) ?_
  refine lv_bipush (v := 52) hx hb dX7_init_75 (by decide) ?_
  obtain ⟨b4, a_b4⟩ : ∃ z, z = H.size := ⟨_, rfl⟩
  have z_b4 : sz ≤ b4 := by rw [a_b4, ← hsz]; exact hS.1
  have n_q_b4 : q ≠ b4 := by rw [a_b4]; exact Nat.ne_of_lt hO.lt
  have n_b1_b4 : b1 ≠ b4 := by rw [a_b4]; exact Nat.ne_of_lt h1.lt
  have n_b2_b4 : b2 ≠ b4 := by rw [a_b4]; exact Nat.ne_of_lt h2.lt
  have n_b3_b4 : b3 ≠ b4 := by rw [a_b4]; exact Nat.ne_of_lt h3.lt
  have n_la1_b4 : la1 ≠ b4 := by rw [a_b4]; exact Nat.ne_of_lt hL1.lt
  have n_la2_b4 : la2 ≠ b4 := by rw [a_b4]; exact Nat.ne_of_lt hL2.lt
  have n_la3_b4 : la3 ≠ b4 := by rw [a_b4]; exact Nat.ne_of_lt hL3.lt
  have n_la4_b4 : la4 ≠ b4 := by rw [a_b4]; exact Nat.ne_of_lt hL4.lt
  refine oi_newa hC hS harr (by decide) (N := 52) (by decide) (by decide) (Nat.le_of_ble_eq_true rfl) (Nat.le_of_ble_eq_true rfl) dX7_init_77 (fun H h4 hq hz hS => ?_)
  have hO := at_keep hO hq
  have h1 := at_keep h1 hq
  have h2 := at_keep h2 hq
  have h3 := at_keep h3 hq
  have hL1 := at_keep hL1 hq
  have hL2 := at_keep hL2 hq
  have hL3 := at_keep hL3 hq
  have hL4 := at_keep hL4 hq
  rw [← a_b4] at h4 ⊢
  refine oi_put (v := .ref b4) (ty := (.array .int)) hC hO hS (Or.inl rfl) rfl hinX7 tyX7 tyX7_ok nmX7 7 (by decide) k_41 (fun _ h => h) (Or.inr ⟨rfl, hini, rfl⟩) (by decide +kernel) rfl rfl (Nat.le_of_ble_eq_true rfl) dX7_init_79 (fun H locs hO hq hz hS => ?_)
  have hO : at1 D q (.inr (8, [.ref b1, .ref b2, .ref b3, .ref la1, .ref la2, .ref la3, .ref la4, .ref b4, .int 0, .int 0, .int 0, .int 0])) H := hO
  have h1 := h1.kept (hq _ (Ne.symm n_q_b1))
  have h2 := h2.kept (hq _ (Ne.symm n_q_b2))
  have h3 := h3.kept (hq _ (Ne.symm n_q_b3))
  have hL1 := hL1.kept (hq _ (Ne.symm n_q_la1))
  have hL2 := hL2.kept (hq _ (Ne.symm n_q_la2))
  have hL3 := hL3.kept (hq _ (Ne.symm n_q_la3))
  have hL4 := hL4.kept (hq _ (Ne.symm n_q_la4))
  have h4 := h4.kept (hq _ (Ne.symm n_q_b4))
  refine lv_aload_n hx hb dX7_init_82 rfl (lv_at hl 0 rfl) ?_
  refine lv_iconst (v := 0) hx hb dX7_init_83 (by decide) ?_
  refine oi_put (v := .int 0) (ty := .int) hC hO hS (Or.inl rfl) rfl hinX7 tyX7 tyX7_ok nmX7 8 (by decide) k_44 (fun _ h => h) (Or.inl rfl) (by decide +kernel) rfl rfl (Nat.le_of_ble_eq_true rfl) dX7_init_84 (fun H locs hO hq hz hS => ?_)
  have hO : at1 D q (.inr (8, [.ref b1, .ref b2, .ref b3, .ref la1, .ref la2, .ref la3, .ref la4, .ref b4, .int 0, .int 0, .int 0, .int 0])) H := hO
  have h1 := h1.kept (hq _ (Ne.symm n_q_b1))
  have h2 := h2.kept (hq _ (Ne.symm n_q_b2))
  have h3 := h3.kept (hq _ (Ne.symm n_q_b3))
  have hL1 := hL1.kept (hq _ (Ne.symm n_q_la1))
  have hL2 := hL2.kept (hq _ (Ne.symm n_q_la2))
  have hL3 := hL3.kept (hq _ (Ne.symm n_q_la3))
  have hL4 := hL4.kept (hq _ (Ne.symm n_q_la4))
  have h4 := h4.kept (hq _ (Ne.symm n_q_b4))
  refine lv_aload_n hx hb dX7_init_87 rfl (lv_at hl 0 rfl) ?_
  refine lv_iconst (v := 0) hx hb dX7_init_88 (by decide) ?_
  refine oi_put (v := .int 0) (ty := .int) hC hO hS (Or.inl rfl) rfl hinX7 tyX7 tyX7_ok nmX7 9 (by decide) k_48 (fun _ h => h) (Or.inl rfl) (by decide +kernel) rfl rfl (Nat.le_of_ble_eq_true rfl) dX7_init_89 (fun H locs hO hq hz hS => ?_)
  have hO : at1 D q (.inr (8, [.ref b1, .ref b2, .ref b3, .ref la1, .ref la2, .ref la3, .ref la4, .ref b4, .int 0, .int 0, .int 0, .int 0])) H := hO
  have h1 := h1.kept (hq _ (Ne.symm n_q_b1))
  have h2 := h2.kept (hq _ (Ne.symm n_q_b2))
  have h3 := h3.kept (hq _ (Ne.symm n_q_b3))
  have hL1 := hL1.kept (hq _ (Ne.symm n_q_la1))
  have hL2 := hL2.kept (hq _ (Ne.symm n_q_la2))
  have hL3 := hL3.kept (hq _ (Ne.symm n_q_la3))
  have hL4 := hL4.kept (hq _ (Ne.symm n_q_la4))
  have h4 := h4.kept (hq _ (Ne.symm n_q_b4))
  refine lv_aload_n hx hb dX7_init_92 rfl (lv_at hl 0 rfl) ?_
  refine lv_iconst (v := 0) hx hb dX7_init_93 (by decide) ?_
  refine oi_put (v := .int 0) (ty := .int) hC hO hS (Or.inl rfl) rfl hinX7 tyX7 tyX7_ok nmX7 10 (by decide) k_51 (fun _ h => h) (Or.inl rfl) (by decide +kernel) rfl rfl (Nat.le_of_ble_eq_true rfl) dX7_init_94 (fun H locs hO hq hz hS => ?_)
  have hO : at1 D q (.inr (8, [.ref b1, .ref b2, .ref b3, .ref la1, .ref la2, .ref la3, .ref la4, .ref b4, .int 0, .int 0, .int 0, .int 0])) H := hO
  have h1 := h1.kept (hq _ (Ne.symm n_q_b1))
  have h2 := h2.kept (hq _ (Ne.symm n_q_b2))
  have h3 := h3.kept (hq _ (Ne.symm n_q_b3))
  have hL1 := hL1.kept (hq _ (Ne.symm n_q_la1))
  have hL2 := hL2.kept (hq _ (Ne.symm n_q_la2))
  have hL3 := hL3.kept (hq _ (Ne.symm n_q_la3))
  have hL4 := hL4.kept (hq _ (Ne.symm n_q_la4))
  have h4 := h4.kept (hq _ (Ne.symm n_q_b4))
  refine lv_aload_n hx hb dX7_init_97 rfl (lv_at hl 0 rfl) ?_
  refine lv_iconst (v := 0) hx hb dX7_init_98 (by decide) ?_
  refine oi_put (v := .int 0) (ty := .int) hC hO hS (Or.inl rfl) rfl hinX7 tyX7 tyX7_ok nmX7 11 (by decide) k_54 (fun _ h => h) (Or.inl rfl) (by decide +kernel) rfl rfl (Nat.le_of_ble_eq_true rfl) dX7_init_99 (fun H locs hO hq hz hS => ?_)
  have hO : at1 D q (.inr (8, [.ref b1, .ref b2, .ref b3, .ref la1, .ref la2, .ref la3, .ref la4, .ref b4, .int 0, .int 0, .int 0, .int 0])) H := hO
  have h1 := h1.kept (hq _ (Ne.symm n_q_b1))
  have h2 := h2.kept (hq _ (Ne.symm n_q_b2))
  have h3 := h3.kept (hq _ (Ne.symm n_q_b3))
  have hL1 := hL1.kept (hq _ (Ne.symm n_q_la1))
  have hL2 := hL2.kept (hq _ (Ne.symm n_q_la2))
  have hL3 := hL3.kept (hq _ (Ne.symm n_q_la3))
  have hL4 := hL4.kept (hq _ (Ne.symm n_q_la4))
  have h4 := h4.kept (hq _ (Ne.symm n_q_b4))
  have hP0 : PM (fun z => z = q ∨ sz ≤ z) D cy (gX q e0 b1 b2 b3 b4 la1 la2 la3 la4) 0 0 H := PM_0 hO h1 h2 h3 h4 hL1 hL2 hL3 hL4 ⟨Or.inl rfl, Or.inr z_b1, Or.inr z_b2, Or.inr z_b3, Or.inr z_b4, Or.inr z_la1, Or.inr z_la2, Or.inr z_la3, Or.inr z_la4⟩ ⟨⟨n_q_b1, n_q_b2, n_q_b3, n_q_b4, n_q_la1, n_q_la2, n_q_la3, n_q_la4⟩, ⟨n_b1_b2, n_b1_b3, n_b1_b4, n_b1_la1, n_b1_la2, n_b1_la3, n_b1_la4⟩, ⟨n_b2_b3, n_b2_b4, n_b2_la1, n_b2_la2, n_b2_la3, n_b2_la4⟩, ⟨n_b3_b4, n_b3_la1, n_b3_la2, n_b3_la3, n_b3_la4⟩, ⟨(Ne.symm n_la1_b4), (Ne.symm n_la2_b4), (Ne.symm n_la3_b4), (Ne.symm n_la4_b4)⟩, ⟨n_la1_la2, n_la1_la3, n_la1_la4⟩, ⟨n_la2_la3, n_la2_la4⟩, n_la3_la4⟩
  have hA : ∀ z, s.heap.size ≤ z → (z = q ∨ sz ≤ z) := fun z h => Or.inr (hsz ▸ h)
  refine lv_iconst (v := 0) hx hb dX7_init_102 (by decide) ?_
  refine lv_istore_n (lv' := [(1, .int 0), (0, .ref q)]) hx hb dX7_init_103 rfl hl (by decide) rfl (fun ls hl => ?_)
  refine w_loopC (σ := CWt) 6 104 (fun i => 8 + 4 * i) (fun i => 94 + 31 * i) (fun i g H locs ls => PM (fun z => z = q ∨ sz ≤ z) D cy g i 0 H ∧ (∀ k i, 12 ≤ k → g k i = (gX q e0 b1 b2 b3 b4 la1 la2 la3 la4) k i) ∧ va_S (fun z => z = q ∨ sz ≤ z) s.heap H locs ∧ lv_has ls 2 [(1, .int (nI i)), (0, .ref q)]) ?_ (gX q e0 b1 b2 b3 b4 la1 la2 la3 la4) ⟨hP0, fun _ _ _ => rfl, hS, hl⟩
  intro i g H locs ls ⟨hP, hfix, hS, hl⟩ hi ih
  have eq18 : ga g 18 0 = q := congrArg Prod.fst (hfix 18 0 (by decide))
  have eq14 : ga g 14 0 = b1 := congrArg Prod.fst (hfix 14 0 (by decide))
  refine lv_iload_n hx hb dX7_init_104 rfl (lv_at hl 0 rfl) ?_
  refine lv_bipush (v := 6) hx hb dX7_init_105 (by decide) ?_
  refine lv_icmp_ge (tgt := 129) hx hb dX7_init_107 (by decide) (fun c => ?_) (fun c => ?_)
  rotate_left
  · have hlt : i < 6 := w_in (by decide : (6 : Int32) = nI 6) hi (by decide) c
    have hO := hP.1 18 0 rfl
    rw [eq18] at hO
    refine lv_aload_n hx hb dX7_init_110 rfl (lv_at hl 1 rfl) ?_
    refine ww_get (v := .ref b1) hx hb hts hinX7 hown hK (ci := 8) hO rfl 0 (by decide) k_11 (fun _ h => h) (by show some (Value.ref (ga g 14 0)) = _; rw [eq14]) dX7_init_111 ?_
    refine lv_iload_n hx hb dX7_init_114 rfl (lv_at hl 0 rfl) ?_
    obtain ⟨q0, a_q0⟩ : ∃ z, z = H.size := ⟨_, rfl⟩
    have hS0 := hS
    refine oi_new (ci := 3) (fs := [.int 0, .int 0, .int 0, .int 0, .null, .null, .null]) hC hS hinX2 tyX2 tyX2_ok (hts (.classLink RX7 9 RX2) (List.mem_cons_of_mem _ (List.mem_append_left _ (List.mem_append_left _ (List.mem_append_left _ (List.mem_append_left _ (List.mem_append_left _ (List.mem_of_getElem? (i := 3) rfl)))))))) (hts (.instantiable RX2 7) (List.mem_cons_of_mem _ (List.mem_append_left _ (List.mem_append_left _ (List.mem_append_left _ (List.mem_append_left _ (List.mem_append_left _ (List.mem_of_getElem? (i := 21) rfl)))))))) (hts (.initialized RX2) (List.mem_cons_of_mem _ (List.mem_append_left _ (List.mem_append_left _ (List.mem_append_left _ (List.mem_append_left _ (List.mem_append_left _ (List.mem_of_getElem? (i := 22) rfl)))))))) rfl (by decide +kernel) (by show 8 + 4 * i + 1 ≤ 40; omega) (by show 94 + 31 * i + 7 ≤ 336; omega) dX7_init_115 (fun H2 hO2 hq2 hz2 hS => ?_)
    rw [← a_q0] at hO2 ⊢
    refine lv_dup hx hb dX7_init_118 rfl ?_
    have hAq0 : q0 = q ∨ sz ≤ q0 := Or.inr (by rw [a_q0, ← hsz]; exact hS0.1)
    refine oi_firm (rest := [.ref q0, .int (nI i), .ref b1]) hC hJ hW hO2 hS hA hAq0 (cwI 0 hts gX7_init_X2_init rfl rfl rfl (hts (.initialized RX2) (List.mem_cons_of_mem _ (List.mem_append_left _ (List.mem_append_left _ (List.mem_append_left _ (List.mem_append_left _ (List.mem_append_left _ (List.mem_of_getElem? (i := 22) rfl)))))))) (hts (.methodLink RX7 57 yX2_init) (List.mem_cons_of_mem _ (List.mem_append_left _ (List.mem_append_left _ (List.mem_append_left _ (List.mem_append_left _ (List.mem_append_right _ (List.mem_append_left _ (List.mem_of_getElem? (i := 16) rfl))))))))) (hts (.instanceMethod yX2_init) (List.mem_cons_of_mem _ (List.mem_append_left _ (List.mem_append_left _ (List.mem_append_left _ (List.mem_append_left _ (List.mem_append_right _ (List.mem_append_left _ (List.mem_of_getElem? (i := 17) rfl))))))))) rfl (by decide +kernel) ⟨Nat.le_of_ble_eq_true rfl, Nat.le_of_ble_eq_true rfl⟩) hl.1 (Nat.le_of_ble_eq_true rfl) dX7_init_119 ⟨by show 8 + 4 * i + 1 + 3 ≤ 40; omega, by show 94 + 31 * i + 7 + 24 ≤ 336; omega⟩ (fun u H3 locs hu hB hq3 hz3 hS => ?_)
    obtain ⟨q1, q2, q3⟩ := u
    obtain ⟨z1, z2, z3, d4, d5, d6, d1, d2, d3⟩ := hu
    obtain ⟨f0, f1, f2, f3⟩ := hB
    dsimp only at z1 z2 z3 d1 d2 d3 d4 d5 d6 f0 f1 f2 f3
    have hk13 : ∀ z : Nat, z < H.size → H3[z]? = H[z]? := fun z hz => (hq3 z (by omega) (by omega)).trans (hq2 z hz)
    have h14 := at_keep (hP.1 14 0 rfl) hk13
    rw [eq14] at h14
    refine ww_qast hx hb hK 2 3 h14 rfl f0 rfl (vp_in_nI hlt (by decide)) dX7_init_122 (fun H4 j h4 z4 oq => ?_)
    rw [nI_clamp (by omega)] at h4
    have hS := S_put j hS z4 oq (Or.inr z_b1)
    have hP2 := PM_firm (q0 := q0) (q1 := q1) (q2 := q2) (q3 := q3) hP hk13 f0 f1 f2 f3 (by omega) (by omega) (by omega) (by omega) d1 d2 d3 d4 d5 d6 (fun z hz => hA z (Nat.le_trans hS0.1 hz)) (by rw [eq14]; exact h4) (by rw [eq14]; exact oq)
    refine lv_iinc (v := (nI (i + 1))) (lv' := [(1, .int (nI (i + 1))), (0, .ref q)]) hx hb dX7_init_123 hl (k := 0) rfl (nI_1 i) (by decide) rfl (fun ls hl => ?_)
    refine lv_goto (tgt := 104) hx hb dX7_init_126 (by decide) ?_
    exact ih _ _ _ ls hlt ⟨hP2, fun k i2 hk => (congrFun (gx5_e ⟨by omega, by omega, by omega, by omega, trivial⟩) i2).trans (hfix k i2 hk), hS, hl⟩
  obtain rfl : i = 6 := w_exit (by decide : (6 : Int32) = nI 6) hi (by decide) c
  refine lv_iconst (v := 0) hx hb dX7_init_129 (by decide) ?_
  refine lv_istore_n (lv' := [(1, .int 0), (0, .ref q)]) hx hb dX7_init_130 rfl hl (by decide) rfl (fun ls hl => ?_)
  refine w_loopC (σ := CWt) 8 131 (fun i => 32 + i) (fun i => 280 + 7 * i) (fun i g H locs ls => PM (fun z => z = q ∨ sz ≤ z) D cy g 6 i H ∧ (∀ k i, 12 ≤ k → g k i = (gX q e0 b1 b2 b3 b4 la1 la2 la3 la4) k i) ∧ va_S (fun z => z = q ∨ sz ≤ z) s.heap H locs ∧ lv_has ls 2 [(1, .int (nI i)), (0, .ref q)]) ?_ g ⟨hP, hfix, hS, hl⟩
  clear ih hP hfix hS hl eq18 eq14
  intro i g H locs ls ⟨hP, hfix, hS, hl⟩ hi ih
  have eq18 : ga g 18 0 = q := congrArg Prod.fst (hfix 18 0 (by decide))
  have eq15 : ga g 15 0 = b2 := congrArg Prod.fst (hfix 15 0 (by decide))
  have eq16 : ga g 16 0 = b3 := congrArg Prod.fst (hfix 16 0 (by decide))
  refine lv_iload_n hx hb dX7_init_131 rfl (lv_at hl 0 rfl) ?_
  refine lv_bipush (v := 8) hx hb dX7_init_132 (by decide) ?_
  refine lv_icmp_ge (tgt := 156) hx hb dX7_init_134 (by decide) (fun c => ?_) (fun c => ?_)
  rotate_left
  · have hlt : i < 8 := w_in (by decide : (8 : Int32) = nI 8) hi (by decide) c
    have hO := hP.1 18 0 rfl
    rw [eq18] at hO
    refine lv_aload_n hx hb dX7_init_137 rfl (lv_at hl 1 rfl) ?_
    refine ww_get (v := .ref b2) hx hb hts hinX7 hown hK (ci := 8) hO rfl 1 (by decide) k_17 (fun _ h => h) (by show some (Value.ref (ga g 15 0)) = _; rw [eq15]) dX7_init_138 ?_
    refine lv_iload_n hx hb dX7_init_141 rfl (lv_at hl 0 rfl) ?_
    obtain ⟨q0, a_q0⟩ : ∃ z, z = H.size := ⟨_, rfl⟩
    have hS0 := hS
    refine oi_new (ci := 7) (fs := [.int 0, .int 0, .int 0, .int 0, .int 0, .int 0, .int 0]) hC hS hinX6 tyX6 tyX6_ok (hts (.classLink RX7 15 RX6) (List.mem_cons_of_mem _ (List.mem_append_left _ (List.mem_append_left _ (List.mem_append_left _ (List.mem_append_left _ (List.mem_append_left _ (List.mem_of_getElem? (i := 5) rfl)))))))) (hts (.instantiable RX6 7) (List.mem_cons_of_mem _ (List.mem_append_left _ (List.mem_append_left _ (List.mem_append_left _ (List.mem_append_left _ (List.mem_append_left _ (List.mem_of_getElem? (i := 23) rfl)))))))) (hts (.initialized RX6) (List.mem_cons_of_mem _ (List.mem_append_left _ (List.mem_append_left _ (List.mem_append_left _ (List.mem_append_left _ (List.mem_append_right _ (List.mem_append_left _ (List.mem_of_getElem? (i := 0) rfl))))))))) rfl (by decide +kernel) (by show 32 + i + 1 ≤ 40; omega) (by show 280 + 7 * i + 7 ≤ 336; omega) dX7_init_142 (fun H2 hO2 hq2 hz2 hS => ?_)
    rw [← a_q0] at hO2 ⊢
    refine lv_dup hx hb dX7_init_145 rfl ?_
    have hAq0 : q0 = q ∨ sz ≤ q0 := Or.inr (by rw [a_q0, ← hsz]; exact hS0.1)
    refine va_callv (va_runIN (As := []) (rest := [.ref q0, .int (nI i), .ref b2]) (host := RX7) hC.1 (qX6_init l D cy q0) ⟨va_cnB 0 hts gX7_init_X6_init_n58 rfl rfl rfl hNst (hts (.initialized RX6) (List.mem_cons_of_mem _ (List.mem_append_left _ (List.mem_append_left _ (List.mem_append_left _ (List.mem_append_left _ (List.mem_append_right _ (List.mem_append_left _ (List.mem_of_getElem? (i := 0) rfl))))))))) (by decide +kernel) ⟨Nat.le_of_ble_eq_true rfl, Nat.le_of_ble_eq_true rfl⟩, rfl, (hts (.instanceMethod yX6_init) (List.mem_cons_of_mem _ (List.mem_append_left _ (List.mem_append_left _ (List.mem_append_left _ (List.mem_append_left _ (List.mem_append_right _ (List.mem_append_right _ (List.mem_of_getElem? (i := 7) rfl)))))))))⟩ ⟨CIn_blind, fun U hU hWm => ⟨rfl, by rw [hU]; exact hO2, va_K.moved hWm.alike hK⟩⟩ rfl rfl hl.1 rfl (lv_room (Nat.le_of_ble_eq_true rfl)) dX7_init_146 ⟨by show 32 + i + 1 + 0 ≤ 40; omega, by show 280 + 7 * i + 7 + 0 ≤ 336; omega⟩) hS (fun z _ h => by rw [h]; exact hAq0) (fun z h => by rw [h]; exact hAq0) (fun u t H3 locs ht hvm hw f0 hz3 hq3 hS => ?_)
    rw [ht] at f0
    have hk13 : ∀ z : Nat, z < H.size → H3[z]? = H[z]? := fun z hz => (hq3 z (by omega) (by omega)).trans (hq2 z hz)
    have h15 := at_keep (hP.1 15 0 rfl) hk13
    rw [eq15] at h15
    refine ww_qast hx hb hK 3 7 h15 rfl f0 rfl (vp_in_nI hlt (by decide)) dX7_init_149 (fun H4 j h4 z4 oq => ?_)
    rw [nI_clamp (by omega)] at h4
    have hS := S_put j hS z4 oq (Or.inr z_b2)
    have hP2 := PM_teller (q0 := q0) hP hk13 f0 (by omega) (fun z hz => hA z (Nat.le_trans hS0.1 hz)) (by rw [eq15]; exact h4) (by rw [eq15]; exact oq)
    refine lv_iinc (v := (nI (i + 1))) (lv' := [(1, .int (nI (i + 1))), (0, .ref q)]) hx hb dX7_init_150 hl (k := 0) rfl (nI_1 i) (by decide) rfl (fun ls hl => ?_)
    refine lv_goto (tgt := 131) hx hb dX7_init_153 (by decide) ?_
    exact ih _ _ _ ls hlt ⟨hP2, fun k i2 hk => (congrFun (gx6_e ⟨by omega, trivial⟩) i2).trans (hfix k i2 hk), hS, hl⟩
  obtain rfl : i = 8 := w_exit (by decide : (8 : Int32) = nI 8) hi (by decide) c
  have hO := hP.1 18 0 rfl
  rw [eq18] at hO
  refine lv_aload_n hx hb dX7_init_156 rfl (lv_at hl 1 rfl) ?_
  refine ww_get (v := .ref b3) hx hb hts hinX7 hown hK (ci := 8) hO rfl 2 (by decide) k_21 (fun _ h => h) (by show some (Value.ref (ga g 16 0)) = _; rw [eq16]) dX7_init_157 ?_
  refine lv_iconst (v := (-1)) hx hb dX7_init_160 (by decide) ?_
  have h16 := hP.1 16 0 rfl
  rw [eq16] at h16
  have hP9 := hP
  refine oi_fill (N := 16) (x := (-1)) hC (by decide) h16 hS (Or.inr z_b3) (va_cwS 2 hts gX7_init_J7_fill_53178 rfl rfl rfl (by decide +kernel) ⟨Nat.le_of_ble_eq_true rfl, Nat.le_of_ble_eq_true rfl⟩) hl.1 dX7_init_161 ⟨(Nat.le_of_ble_eq_true rfl), (Nat.le_of_ble_eq_true rfl)⟩ (fun H5 locs h5 hq5 hz5 hS => ?_)
  obtain ⟨p1, p2, p3, p4⟩ := PM_end hP9 hfix (fun z hz hn => hq5 z hz (fun h => hn (h.trans eq16.symm))) (by rw [eq16]; exact h5)
  exact W.vret hx hb hr (fun t9 ht9 hW9 => ⟨⟨g, rfl, ⟨p1, p2, p3, eq18⟩, by dsimp only; rw [ht9]; exact p4⟩, hS.F ht9⟩) hS.2.2 dX7_init_164
