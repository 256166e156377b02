/-! writers of the class, walked -/
set_option maxHeartbeats 4000000 in
set_option maxRecDepth 100000 in
theorem qX7_payClaimsOf (l : Launch) (A : Nat → Prop) (D : va_G) (cy : Nat → ClassId) (g : CWt) (hL : CL A g) (S : St) (e0 : Nat) (hV : CV e0 g S) (s_ : Nat) (hs_ : s_ < nsc S) (k : Nat) (hk : k < nsu S) : CMutV l A D cy g S yX7_payClaimsOf wsX7_payClaimsOf ({ frames := 4, cells := 0, slots := 0, locals := 88 } : Room) [.ref (ga g 18 0), .ref (ga g 5 s_), .ref (ga g 8 k)] (upr S 19 (fX7_payClaimsOf S s_ k)) := by
  refine Met.ofW (cc := cX7_payClaimsOf) (maxL := 6) (ret := none) (by decide) rfl ?_
  intro p e s m args below meth c s₁ B hml hv
  obtain ⟨rfl, hM, hK⟩ := hv
  have hx := B.exec
  have hb := B.bytes
  have hr := B.returns
  have hts := atoms_spec (ws := wsX7_payClaimsOf) B.pre
  have hown : s.vm.findClass RX7 = some m.cls := findClass_of_methodNamed B.named
  have hlocks := B.notSynchronized
  have hC : CC p s m _ c cX7_payClaimsOf 6 RX7 D cy wsX7_payClaimsOf := ⟨⟨hx, hb, hml, hown, hts⟩, hK⟩
  have hI : CI A D cy g s S s.heap [] := ⟨hM, va_S.rf⟩
  have hT := hV.2.1
  have hN := hV.2.2.1
  have hQ := hV.2.2.2
  have hb7 := hN.b7
  have hb15 := hN.b15
  have hb23 := hN.b23
  have hb28 := hN.b28
  have hb42 := hN.b42
  have hb64 := hQ.b64
  have k_32 := hts (.fieldLink RX7 32 "RelatorsBench" "claims" "Ljava/util/ArrayList;") (List.mem_cons_of_mem _ (List.mem_append_left _ (List.mem_append_left _ (List.mem_append_left _ (List.mem_append_left _ (List.mem_append_left _ (List.mem_append_left _ (List.mem_append_left _ (List.mem_of_getElem? (i := 0) rfl)))))))))
  have hinX7 : ∀ w ∈ wsX70, w ∈ wsX7_payClaimsOf := fun _ h => List.mem_cons_of_mem _ (List.mem_append_left _ (List.mem_append_left _ (List.mem_append_left _ (List.mem_append_left _ (List.mem_append_left _ (List.mem_append_right _ (h)))))))
  have k_334 := hts (.fieldLink RX7 334 "RelatorsBench$Suit" "number" "I") (List.mem_cons_of_mem _ (List.mem_append_left _ (List.mem_append_left _ (List.mem_append_left _ (List.mem_append_left _ (List.mem_append_left _ (List.mem_append_left _ (List.mem_append_left _ (List.mem_of_getElem? (i := 2) rfl)))))))))
  have hinX5 : ∀ w ∈ wsX50, w ∈ wsX7_payClaimsOf := fun _ h => List.mem_cons_of_mem _ (List.mem_append_left _ (List.mem_append_left _ (List.mem_append_left _ (List.mem_append_left _ (List.mem_append_right _ (h))))))
  have k_299 := hts (.fieldLink RX7 299 "RelatorsBench$Claim" "paidBy" "I") (List.mem_cons_of_mem _ (List.mem_append_left _ (List.mem_append_left _ (List.mem_append_left _ (List.mem_append_left _ (List.mem_append_left _ (List.mem_append_left _ (List.mem_append_left _ (List.mem_of_getElem? (i := 3) rfl)))))))))
  have hinX0 : ∀ w ∈ wsX00, w ∈ wsX7_payClaimsOf := fun _ h => List.mem_cons_of_mem _ (List.mem_append_left _ (List.mem_append_left _ (List.mem_append_left _ (List.mem_append_right _ (h)))))
  have hl := lv_entry ([.ref (ga g 18 0), .ref (ga g 5 s_), .ref (ga g 8 k)]) (n := 6) (Nat.le_of_ble_eq_true rfl)
  rw [lg_entry_eq]
  generalize (lg_sl ([.ref (ga g 18 0), .ref (ga g 5 s_), .ref (ga g 8 k)]) ++ List.replicate (6 - (lg_sl ([.ref (ga g 18 0), .ref (ga g 5 s_), .ref (ga g 8 k)])).length) Slot.unset).toArray = ls at hl ⊢
  have hl : lv_has ls 6 [(0, .ref (ga g 18 0)), (1, .ref (ga g 5 s_)), (2, .ref (ga g 8 k))] := hl
  have hG : fX7_payClaimsOf S s_ k = fX7_payClaimsOf S s_ k := rfl
  refine lv_aload_n hx hb dX7_payClaimsOf_0 rfl (lv_at hl 2 rfl) ?_
  refine lv_aload_n hx hb dX7_payClaimsOf_1 rfl (lv_at hl 1 rfl) ?_
  refine cr_call (As := [.ref (ga g 5 s_)]) (rest := []) hC hI (qX5_coverDay l D cy g S e0 hV k hk s_ hs_) (cwV 1 hts gX7_payClaimsOf_X5_coverDay rfl rfl rfl (by decide +kernel) ⟨Nat.le_of_ble_eq_true rfl, Nat.le_of_ble_eq_true rfl⟩) (cr_prev (ci := 6) hC hI 8 k (hT.v8 hk) rfl rfl) rfl hl.1 rfl (Nat.le_of_ble_eq_true rfl) dX7_payClaimsOf_2 ⟨Nat.zero_le _, Nat.zero_le _⟩ (fun H locs hI => ?_)
  refine lv_istore_n (lv' := [(3, .int (fX5_coverDay S k s_)), (0, .ref (ga g 18 0)), (1, .ref (ga g 5 s_)), (2, .ref (ga g 8 k))]) hx hb dX7_payClaimsOf_5 rfl hl (by decide) rfl (fun ls hl => ?_)
  refine lv_iconst (v := 0) hx hb dX7_payClaimsOf_6 (by decide) ?_
  refine lv_istore (lv' := [(4, .int 0), (3, .int (fX5_coverDay S k s_)), (0, .ref (ga g 18 0)), (1, .ref (ga g 5 s_)), (2, .ref (ga g 8 k))]) hx hb dX7_payClaimsOf_7 hl (by decide) rfl (fun ls hl => ?_)
  refine w_loop (σ := (Nat → Int32)) (ncl S) 9 (fun i9 z H locs ls => z = lX7_payClaimsOf_9 S s_ k i9 ∧ CI A D cy g s (upr S 19 z) H locs ∧ lv_has ls 6 [(4, .int (nI i9)), (3, .int (fX5_coverDay S k s_)), (0, .ref (ga g 18 0)), (1, .ref (ga g 5 s_)), (2, .ref (ga g 8 k))]) ?_ (S 19) ⟨rfl, (CI_upr hI 19 rfl), lv_sub hl [0, 1, 2, 3, 4] rfl⟩
  intro i9 z H locs ls ⟨hz9, hI, hl⟩ hi9 ih9
  obtain ⟨w9_19, rfl⟩ : ∃ x, x = z := ⟨_, rfl⟩
  refine lv_iload hx hb dX7_payClaimsOf_9 (lv_at hl 0 rfl) ?_
  refine lv_aload_n hx hb dX7_payClaimsOf_11 rfl (lv_at hl 2 rfl) ?_
  refine cr_get (ci := 8) hC hI 18 0 rfl rfl rfl hinX7 4 (by decide) k_32 (fun _ h => h) (v := .ref (ga g 12 1)) rfl dX7_payClaimsOf_12 ?_
  refine cr_size (rest := [.int (nI i9)]) hC hI 12 1 (show 1 < 4 by decide) rfl (cwV 0 hts gX7_payClaimsOf_Jx4a65c_size_8abf5 rfl rfl rfl (by decide +kernel) ⟨Nat.le_of_ble_eq_true rfl, Nat.le_of_ble_eq_true rfl⟩) (qAL_size0 l D cy (ga g 12 1) (ga g 13 1) (gm g 12 1) _) hl.1 (Nat.le_of_ble_eq_true rfl) dX7_payClaimsOf_15 ⟨Nat.zero_le _, Nat.zero_le _⟩ (w := (S 15 0)) (congrFun (upr_ne (by decide)) _) (fun H locs hI => ?_)
  refine lv_icmp_ge (tgt := 60) hx hb dX7_payClaimsOf_18 (by decide) (fun c_1 => ?_) (fun c_1 => ?_)
  · obtain rfl : i9 = ncl S := w_exit hN.n15 hi9 (by have := hN.b15; omega) c_1
    obtain rfl : w9_19 = (lX7_payClaimsOf_9 S s_ k (ncl S)) := by rw [← hz9]
    exact W.vret hx hb hr (fun t9 ht9 hW9 => ⟨⟨(), rfl, trivial, by show CH D cy g _ t9.heap; rw [ht9, hG]; exact hI.1⟩, hI.2.F ht9⟩) hI.2.2.2 dX7_payClaimsOf_60
  · have hlt9 : i9 < ncl S := w_in hN.n15 hi9 (by have := hN.b15; omega) c_1
    have hB9 : iX7_payClaimsOf_9 S s_ k i9 w9_19 = iX7_payClaimsOf_9 S s_ k i9 w9_19 := rfl
    refine lv_aload_n hx hb dX7_payClaimsOf_21 rfl (lv_at hl 2 rfl) ?_
    refine cr_get (ci := 8) hC hI 18 0 rfl rfl rfl hinX7 4 (by decide) k_32 (fun _ h => h) (v := .ref (ga g 12 1)) rfl dX7_payClaimsOf_22 ?_
    refine lv_iload hx hb dX7_payClaimsOf_25 (lv_at hl 0 rfl) ?_
    refine cr_get12 (rest := []) hC hI (hV.congr ⟨rfl, rfl, rfl, rfl, rfl, rfl, rfl, rfl, rfl, rfl, rfl, rfl, rfl, rfl⟩ ⟨rfl, rfl⟩) 1 (by decide) rfl (n := i9) (hT.v6 hlt9) (cwV 1 hts gX7_payClaimsOf_Jx4a65c_get_915e3 rfl rfl rfl (by decide +kernel) ⟨Nat.le_of_ble_eq_true rfl, Nat.le_of_ble_eq_true rfl⟩) hl.1 (Nat.le_of_ble_eq_true rfl) dX7_payClaimsOf_27 ⟨Nat.zero_le _, Nat.zero_le _⟩ (fun H locs hI => ?_)
    refine cr_cast (ci := 1) hC hI 6 i9 (hT.v6 hlt9) rfl rfl (hts (.classLink RX7 103 "RelatorsBench$Claim") (List.mem_cons_of_mem _ (List.mem_append_left _ (List.mem_append_left _ (List.mem_append_left _ (List.mem_append_left _ (List.mem_append_left _ (List.mem_append_left _ (List.mem_append_left _ (List.mem_of_getElem? (i := 1) rfl)))))))))) dX7_payClaimsOf_30 ?_
    refine lv_astore (lv' := [(5, .ref (ga g 6 i9)), (4, .int (nI i9)), (3, .int (fX5_coverDay S k s_)), (0, .ref (ga g 18 0)), (1, .ref (ga g 5 s_)), (2, .ref (ga g 8 k))]) hx hb dX7_payClaimsOf_33 hl (by decide) rfl (fun ls hl => ?_)
    refine lv_aload hx hb dX7_payClaimsOf_35 (lv_at hl 0 rfl) ?_
    refine lv_aload_n hx hb dX7_payClaimsOf_37 rfl (lv_at hl 4 rfl) ?_
    refine lv_iload_n hx hb dX7_payClaimsOf_38 rfl (lv_at hl 2 rfl) ?_
    refine cr_callSP (As := [.ref (ga g 6 i9), .ref (ga g 5 s_), .int (fX5_coverDay S k s_)]) (rest := []) hC hI (qX7_counts l D cy g (upr S 19 w9_19) e0 (hV.congr ⟨rfl, rfl, rfl, rfl, rfl, rfl, rfl, rfl, rfl, rfl, rfl, rfl, rfl, rfl⟩ ⟨rfl, rfl⟩) i9 hlt9 s_ hs_ (fX5_coverDay S k s_)) (va_cwS 3 hts gX7_payClaimsOf_X7_counts rfl rfl rfl (by decide +kernel) ⟨Nat.le_of_ble_eq_true rfl, Nat.le_of_ble_eq_true rfl⟩) rfl hl.1 rfl (Nat.le_of_ble_eq_true rfl) dX7_payClaimsOf_39 ⟨Nat.zero_le _, Nat.zero_le _⟩ (fun H locs hI => ?_)
    refine lv_if_eq (tgt := 54) hx hb dX7_payClaimsOf_42 (by decide) (fun c_2 => ?_) (fun c_2 => ?_)
    · have hB9 := hB9.trans (if_pos c_2)
      refine lv_iinc (v := (nI (i9 + 1))) (lv' := [(4, .int (nI (i9 + 1))), (5, .ref (ga g 6 i9)), (3, .int (fX5_coverDay S k s_)), (0, .ref (ga g 18 0)), (1, .ref (ga g 5 s_)), (2, .ref (ga g 8 k))]) hx hb dX7_payClaimsOf_54 hl (k := 1) rfl (nI_1 i9) (by decide) rfl (fun ls hl => ?_)
      refine lv_goto (tgt := 9) hx hb dX7_payClaimsOf_57 (by decide) ?_
      exact ih9 w9_19 _ _ ls hlt9 ⟨(by show _ = iX7_payClaimsOf_9 S s_ k i9 (lX7_payClaimsOf_9 S s_ k i9); rw [← hz9]; exact hB9.symm), hI, lv_sub hl [0, 2, 3, 4, 5] rfl⟩
    · have hB9 := hB9.trans (if_neg c_2)
      refine lv_aload hx hb dX7_payClaimsOf_45 (lv_at hl 0 rfl) ?_
      refine lv_aload_n hx hb dX7_payClaimsOf_47 rfl (lv_at hl 5 rfl) ?_
      refine cr_get (ci := 6) hC hI 8 k (hT.v8 hk) rfl rfl hinX5 0 (by decide) k_334 (fun _ h => h) (v := .int (nI k)) rfl dX7_payClaimsOf_48 ?_
      refine cr_put (ci := 1) (v := .int (nI k)) (ty := .int) (S' := (up (upr S 19 w9_19) 19 i9 (nI k))) hC hL hI 6 i9 (hT.v6 hlt9) rfl rfl hinX0 tyX0 tyX0_ok nmX0 3 (by decide) k_299 (fun _ h => h) rfl (by decide +kernel) rfl rfl (Nat.le_of_ble_eq_true rfl) (cn_19 i9 _) (cu_19 i9 _) dX7_payClaimsOf_51 (fun H locs hI => ?_)
      refine lv_iinc (v := (nI (i9 + 1))) (lv' := [(4, .int (nI (i9 + 1))), (5, .ref (ga g 6 i9)), (3, .int (fX5_coverDay S k s_)), (0, .ref (ga g 18 0)), (1, .ref (ga g 5 s_)), (2, .ref (ga g 8 k))]) hx hb dX7_payClaimsOf_54 hl (k := 1) rfl (nI_1 i9) (by decide) rfl (fun ls hl => ?_)
      refine lv_goto (tgt := 9) hx hb dX7_payClaimsOf_57 (by decide) ?_
      exact ih9 (upd w9_19 i9 (nI k)) _ _ ls hlt9 ⟨(by show _ = iX7_payClaimsOf_9 S s_ k i9 (lX7_payClaimsOf_9 S s_ k i9); rw [← hz9]; exact hB9.symm), (CI_eq hI (upr_up _ _ _ _ _)), lv_sub hl [0, 2, 3, 4, 5] rfl⟩
set_option maxHeartbeats 4000000 in
set_option maxRecDepth 100000 in
theorem qX7_payClaims (l : Launch) (A : Nat → Prop) (D : va_G) (cy : Nat → ClassId) (g : CWt) (hL : CL A g) (S : St) (e0 : Nat) (hV : CV e0 g S) (k : Nat) (hk : k < nsu S) : CMutV l A D cy g S yX7_payClaims wsX7_payClaims ({ frames := 6, cells := 0, slots := 0, locals := 137 } : Room) [.ref (ga g 18 0), .ref (ga g 8 k)] (upr S 19 (fX7_payClaims S k)) := by
  refine Met.ofW (cc := cX7_payClaims) (maxL := 4) (ret := none) (by decide) rfl ?_
  intro p e s m args below meth c s₁ B hml hv
  obtain ⟨rfl, hM, hK⟩ := hv
  have hx := B.exec
  have hb := B.bytes
  have hr := B.returns
  have hts := atoms_spec (ws := wsX7_payClaims) B.pre
  have hown : s.vm.findClass RX7 = some m.cls := findClass_of_methodNamed B.named
  have hlocks := B.notSynchronized
  have hC : CC p s m _ c cX7_payClaims 4 RX7 D cy wsX7_payClaims := ⟨⟨hx, hb, hml, hown, hts⟩, hK⟩
  have hI : CI A D cy g s S s.heap [] := ⟨hM, va_S.rf⟩
  have hT := hV.2.1
  have hN := hV.2.2.1
  have hQ := hV.2.2.2
  have hb7 := hN.b7
  have hb15 := hN.b15
  have hb23 := hN.b23
  have hb28 := hN.b28
  have hb42 := hN.b42
  have hb64 := hQ.b64
  have k_28 := hts (.fieldLink RX7 28 "RelatorsBench" "schemes" "Ljava/util/ArrayList;") (List.mem_cons_of_mem _ (List.mem_append_left _ (List.mem_append_left _ (List.mem_append_left _ (List.mem_append_left _ (List.mem_append_left _ (List.mem_append_left _ (List.mem_append_left _ (List.mem_of_getElem? (i := 0) rfl)))))))))
  have hinX7 : ∀ w ∈ wsX70, w ∈ wsX7_payClaims := fun _ h => List.mem_cons_of_mem _ (List.mem_append_left _ (List.mem_append_left _ (List.mem_append_left _ (List.mem_append_left _ (List.mem_append_left _ (List.mem_append_right _ (h)))))))
  have hl := lv_entry ([.ref (ga g 18 0), .ref (ga g 8 k)]) (n := 4) (Nat.le_of_ble_eq_true rfl)
  rw [lg_entry_eq]
  generalize (lg_sl ([.ref (ga g 18 0), .ref (ga g 8 k)]) ++ List.replicate (4 - (lg_sl ([.ref (ga g 18 0), .ref (ga g 8 k)])).length) Slot.unset).toArray = ls at hl ⊢
  have hl : lv_has ls 4 [(0, .ref (ga g 18 0)), (1, .ref (ga g 8 k))] := hl
  have hG : fX7_payClaims S k = fX7_payClaims S k := rfl
  refine lv_iconst (v := 0) hx hb dX7_payClaims_0 (by decide) ?_
  refine lv_istore_n (lv' := [(2, .int 0), (0, .ref (ga g 18 0)), (1, .ref (ga g 8 k))]) hx hb dX7_payClaims_1 rfl hl (by decide) rfl (fun ls hl => ?_)
  refine w_loop (σ := (Nat → Int32)) (nsc S) 2 (fun i2 z H locs ls => z = lX7_payClaims_2 S k i2 ∧ CI A D cy g s (upr S 19 z) H locs ∧ lv_has ls 4 [(2, .int (nI i2)), (0, .ref (ga g 18 0)), (1, .ref (ga g 8 k))]) ?_ (S 19) ⟨rfl, (CI_upr hI 19 rfl), lv_sub hl [0, 1, 2] rfl⟩
  intro i2 z H locs ls ⟨hz2, hI, hl⟩ hi2 ih2
  obtain ⟨w2_19, rfl⟩ : ∃ x, x = z := ⟨_, rfl⟩
  refine lv_iload_n hx hb dX7_payClaims_2 rfl (lv_at hl 0 rfl) ?_
  refine lv_aload_n hx hb dX7_payClaims_3 rfl (lv_at hl 1 rfl) ?_
  refine cr_get (ci := 8) hC hI 18 0 rfl rfl rfl hinX7 3 (by decide) k_28 (fun _ h => h) (v := .ref (ga g 12 0)) rfl dX7_payClaims_4 ?_
  refine cr_size (rest := [.int (nI i2)]) hC hI 12 0 (show 0 < 4 by decide) rfl (cwV 0 hts gX7_payClaims_Jx4a65c_size_8abf5 rfl rfl rfl (by decide +kernel) ⟨Nat.le_of_ble_eq_true rfl, Nat.le_of_ble_eq_true rfl⟩) (qAL_size0 l D cy (ga g 12 0) (ga g 13 0) (gm g 12 0) _) hl.1 (Nat.le_of_ble_eq_true rfl) dX7_payClaims_7 ⟨Nat.zero_le _, Nat.zero_le _⟩ (w := (S 7 0)) (congrFun (upr_ne (by decide)) _) (fun H locs hI => ?_)
  refine lv_icmp_ge (tgt := 46) hx hb dX7_payClaims_10 (by decide) (fun c_1 => ?_) (fun c_1 => ?_)
  · obtain rfl : i2 = nsc S := w_exit hN.n7 hi2 (by have := hN.b7; omega) c_1
    obtain rfl : w2_19 = (lX7_payClaims_2 S k (nsc S)) := by rw [← hz2]
    exact W.vret hx hb hr (fun t9 ht9 hW9 => ⟨⟨(), rfl, trivial, by show CH D cy g _ t9.heap; rw [ht9, hG]; exact hI.1⟩, hI.2.F ht9⟩) hI.2.2.2 dX7_payClaims_46
  · have hlt2 : i2 < nsc S := w_in hN.n7 hi2 (by have := hN.b7; omega) c_1
    have hB2 : iX7_payClaims_2 S k i2 w2_19 = iX7_payClaims_2 S k i2 w2_19 := rfl
    refine lv_aload_n hx hb dX7_payClaims_13 rfl (lv_at hl 1 rfl) ?_
    refine cr_get (ci := 8) hC hI 18 0 rfl rfl rfl hinX7 3 (by decide) k_28 (fun _ h => h) (v := .ref (ga g 12 0)) rfl dX7_payClaims_14 ?_
    refine lv_iload_n hx hb dX7_payClaims_17 rfl (lv_at hl 0 rfl) ?_
    refine cr_get12 (rest := []) hC hI (hV.congr ⟨rfl, rfl, rfl, rfl, rfl, rfl, rfl, rfl, rfl, rfl, rfl, rfl, rfl, rfl⟩ ⟨rfl, rfl⟩) 0 (by decide) rfl (n := i2) (hT.v5 hlt2) (cwV 1 hts gX7_payClaims_Jx4a65c_get_915e3 rfl rfl rfl (by decide +kernel) ⟨Nat.le_of_ble_eq_true rfl, Nat.le_of_ble_eq_true rfl⟩) hl.1 (Nat.le_of_ble_eq_true rfl) dX7_payClaims_18 ⟨Nat.zero_le _, Nat.zero_le _⟩ (fun H locs hI => ?_)
    refine cr_cast (ci := 5) hC hI 5 i2 (hT.v5 hlt2) rfl rfl (hts (.classLink RX7 94 "RelatorsBench$Scheme") (List.mem_cons_of_mem _ (List.mem_append_left _ (List.mem_append_left _ (List.mem_append_left _ (List.mem_append_left _ (List.mem_append_left _ (List.mem_append_left _ (List.mem_append_left _ (List.mem_of_getElem? (i := 1) rfl)))))))))) dX7_payClaims_21 ?_
    refine lv_astore_n (lv' := [(3, .ref (ga g 5 i2)), (2, .int (nI i2)), (0, .ref (ga g 18 0)), (1, .ref (ga g 8 k))]) hx hb dX7_payClaims_24 rfl hl (by decide) rfl (fun ls hl => ?_)
    refine lv_aload_n hx hb dX7_payClaims_25 rfl (lv_at hl 2 rfl) ?_
    refine lv_aload_n hx hb dX7_payClaims_26 rfl (lv_at hl 3 rfl) ?_
    refine lv_aload_n hx hb dX7_payClaims_27 rfl (lv_at hl 0 rfl) ?_
    refine cr_call (As := [.ref (ga g 8 k), .ref (ga g 5 i2)]) (rest := []) hC hI (qX7_barOf l D cy g (upr S 19 w2_19) e0 (hV.congr ⟨rfl, rfl, rfl, rfl, rfl, rfl, rfl, rfl, rfl, rfl, rfl, rfl, rfl, rfl⟩ ⟨rfl, rfl⟩) k hk i2 hlt2) (cwV 2 hts gX7_payClaims_X7_barOf rfl rfl rfl (by decide +kernel) ⟨Nat.le_of_ble_eq_true rfl, Nat.le_of_ble_eq_true rfl⟩) (cr_prev (ci := 8) hC hI 18 0 rfl rfl rfl) rfl hl.1 rfl (Nat.le_of_ble_eq_true rfl) dX7_payClaims_28 ⟨Nat.zero_le _, Nat.zero_le _⟩ (fun H locs hI => ?_)
    refine lv_if_ne (tgt := 40) hx hb dX7_payClaims_31 (by decide) (fun c_2 => ?_) (fun c_2 => ?_)
    · have hB2 := hB2.trans (if_neg c_2)
      refine lv_iinc (v := (nI (i2 + 1))) (lv' := [(2, .int (nI (i2 + 1))), (3, .ref (ga g 5 i2)), (0, .ref (ga g 18 0)), (1, .ref (ga g 8 k))]) hx hb dX7_payClaims_40 hl (k := 1) rfl (nI_1 i2) (by decide) rfl (fun ls hl => ?_)
      refine lv_goto (tgt := 2) hx hb dX7_payClaims_43 (by decide) ?_
      exact ih2 w2_19 _ _ ls hlt2 ⟨(by show _ = iX7_payClaims_2 S k i2 (lX7_payClaims_2 S k i2); rw [← hz2]; exact hB2.symm), hI, lv_sub hl [0, 2, 3] rfl⟩
    · have hB2 := hB2.trans (if_pos c_2)
      refine lv_aload_n hx hb dX7_payClaims_34 rfl (lv_at hl 2 rfl) ?_
      refine lv_aload_n hx hb dX7_payClaims_35 rfl (lv_at hl 0 rfl) ?_
      refine lv_aload_n hx hb dX7_payClaims_36 rfl (lv_at hl 3 rfl) ?_
      refine cr_callMV (As := [.ref (ga g 5 i2), .ref (ga g 8 k)]) (rest := []) hC hI (qX7_payClaimsOf l A D cy g hL (upr S 19 w2_19) e0 (hV.congr ⟨rfl, rfl, rfl, rfl, rfl, rfl, rfl, rfl, rfl, rfl, rfl, rfl, rfl, rfl⟩ ⟨rfl, rfl⟩) i2 hlt2 k hk) (cwV 2 hts gX7_payClaims_X7_payClaimsOf rfl rfl rfl (by decide +kernel) ⟨Nat.le_of_ble_eq_true rfl, Nat.le_of_ble_eq_true rfl⟩) (cr_prev (ci := 8) hC hI 18 0 rfl rfl rfl) rfl hl.1 rfl (Nat.le_of_ble_eq_true rfl) dX7_payClaims_37 ⟨Nat.zero_le _, Nat.zero_le _⟩ (fun H locs hI => ?_)
      refine lv_iinc (v := (nI (i2 + 1))) (lv' := [(2, .int (nI (i2 + 1))), (3, .ref (ga g 5 i2)), (0, .ref (ga g 18 0)), (1, .ref (ga g 8 k))]) hx hb dX7_payClaims_40 hl (k := 1) rfl (nI_1 i2) (by decide) rfl (fun ls hl => ?_)
      refine lv_goto (tgt := 2) hx hb dX7_payClaims_43 (by decide) ?_
      exact ih2 (fX7_payClaimsOf (upr S 19 w2_19) i2 k) _ _ ls hlt2 ⟨(by show _ = iX7_payClaims_2 S k i2 (lX7_payClaims_2 S k i2); rw [← hz2]; exact hB2.symm), (CI_eq hI (upr_upr _ _ _ _)), lv_sub hl [0, 2, 3] rfl⟩
set_option maxHeartbeats 4000000 in
set_option maxRecDepth 100000 in
theorem qX7_partShare (l : Launch) (A : Nat → Prop) (D : va_G) (cy : Nat → ClassId) (g : CWt) (hL : CL A g) (S : St) (e0 : Nat) (hV : CV e0 g S) (k : Nat) (hk : k < nsu S) : CMutV l A D cy g S yX7_partShare wsX7_partShare ({ frames := 3, cells := 0, slots := 0, locals := 64 } : Room) [.ref (ga g 18 0), .ref (ga g 8 k)] (fX7_partShare S k) := by
  refine Met.ofW (cc := cX7_partShare) (maxL := 6) (ret := none) (by decide) rfl ?_
  intro p e s m args below meth c s₁ B hml hv
  obtain ⟨rfl, hM, hK⟩ := hv
  have hx := B.exec
  have hb := B.bytes
  have hr := B.returns
  have hts := atoms_spec (ws := wsX7_partShare) B.pre
  have hown : s.vm.findClass RX7 = some m.cls := findClass_of_methodNamed B.named
  have hlocks := B.notSynchronized
  have hC : CC p s m _ c cX7_partShare 6 RX7 D cy wsX7_partShare := ⟨⟨hx, hb, hml, hown, hts⟩, hK⟩
  have hI : CI A D cy g s S s.heap [] := ⟨hM, va_S.rf⟩
  have hT := hV.2.1
  have hN := hV.2.2.1
  have hQ := hV.2.2.2
  have hb7 := hN.b7
  have hb15 := hN.b15
  have hb23 := hN.b23
  have hb28 := hN.b28
  have hb42 := hN.b42
  have hb64 := hQ.b64
  have k_227 := hts (.fieldLink RX7 227 "RelatorsBench$Suit" "share" "I") (List.mem_cons_of_mem _ (List.mem_append_left _ (List.mem_append_left _ (List.mem_append_left _ (List.mem_append_left _ (List.mem_append_left _ (List.mem_append_left _ (List.mem_append_left _ (List.mem_of_getElem? (i := 0) rfl)))))))))
  have hinX5 : ∀ w ∈ wsX50, w ∈ wsX7_partShare := fun _ h => List.mem_cons_of_mem _ (List.mem_append_left _ (List.mem_append_left _ (List.mem_append_left _ (List.mem_append_left _ (List.mem_append_left _ (List.mem_append_right _ (h)))))))
  have k_35 := hts (.fieldLink RX7 35 "RelatorsBench" "deals" "Ljava/util/ArrayList;") (List.mem_cons_of_mem _ (List.mem_append_left _ (List.mem_append_left _ (List.mem_append_left _ (List.mem_append_left _ (List.mem_append_left _ (List.mem_append_left _ (List.mem_append_left _ (List.mem_of_getElem? (i := 1) rfl)))))))))
  have hinX7 : ∀ w ∈ wsX70, w ∈ wsX7_partShare := fun _ h => List.mem_cons_of_mem _ (List.mem_append_left _ (List.mem_append_left _ (List.mem_append_left _ (List.mem_append_left _ (List.mem_append_right _ (h))))))
  have k_179 := hts (.fieldLink RX7 179 "RelatorsBench$Suit" "teller" "I") (List.mem_cons_of_mem _ (List.mem_append_left _ (List.mem_append_left _ (List.mem_append_left _ (List.mem_append_left _ (List.mem_append_left _ (List.mem_append_left _ (List.mem_append_left _ (List.mem_of_getElem? (i := 4) rfl)))))))))
  have k_304 := hts (.fieldLink RX7 304 "RelatorsBench$Teller" "ownShares" "I") (List.mem_cons_of_mem _ (List.mem_append_left _ (List.mem_append_left _ (List.mem_append_left _ (List.mem_append_left _ (List.mem_append_left _ (List.mem_append_left _ (List.mem_append_left _ (List.mem_of_getElem? (i := 10) rfl)))))))))
  have hinX6 : ∀ w ∈ wsX60, w ∈ wsX7_partShare := fun _ h => List.mem_cons_of_mem _ (List.mem_append_left _ (List.mem_append_left _ (List.mem_append_right _ (h))))
  have k_376 := hts (.fieldLink RX7 376 "RelatorsBench$Deal" "teller" "I") (List.mem_cons_of_mem _ (List.mem_append_left _ (List.mem_append_left _ (List.mem_append_left _ (List.mem_append_left _ (List.mem_append_left _ (List.mem_append_left _ (List.mem_append_left _ (List.mem_of_getElem? (i := 3) rfl)))))))))
  have hinX1 : ∀ w ∈ wsX10, w ∈ wsX7_partShare := fun _ h => List.mem_cons_of_mem _ (List.mem_append_left _ (List.mem_append_left _ (List.mem_append_left _ (List.mem_append_right _ (h)))))
  have k_377 := hts (.fieldLink RX7 377 "RelatorsBench$Deal" "day" "I") (List.mem_cons_of_mem _ (List.mem_append_left _ (List.mem_append_left _ (List.mem_append_left _ (List.mem_append_left _ (List.mem_append_left _ (List.mem_append_left _ (List.mem_append_left _ (List.mem_of_getElem? (i := 5) rfl)))))))))
  have k_273 := hts (.fieldLink RX7 273 "RelatorsBench$Suit" "filedOn" "I") (List.mem_cons_of_mem _ (List.mem_append_left _ (List.mem_append_left _ (List.mem_append_left _ (List.mem_append_left _ (List.mem_append_left _ (List.mem_append_left _ (List.mem_append_left _ (List.mem_of_getElem? (i := 6) rfl)))))))))
  have k_378 := hts (.fieldLink RX7 378 "RelatorsBench$Deal" "hundredths" "I") (List.mem_cons_of_mem _ (List.mem_append_left _ (List.mem_append_left _ (List.mem_append_left _ (List.mem_append_left _ (List.mem_append_left _ (List.mem_append_left _ (List.mem_append_left _ (List.mem_of_getElem? (i := 7) rfl)))))))))
  have k_379 := hts (.fieldLink RX7 379 "RelatorsBench$Deal" "other" "I") (List.mem_cons_of_mem _ (List.mem_append_left _ (List.mem_append_left _ (List.mem_append_left _ (List.mem_append_left _ (List.mem_append_left _ (List.mem_append_left _ (List.mem_append_left _ (List.mem_of_getElem? (i := 8) rfl)))))))))
  have k_307 := hts (.fieldLink RX7 307 "RelatorsBench$Teller" "parts" "I") (List.mem_cons_of_mem _ (List.mem_append_left _ (List.mem_append_left _ (List.mem_append_left _ (List.mem_append_left _ (List.mem_append_left _ (List.mem_append_left _ (List.mem_append_left _ (List.mem_of_getElem? (i := 9) rfl)))))))))
  have hl := lv_entry ([.ref (ga g 18 0), .ref (ga g 8 k)]) (n := 6) (Nat.le_of_ble_eq_true rfl)
  rw [lg_entry_eq]
  generalize (lg_sl ([.ref (ga g 18 0), .ref (ga g 8 k)]) ++ List.replicate (6 - (lg_sl ([.ref (ga g 18 0), .ref (ga g 8 k)])).length) Slot.unset).toArray = ls at hl ⊢
  have hl : lv_has ls 6 [(0, .ref (ga g 18 0)), (1, .ref (ga g 8 k))] := hl
  have hG : fX7_partShare S k = fX7_partShare S k := rfl
  refine lv_aload_n hx hb dX7_partShare_0 rfl (lv_at hl 1 rfl) ?_
  refine cr_get (ci := 6) hC hI 8 k (hT.v8 hk) rfl rfl hinX5 13 (by decide) k_227 (fun _ h => h) (v := .int (S 40 k)) rfl dX7_partShare_1 ?_
  refine lv_istore_n (lv' := [(2, .int (S 40 k)), (0, .ref (ga g 18 0)), (1, .ref (ga g 8 k))]) hx hb dX7_partShare_4 rfl hl (by decide) rfl (fun ls hl => ?_)
  refine lv_iconst (v := 0) hx hb dX7_partShare_5 (by decide) ?_
  refine lv_istore_n (lv' := [(3, .int 0), (2, .int (S 40 k)), (0, .ref (ga g 18 0)), (1, .ref (ga g 8 k))]) hx hb dX7_partShare_6 rfl hl (by decide) rfl (fun ls hl => ?_)
  refine w_loop (σ := Int32 × (Nat → Int32)) (ndl S) 7 (fun i7 z H locs ls => z = lX7_partShare_7 S k i7 ∧ CI A D cy g s (upr S 47 z.2) H locs ∧ lv_has ls 6 [(3, .int (nI i7)), (2, .int z.1), (0, .ref (ga g 18 0)), (1, .ref (ga g 8 k))]) ?_ (S 40 k, (S 47)) ⟨rfl, (CI_upr hI 47 rfl), lv_sub hl [0, 1, 2, 3] rfl⟩
  intro i7 z H locs ls ⟨hz7, hI, hl⟩ hi7 ih7
  obtain ⟨x7_2, w7_47⟩ := z
  dsimp only at hI hl hz7
  refine lv_iload_n hx hb dX7_partShare_7 rfl (lv_at hl 0 rfl) ?_
  refine lv_aload_n hx hb dX7_partShare_8 rfl (lv_at hl 2 rfl) ?_
  refine cr_get (ci := 8) hC hI 18 0 rfl rfl rfl hinX7 5 (by decide) k_35 (fun _ h => h) (v := .ref (ga g 12 2)) rfl dX7_partShare_9 ?_
  refine cr_size (rest := [.int (nI i7)]) hC hI 12 2 (show 2 < 4 by decide) rfl (cwV 0 hts gX7_partShare_Jx4a65c_size_8abf5 rfl rfl rfl (by decide +kernel) ⟨Nat.le_of_ble_eq_true rfl, Nat.le_of_ble_eq_true rfl⟩) (qAL_size0 l D cy (ga g 12 2) (ga g 13 2) (gm g 12 2) _) hl.1 (Nat.le_of_ble_eq_true rfl) dX7_partShare_12 ⟨Nat.zero_le _, Nat.zero_le _⟩ (w := (S 23 0)) (congrFun (upr_ne (by decide)) _) (fun H locs hI => ?_)
  refine lv_icmp_ge (tgt := 99) hx hb dX7_partShare_15 (by decide) (fun c_1 => ?_) (fun c_1 => ?_)
  · obtain rfl : i7 = ndl S := w_exit hN.n23 hi7 (by have := hN.b23; omega) c_1
    obtain rfl : x7_2 = (lX7_partShare_7 S k (ndl S)).1 := by rw [← hz7]
    obtain rfl : w7_47 = (lX7_partShare_7 S k (ndl S)).2 := by rw [← hz7]
    refine lv_aload_n hx hb dX7_partShare_99 rfl (lv_at hl 2 rfl) ?_
    refine lv_aload_n hx hb dX7_partShare_100 rfl (lv_at hl 3 rfl) ?_
    refine cr_get (ci := 6) hC hI 8 k (hT.v8 hk) rfl rfl hinX5 1 (by decide) k_179 (fun _ h => h) (v := .int (S 29 k)) (congrArg (fun z => some (Value.int z)) (congrFun (upr_ne (by decide)) _)) dX7_partShare_101 ?_
    refine cr_callR (As := [.int (S 29 k)]) (rest := []) hC hI (qX7_tellerAt l D cy g (upr S 47 ((lX7_partShare_7 S k (ndl S)).2)) e0 (hV.congr ⟨rfl, rfl, rfl, rfl, rfl, rfl, rfl, rfl, rfl, rfl, rfl, rfl, rfl, rfl⟩ ⟨rfl, rfl⟩) (S 29 k) (okI_8 (hN.v29 k))) (cwV 1 hts gX7_partShare_X7_tellerAt rfl rfl rfl (by decide +kernel) ⟨Nat.le_of_ble_eq_true rfl, Nat.le_of_ble_eq_true rfl⟩) (cr_prev (ci := 8) hC hI 18 0 rfl rfl rfl) rfl hl.1 rfl (Nat.le_of_ble_eq_true rfl) dX7_partShare_104 ⟨Nat.zero_le _, Nat.zero_le _⟩ (fun H locs hI => ?_)
    refine lv_dup hx hb dX7_partShare_107 rfl ?_
    refine cr_get (ci := 7) hC hI 4 (ix (S 29 k)) (okI_l (N := 8) (okI_8 (hN.v29 k)) (by decide) (by decide)) rfl rfl hinX6 4 (by decide) k_304 (fun _ h => h) (v := .int (S 46 (ix (S 29 k)))) (congrArg (fun z => some (Value.int z)) (congrFun (upr_ne (by decide)) _)) dX7_partShare_108 ?_
    refine lv_iload_n hx hb dX7_partShare_111 rfl (lv_at hl 1 rfl) ?_
    refine lv_iadd hx hb dX7_partShare_112 ?_
    refine cr_put (ci := 7) (v := .int ((S 46 (ix (S 29 k))) + ((lX7_partShare_7 S k (ndl S)).1))) (ty := .int) (S' := (up (upr S 47 ((lX7_partShare_7 S k (ndl S)).2)) 46 (ix (S 29 k)) ((S 46 (ix (S 29 k))) + ((lX7_partShare_7 S k (ndl S)).1)))) hC hL hI 4 (ix (S 29 k)) (okI_l (N := 8) (okI_8 (hN.v29 k)) (by decide) (by decide)) rfl rfl hinX6 tyX6 tyX6_ok nmX6 4 (by decide) k_304 (fun _ h => h) rfl (by decide +kernel) rfl rfl (Nat.le_of_ble_eq_true rfl) (cn_46 (ix (S 29 k)) _) (cu_46 (ix (S 29 k)) _) dX7_partShare_113 (fun H locs hI => ?_)
    exact W.vret hx hb hr (fun t9 ht9 hW9 => ⟨⟨(), rfl, trivial, by show CH D cy g _ t9.heap; rw [ht9, hG]; exact hI.1⟩, hI.2.F ht9⟩) hI.2.2.2 dX7_partShare_116
  · have hlt7 : i7 < ndl S := w_in hN.n23 hi7 (by have := hN.b23; omega) c_1
    have hB7 : iX7_partShare_7 S k i7 x7_2 w7_47 = iX7_partShare_7 S k i7 x7_2 w7_47 := rfl
    refine lv_aload_n hx hb dX7_partShare_18 rfl (lv_at hl 2 rfl) ?_
    refine cr_get (ci := 8) hC hI 18 0 rfl rfl rfl hinX7 5 (by decide) k_35 (fun _ h => h) (v := .ref (ga g 12 2)) rfl dX7_partShare_19 ?_
    refine lv_iload_n hx hb dX7_partShare_22 rfl (lv_at hl 0 rfl) ?_
    refine cr_get12 (rest := []) hC hI (hV.congr ⟨rfl, rfl, rfl, rfl, rfl, rfl, rfl, rfl, rfl, rfl, rfl, rfl, rfl, rfl⟩ ⟨rfl, rfl⟩) 2 (by decide) rfl (n := i7) (hT.v7 hlt7) (cwV 1 hts gX7_partShare_Jx4a65c_get_915e3 rfl rfl rfl (by decide +kernel) ⟨Nat.le_of_ble_eq_true rfl, Nat.le_of_ble_eq_true rfl⟩) hl.1 (Nat.le_of_ble_eq_true rfl) dX7_partShare_23 ⟨Nat.zero_le _, Nat.zero_le _⟩ (fun H locs hI => ?_)
    refine cr_cast (ci := 2) hC hI 7 i7 (hT.v7 hlt7) rfl rfl (hts (.classLink RX7 157 "RelatorsBench$Deal") (List.mem_cons_of_mem _ (List.mem_append_left _ (List.mem_append_left _ (List.mem_append_left _ (List.mem_append_left _ (List.mem_append_left _ (List.mem_append_left _ (List.mem_append_left _ (List.mem_of_getElem? (i := 2) rfl)))))))))) dX7_partShare_26 ?_
    refine lv_astore (lv' := [(4, .ref (ga g 7 i7)), (3, .int (nI i7)), (2, .int x7_2), (0, .ref (ga g 18 0)), (1, .ref (ga g 8 k))]) hx hb dX7_partShare_29 hl (by decide) rfl (fun ls hl => ?_)
    refine lv_aload hx hb dX7_partShare_31 (lv_at hl 0 rfl) ?_
    refine cr_get (ci := 2) hC hI 7 i7 (hT.v7 hlt7) rfl rfl hinX1 0 (by decide) k_376 (fun _ h => h) (v := .int (S 24 i7)) (congrArg (fun z => some (Value.int z)) (congrFun (upr_ne (by decide)) _)) dX7_partShare_33 ?_
    refine lv_aload_n hx hb dX7_partShare_36 rfl (lv_at hl 4 rfl) ?_
    refine cr_get (ci := 6) hC hI 8 k (hT.v8 hk) rfl rfl hinX5 1 (by decide) k_179 (fun _ h => h) (v := .int (S 29 k)) (congrArg (fun z => some (Value.int z)) (congrFun (upr_ne (by decide)) _)) dX7_partShare_37 ?_
    refine lv_icmp_ne (tgt := 93) hx hb dX7_partShare_40 (by decide) (fun c_2 => ?_) (fun c_2 => ?_)
    · have hB7 := hB7.trans (if_neg c_2)
      refine lv_iinc (v := (nI (i7 + 1))) (lv' := [(3, .int (nI (i7 + 1))), (4, .ref (ga g 7 i7)), (2, .int x7_2), (0, .ref (ga g 18 0)), (1, .ref (ga g 8 k))]) hx hb dX7_partShare_93 hl (k := 1) rfl (nI_1 i7) (by decide) rfl (fun ls hl => ?_)
      refine lv_goto (tgt := 7) hx hb dX7_partShare_96 (by decide) ?_
      exact ih7 (x7_2, w7_47) _ _ ls hlt7 ⟨(by show _ = iX7_partShare_7 S k i7 (lX7_partShare_7 S k i7).1 (lX7_partShare_7 S k i7).2; rw [← hz7]; exact hB7.symm), hI, lv_sub hl [0, 2, 3, 4] rfl⟩
    · have hB7 := hB7.trans (if_pos c_2)
      refine lv_aload hx hb dX7_partShare_43 (lv_at hl 0 rfl) ?_
      refine cr_get (ci := 2) hC hI 7 i7 (hT.v7 hlt7) rfl rfl hinX1 3 (by decide) k_377 (fun _ h => h) (v := .int (S 27 i7)) (congrArg (fun z => some (Value.int z)) (congrFun (upr_ne (by decide)) _)) dX7_partShare_45 ?_
      refine lv_aload_n hx hb dX7_partShare_48 rfl (lv_at hl 4 rfl) ?_
      refine cr_get (ci := 6) hC hI 8 k (hT.v8 hk) rfl rfl hinX5 4 (by decide) k_273 (fun _ h => h) (v := .int (S 33 k)) (congrArg (fun z => some (Value.int z)) (congrFun (upr_ne (by decide)) _)) dX7_partShare_49 ?_
      refine lv_icmp_ge (tgt := 93) hx hb dX7_partShare_52 (by decide) (fun c_3 => ?_) (fun c_3 => ?_)
      · have hB7 := hB7.trans (if_pos c_3)
        refine lv_iinc (v := (nI (i7 + 1))) (lv' := [(3, .int (nI (i7 + 1))), (4, .ref (ga g 7 i7)), (2, .int x7_2), (0, .ref (ga g 18 0)), (1, .ref (ga g 8 k))]) hx hb dX7_partShare_93 hl (k := 1) rfl (nI_1 i7) (by decide) rfl (fun ls hl => ?_)
        refine lv_goto (tgt := 7) hx hb dX7_partShare_96 (by decide) ?_
        exact ih7 (x7_2, w7_47) _ _ ls hlt7 ⟨(by show _ = iX7_partShare_7 S k i7 (lX7_partShare_7 S k i7).1 (lX7_partShare_7 S k i7).2; rw [← hz7]; exact hB7.symm), hI, lv_sub hl [0, 2, 3, 4] rfl⟩
      · have hB7 := hB7.trans (if_neg c_3)
        refine lv_aload_n hx hb dX7_partShare_55 rfl (lv_at hl 4 rfl) ?_
        refine cr_get (ci := 6) hC hI 8 k (hT.v8 hk) rfl rfl hinX5 13 (by decide) k_227 (fun _ h => h) (v := .int (S 40 k)) (congrArg (fun z => some (Value.int z)) (congrFun (upr_ne (by decide)) _)) dX7_partShare_56 ?_
        refine lv_aload hx hb dX7_partShare_59 (lv_at hl 0 rfl) ?_
        refine cr_get (ci := 2) hC hI 7 i7 (hT.v7 hlt7) rfl rfl hinX1 2 (by decide) k_378 (fun _ h => h) (v := .int (S 26 i7)) (congrArg (fun z => some (Value.int z)) (congrFun (upr_ne (by decide)) _)) dX7_partShare_61 ?_
        refine cr_callS (As := [.int (S 40 k), .int (S 26 i7)]) (rest := []) hC hI (qX7_hundredthsFrom l (S 40 k) (S 26 i7)) (va_cwS 2 hts gX7_partShare_X7_hundredthsFrom rfl rfl rfl (by decide +kernel) ⟨Nat.le_of_ble_eq_true rfl, Nat.le_of_ble_eq_true rfl⟩) rfl hl.1 rfl (Nat.le_of_ble_eq_true rfl) dX7_partShare_64 ⟨Nat.zero_le _, Nat.zero_le _⟩ (fun H locs hI => ?_)
        refine lv_istore (lv' := [(5, .int (fX7_hundredthsFrom (S 40 k) (S 26 i7))), (4, .ref (ga g 7 i7)), (3, .int (nI i7)), (2, .int x7_2), (0, .ref (ga g 18 0)), (1, .ref (ga g 8 k))]) hx hb dX7_partShare_67 hl (by decide) rfl (fun ls hl => ?_)
        refine lv_aload_n hx hb dX7_partShare_69 rfl (lv_at hl 4 rfl) ?_
        refine lv_aload hx hb dX7_partShare_70 (lv_at hl 1 rfl) ?_
        refine cr_get (ci := 2) hC hI 7 i7 (hT.v7 hlt7) rfl rfl hinX1 1 (by decide) k_379 (fun _ h => h) (v := .int (S 25 i7)) (congrArg (fun z => some (Value.int z)) (congrFun (upr_ne (by decide)) _)) dX7_partShare_72 ?_
        refine cr_callR (As := [.int (S 25 i7)]) (rest := []) hC hI (qX7_tellerAt l D cy g (upr S 47 w7_47) e0 (hV.congr ⟨rfl, rfl, rfl, rfl, rfl, rfl, rfl, rfl, rfl, rfl, rfl, rfl, rfl, rfl⟩ ⟨rfl, rfl⟩) (S 25 i7) (okI_8 (hN.v25 i7))) (cwV 1 hts gX7_partShare_X7_tellerAt rfl rfl rfl (by decide +kernel) ⟨Nat.le_of_ble_eq_true rfl, Nat.le_of_ble_eq_true rfl⟩) (cr_prev (ci := 8) hC hI 18 0 rfl rfl rfl) rfl hl.1 rfl (Nat.le_of_ble_eq_true rfl) dX7_partShare_75 ⟨Nat.zero_le _, Nat.zero_le _⟩ (fun H locs hI => ?_)
        refine lv_dup hx hb dX7_partShare_78 rfl ?_
        refine cr_get (ci := 7) hC hI 4 (ix (S 25 i7)) (okI_l (N := 8) (okI_8 (hN.v25 i7)) (by decide) (by decide)) rfl rfl hinX6 5 (by decide) k_307 (fun _ h => h) (v := .int (w7_47 (ix (S 25 i7)))) (congrArg (fun z => some (Value.int z)) (congrFun (upr_at _ _ _) _)) dX7_partShare_79 ?_
        refine lv_iload hx hb dX7_partShare_82 (lv_at hl 0 rfl) ?_
        refine lv_iadd hx hb dX7_partShare_84 ?_
        refine cr_put (ci := 7) (v := .int ((w7_47 (ix (S 25 i7))) + (fX7_hundredthsFrom (S 40 k) (S 26 i7)))) (ty := .int) (S' := (up (upr S 47 w7_47) 47 (ix (S 25 i7)) ((w7_47 (ix (S 25 i7))) + (fX7_hundredthsFrom (S 40 k) (S 26 i7))))) hC hL hI 4 (ix (S 25 i7)) (okI_l (N := 8) (okI_8 (hN.v25 i7)) (by decide) (by decide)) rfl rfl hinX6 tyX6 tyX6_ok nmX6 5 (by decide) k_307 (fun _ h => h) rfl (by decide +kernel) rfl rfl (Nat.le_of_ble_eq_true rfl) (cn_47 (ix (S 25 i7)) _) (cu_47 (ix (S 25 i7)) _) dX7_partShare_85 (fun H locs hI => ?_)
        refine lv_iload_n hx hb dX7_partShare_88 rfl (lv_at hl 3 rfl) ?_
        refine lv_iload hx hb dX7_partShare_89 (lv_at hl 0 rfl) ?_
        refine lv_isub hx hb dX7_partShare_91 ?_
        refine lv_istore_n (lv' := [(2, .int (x7_2 - (fX7_hundredthsFrom (S 40 k) (S 26 i7)))), (5, .int (fX7_hundredthsFrom (S 40 k) (S 26 i7))), (4, .ref (ga g 7 i7)), (3, .int (nI i7)), (0, .ref (ga g 18 0)), (1, .ref (ga g 8 k))]) hx hb dX7_partShare_92 rfl hl (by decide) rfl (fun ls hl => ?_)
        refine lv_iinc (v := (nI (i7 + 1))) (lv' := [(3, .int (nI (i7 + 1))), (2, .int (x7_2 - (fX7_hundredthsFrom (S 40 k) (S 26 i7)))), (5, .int (fX7_hundredthsFrom (S 40 k) (S 26 i7))), (4, .ref (ga g 7 i7)), (0, .ref (ga g 18 0)), (1, .ref (ga g 8 k))]) hx hb dX7_partShare_93 hl (k := 3) rfl (nI_1 i7) (by decide) rfl (fun ls hl => ?_)
        refine lv_goto (tgt := 7) hx hb dX7_partShare_96 (by decide) ?_
        exact ih7 ((x7_2 - (fX7_hundredthsFrom (S 40 k) (S 26 i7))), (upd w7_47 (ix (S 25 i7)) ((w7_47 (ix (S 25 i7))) + (fX7_hundredthsFrom (S 40 k) (S 26 i7))))) _ _ ls hlt7 ⟨(by show _ = iX7_partShare_7 S k i7 (lX7_partShare_7 S k i7).1 (lX7_partShare_7 S k i7).2; rw [← hz7]; exact hB7.symm), (CI_eq hI (upr_up _ _ _ _ _)), lv_sub hl [0, 1, 4, 5] rfl⟩
set_option maxHeartbeats 4000000 in
set_option maxRecDepth 100000 in
theorem qX7_notePaperDay (l : Launch) (A : Nat → Prop) (D : va_G) (cy : Nat → ClassId) (g : CWt) (hL : CL A g) (S : St) (e0 : Nat) (hV : CV e0 g S) : CMutV l A D cy g S yX7_notePaperDay wsX7_notePaperDay ({ frames := 0, cells := 0, slots := 0, locals := 0 } : Room) [.ref (ga g 18 0)] (fX7_notePaperDay S) := by
  refine Met.ofW (cc := cX7_notePaperDay) (maxL := 2) (ret := none) (by decide) rfl ?_
  intro p e s m args below meth c s₁ B hml hv
  obtain ⟨rfl, hM, hK⟩ := hv
  have hx := B.exec
  have hb := B.bytes
  have hr := B.returns
  have hts := atoms_spec (ws := wsX7_notePaperDay) B.pre
  have hown : s.vm.findClass RX7 = some m.cls := findClass_of_methodNamed B.named
  have hlocks := B.notSynchronized
  have hC : CC p s m _ c cX7_notePaperDay 2 RX7 D cy wsX7_notePaperDay := ⟨⟨hx, hb, hml, hown, hts⟩, hK⟩
  have hI : CI A D cy g s S s.heap [] := ⟨hM, va_S.rf⟩
  have hT := hV.2.1
  have hN := hV.2.2.1
  have hQ := hV.2.2.2
  have hb7 := hN.b7
  have hb15 := hN.b15
  have hb23 := hN.b23
  have hb28 := hN.b28
  have hb42 := hN.b42
  have hb64 := hQ.b64
  have k_44 := hts (.fieldLink RX7 44 "RelatorsBench" "paperDayCount" "I") (List.mem_cons_of_mem _ (List.mem_append_left _ (List.mem_of_getElem? (i := 0) rfl)))
  have hinX7 : ∀ w ∈ wsX70, w ∈ wsX7_notePaperDay := fun _ h => List.mem_cons_of_mem _ (List.mem_append_right _ (h))
  have k_41 := hts (.fieldLink RX7 41 "RelatorsBench" "paperDays" "[I") (List.mem_cons_of_mem _ (List.mem_append_left _ (List.mem_of_getElem? (i := 1) rfl)))
  have k_51 := hts (.fieldLink RX7 51 "RelatorsBench" "today" "I") (List.mem_cons_of_mem _ (List.mem_append_left _ (List.mem_of_getElem? (i := 2) rfl)))
  have hl := lv_entry ([.ref (ga g 18 0)]) (n := 2) (Nat.le_of_ble_eq_true rfl)
  rw [lg_entry_eq]
  generalize (lg_sl ([.ref (ga g 18 0)]) ++ List.replicate (2 - (lg_sl ([.ref (ga g 18 0)])).length) Slot.unset).toArray = ls at hl ⊢
  have hl : lv_has ls 2 [(0, .ref (ga g 18 0))] := hl
  have hG : fX7_notePaperDay S = fX7_notePaperDay S := rfl
  refine lv_aload_n hx hb dX7_notePaperDay_0 rfl (lv_at hl 0 rfl) ?_
  refine cr_get (ci := 8) hC hI 18 0 rfl rfl rfl hinX7 8 (by decide) k_44 (fun _ h => h) (v := .int (S 64 0)) rfl dX7_notePaperDay_1 ?_
  refine lv_if_eq (tgt := 25) hx hb dX7_notePaperDay_4 (by decide) (fun c_1 => ?_) (fun c_1 => ?_)
  · have hG := hG.trans (if_pos c_1)
    refine lv_iconst (v := 1) hx hb dX7_notePaperDay_25 (by decide) ?_
    refine lv_goto (tgt := 30) hx hb dX7_notePaperDay_26 (by decide) ?_
    refine lv_istore_n (lv' := [(1, .int 1), (0, .ref (ga g 18 0))]) hx hb dX7_notePaperDay_30 rfl hl (by decide) rfl (fun ls hl => ?_)
    refine lv_iload_n hx hb dX7_notePaperDay_31 rfl (lv_at hl 0 rfl) ?_
    refine lv_if_eq (tgt := 70) hx hb dX7_notePaperDay_32 (by decide) (fun c => absurd c (by decide : ¬ (1 : Int32) = 0)) (fun _ => ?_)
    refine lv_aload_n hx hb dX7_notePaperDay_35 rfl (lv_at hl 1 rfl) ?_
    refine cr_get (ci := 8) hC hI 18 0 rfl rfl rfl hinX7 8 (by decide) k_44 (fun _ h => h) (v := .int (S 64 0)) rfl dX7_notePaperDay_36 ?_
    refine lv_aload_n hx hb dX7_notePaperDay_39 rfl (lv_at hl 1 rfl) ?_
    refine cr_get (ci := 8) hC hI 18 0 rfl rfl rfl hinX7 7 (by decide) k_41 (fun _ h => h) (v := .ref (ga g 17 0)) rfl dX7_notePaperDay_40 ?_
    refine cr_alen (N := 52) (f := S 63) hC hI 17 0 rfl rfl (v := 52) (by decide) dX7_notePaperDay_43 ?_
    refine lv_icmp_ge (tgt := 70) hx hb dX7_notePaperDay_44 (by decide) (fun c_2 => ?_) (fun c_2 => ?_)
    · have hG := hG.trans (if_pos c_2)
      exact W.vret hx hb hr (fun t9 ht9 hW9 => ⟨⟨(), rfl, trivial, by show CH D cy g _ t9.heap; rw [ht9, hG]; exact hI.1⟩, hI.2.F ht9⟩) hI.2.2.2 dX7_notePaperDay_70
    · have hG := hG.trans (if_neg c_2)
      refine lv_aload_n hx hb dX7_notePaperDay_47 rfl (lv_at hl 1 rfl) ?_
      refine cr_get (ci := 8) hC hI 18 0 rfl rfl rfl hinX7 7 (by decide) k_41 (fun _ h => h) (v := .ref (ga g 17 0)) rfl dX7_notePaperDay_48 ?_
      refine lv_aload_n hx hb dX7_notePaperDay_51 rfl (lv_at hl 1 rfl) ?_
      refine cr_get (ci := 8) hC hI 18 0 rfl rfl rfl hinX7 8 (by decide) k_44 (fun _ h => h) (v := .int (S 64 0)) rfl dX7_notePaperDay_52 ?_
      refine lv_aload_n hx hb dX7_notePaperDay_55 rfl (lv_at hl 1 rfl) ?_
      refine cr_get (ci := 8) hC hI 18 0 rfl rfl rfl hinX7 10 (by decide) k_51 (fun _ h => h) (v := .int (S 1 0)) rfl dX7_notePaperDay_56 ?_
      refine cr_iast (N := 52) (f := (S 63)) (f' := ((up S 63 (ix (S 64 0)) (S 1 0)) 63)) (S' := (up S 63 (ix (S 64 0)) (S 1 0))) hC hL hI 17 0 rfl rfl (pd_in2 hQ (by assumption)) rfl (st_f0 rfl) (cu_63 (ix (S 64 0)) _) dX7_notePaperDay_59 (fun H locs hI => ?_)
      refine lv_aload_n hx hb dX7_notePaperDay_60 rfl (lv_at hl 1 rfl) ?_
      refine lv_dup hx hb dX7_notePaperDay_61 rfl ?_
      refine cr_get (ci := 8) hC hI 18 0 rfl rfl rfl hinX7 8 (by decide) k_44 (fun _ h => h) (v := .int (S 64 0)) (congrArg (fun z => some (Value.int z)) (congrFun (up_ne (by decide)) _)) dX7_notePaperDay_62 ?_
      refine lv_iconst (v := 1) hx hb dX7_notePaperDay_65 (by decide) ?_
      refine lv_iadd hx hb dX7_notePaperDay_66 ?_
      refine cr_put (ci := 8) (v := .int ((S 64 0) + 1)) (ty := .int) (S' := (up (up S 63 (ix (S 64 0)) (S 1 0)) 64 0 ((S 64 0) + 1))) hC hL hI 18 0 rfl rfl rfl hinX7 tyX7 tyX7_ok nmX7 8 (by decide) k_44 (fun _ h => h) rfl (by decide +kernel) rfl rfl (Nat.le_of_ble_eq_true rfl) (cn_64 _) (cu_64 _) dX7_notePaperDay_67 (fun H locs hI => ?_)
      exact W.vret hx hb hr (fun t9 ht9 hW9 => ⟨⟨(), rfl, trivial, by show CH D cy g _ t9.heap; rw [ht9, hG]; exact hI.1⟩, hI.2.F ht9⟩) hI.2.2.2 dX7_notePaperDay_70
  · have hG := hG.trans (if_neg c_1)
    refine lv_aload_n hx hb dX7_notePaperDay_7 rfl (lv_at hl 0 rfl) ?_
    refine cr_get (ci := 8) hC hI 18 0 rfl rfl rfl hinX7 7 (by decide) k_41 (fun _ h => h) (v := .ref (ga g 17 0)) rfl dX7_notePaperDay_8 ?_
    refine lv_aload_n hx hb dX7_notePaperDay_11 rfl (lv_at hl 0 rfl) ?_
    refine cr_get (ci := 8) hC hI 18 0 rfl rfl rfl hinX7 8 (by decide) k_44 (fun _ h => h) (v := .int (S 64 0)) rfl dX7_notePaperDay_12 ?_
    refine lv_iconst (v := 1) hx hb dX7_notePaperDay_15 (by decide) ?_
    refine lv_isub hx hb dX7_notePaperDay_16 ?_
    refine cr_iald (N := 52) (f := (S 63)) hC hI 17 0 rfl rfl (pd_in hQ (by assumption)) (v := (S 63 (ix ((S 64 0) - 1)))) rfl dX7_notePaperDay_17 ?_
    refine lv_aload_n hx hb dX7_notePaperDay_18 rfl (lv_at hl 0 rfl) ?_
    refine cr_get (ci := 8) hC hI 18 0 rfl rfl rfl hinX7 10 (by decide) k_51 (fun _ h => h) (v := .int (S 1 0)) rfl dX7_notePaperDay_19 ?_
    refine lv_icmp_eq (tgt := 29) hx hb dX7_notePaperDay_22 (by decide) (fun c_3 => ?_) (fun c_3 => ?_)
    · have hG := hG.trans (if_pos c_3)
      refine lv_iconst (v := 0) hx hb dX7_notePaperDay_29 (by decide) ?_
      refine lv_istore_n (lv' := [(1, .int 0), (0, .ref (ga g 18 0))]) hx hb dX7_notePaperDay_30 rfl hl (by decide) rfl (fun ls hl => ?_)
      refine lv_iload_n hx hb dX7_notePaperDay_31 rfl (lv_at hl 0 rfl) ?_
      refine lv_if_eq (tgt := 70) hx hb dX7_notePaperDay_32 (by decide) (fun _ => ?_) (fun c => absurd (by decide : (0 : Int32) = 0) c)
      exact W.vret hx hb hr (fun t9 ht9 hW9 => ⟨⟨(), rfl, trivial, by show CH D cy g _ t9.heap; rw [ht9, hG]; exact hI.1⟩, hI.2.F ht9⟩) hI.2.2.2 dX7_notePaperDay_70
    · have hG := hG.trans (if_neg c_3)
      refine lv_iconst (v := 1) hx hb dX7_notePaperDay_25 (by decide) ?_
      refine lv_goto (tgt := 30) hx hb dX7_notePaperDay_26 (by decide) ?_
      refine lv_istore_n (lv' := [(1, .int 1), (0, .ref (ga g 18 0))]) hx hb dX7_notePaperDay_30 rfl hl (by decide) rfl (fun ls hl => ?_)
      refine lv_iload_n hx hb dX7_notePaperDay_31 rfl (lv_at hl 0 rfl) ?_
      refine lv_if_eq (tgt := 70) hx hb dX7_notePaperDay_32 (by decide) (fun c => absurd c (by decide : ¬ (1 : Int32) = 0)) (fun _ => ?_)
      refine lv_aload_n hx hb dX7_notePaperDay_35 rfl (lv_at hl 1 rfl) ?_
      refine cr_get (ci := 8) hC hI 18 0 rfl rfl rfl hinX7 8 (by decide) k_44 (fun _ h => h) (v := .int (S 64 0)) rfl dX7_notePaperDay_36 ?_
      refine lv_aload_n hx hb dX7_notePaperDay_39 rfl (lv_at hl 1 rfl) ?_
      refine cr_get (ci := 8) hC hI 18 0 rfl rfl rfl hinX7 7 (by decide) k_41 (fun _ h => h) (v := .ref (ga g 17 0)) rfl dX7_notePaperDay_40 ?_
      refine cr_alen (N := 52) (f := S 63) hC hI 17 0 rfl rfl (v := 52) (by decide) dX7_notePaperDay_43 ?_
      refine lv_icmp_ge (tgt := 70) hx hb dX7_notePaperDay_44 (by decide) (fun c_4 => ?_) (fun c_4 => ?_)
      · have hG := hG.trans (if_pos c_4)
        exact W.vret hx hb hr (fun t9 ht9 hW9 => ⟨⟨(), rfl, trivial, by show CH D cy g _ t9.heap; rw [ht9, hG]; exact hI.1⟩, hI.2.F ht9⟩) hI.2.2.2 dX7_notePaperDay_70
      · have hG := hG.trans (if_neg c_4)
        refine lv_aload_n hx hb dX7_notePaperDay_47 rfl (lv_at hl 1 rfl) ?_
        refine cr_get (ci := 8) hC hI 18 0 rfl rfl rfl hinX7 7 (by decide) k_41 (fun _ h => h) (v := .ref (ga g 17 0)) rfl dX7_notePaperDay_48 ?_
        refine lv_aload_n hx hb dX7_notePaperDay_51 rfl (lv_at hl 1 rfl) ?_
        refine cr_get (ci := 8) hC hI 18 0 rfl rfl rfl hinX7 8 (by decide) k_44 (fun _ h => h) (v := .int (S 64 0)) rfl dX7_notePaperDay_52 ?_
        refine lv_aload_n hx hb dX7_notePaperDay_55 rfl (lv_at hl 1 rfl) ?_
        refine cr_get (ci := 8) hC hI 18 0 rfl rfl rfl hinX7 10 (by decide) k_51 (fun _ h => h) (v := .int (S 1 0)) rfl dX7_notePaperDay_56 ?_
        refine cr_iast (N := 52) (f := (S 63)) (f' := ((up S 63 (ix (S 64 0)) (S 1 0)) 63)) (S' := (up S 63 (ix (S 64 0)) (S 1 0))) hC hL hI 17 0 rfl rfl (pd_in2 hQ (by assumption)) rfl (st_f0 rfl) (cu_63 (ix (S 64 0)) _) dX7_notePaperDay_59 (fun H locs hI => ?_)
        refine lv_aload_n hx hb dX7_notePaperDay_60 rfl (lv_at hl 1 rfl) ?_
        refine lv_dup hx hb dX7_notePaperDay_61 rfl ?_
        refine cr_get (ci := 8) hC hI 18 0 rfl rfl rfl hinX7 8 (by decide) k_44 (fun _ h => h) (v := .int (S 64 0)) (congrArg (fun z => some (Value.int z)) (congrFun (up_ne (by decide)) _)) dX7_notePaperDay_62 ?_
        refine lv_iconst (v := 1) hx hb dX7_notePaperDay_65 (by decide) ?_
        refine lv_iadd hx hb dX7_notePaperDay_66 ?_
        refine cr_put (ci := 8) (v := .int ((S 64 0) + 1)) (ty := .int) (S' := (up (up S 63 (ix (S 64 0)) (S 1 0)) 64 0 ((S 64 0) + 1))) hC hL hI 18 0 rfl rfl rfl hinX7 tyX7 tyX7_ok nmX7 8 (by decide) k_44 (fun _ h => h) rfl (by decide +kernel) rfl rfl (Nat.le_of_ble_eq_true rfl) (cn_64 _) (cu_64 _) dX7_notePaperDay_67 (fun H locs hI => ?_)
        exact W.vret hx hb hr (fun t9 ht9 hW9 => ⟨⟨(), rfl, trivial, by show CH D cy g _ t9.heap; rw [ht9, hG]; exact hI.1⟩, hI.2.F ht9⟩) hI.2.2.2 dX7_notePaperDay_70
set_option maxHeartbeats 4000000 in
set_option maxRecDepth 100000 in
theorem qX7_win (l : Launch) (A : Nat → Prop) (D : va_G) (cy : Nat → ClassId) (g : CWt) (hL : CL A g) (S : St) (e0 : Nat) (hV : CV e0 g S) (k : Nat) (hk : k < nsu S) (paid : Int32) : CMutV l A D cy g S yX7_win wsX7_win ({ frames := 7, cells := 0, slots := 0, locals := 161 } : Room) [.ref (ga g 18 0), .ref (ga g 8 k), .int paid] (fX7_win S k paid) := by
  refine Met.ofW (cc := cX7_win) (maxL := 4) (ret := none) (by decide) rfl ?_
  intro p e s m args below meth c s₁ B hml hv
  obtain ⟨rfl, hM, hK⟩ := hv
  have hx := B.exec
  have hb := B.bytes
  have hr := B.returns
  have hts := atoms_spec (ws := wsX7_win) B.pre
  have hown : s.vm.findClass RX7 = some m.cls := findClass_of_methodNamed B.named
  have hlocks := B.notSynchronized
  have hC : CC p s m _ c cX7_win 4 RX7 D cy wsX7_win := ⟨⟨hx, hb, hml, hown, hts⟩, hK⟩
  have hI : CI A D cy g s S s.heap [] := ⟨hM, va_S.rf⟩
  have hT := hV.2.1
  have hN := hV.2.2.1
  have hQ := hV.2.2.2
  have hb7 := hN.b7
  have hb15 := hN.b15
  have hb23 := hN.b23
  have hb28 := hN.b28
  have hb42 := hN.b42
  have hb64 := hQ.b64
  have k_359 := hts (.fieldLink RX7 359 "RelatorsBench$Suit" "hundredths" "I") (List.mem_cons_of_mem _ (List.mem_append_left _ (List.mem_append_left _ (List.mem_append_left _ (List.mem_append_left _ (List.mem_append_left _ (List.mem_append_left _ (List.mem_append_left _ (List.mem_append_left _ (List.mem_append_left _ (List.mem_append_left _ (List.mem_append_left _ (List.mem_of_getElem? (i := 0) rfl)))))))))))))
  have hinX5 : ∀ w ∈ wsX50, w ∈ wsX7_win := fun _ h => List.mem_cons_of_mem _ (List.mem_append_left _ (List.mem_append_left _ (List.mem_append_left _ (List.mem_append_left _ (List.mem_append_left _ (List.mem_append_left _ (List.mem_append_left _ (List.mem_append_left _ (List.mem_append_left _ (List.mem_append_right _ (h)))))))))))
  have k_195 := hts (.fieldLink RX7 195 "RelatorsBench$Suit" "state" "I") (List.mem_cons_of_mem _ (List.mem_append_left _ (List.mem_append_left _ (List.mem_append_left _ (List.mem_append_left _ (List.mem_append_left _ (List.mem_append_left _ (List.mem_append_left _ (List.mem_append_left _ (List.mem_append_left _ (List.mem_append_left _ (List.mem_append_left _ (List.mem_of_getElem? (i := 1) rfl)))))))))))))
  have k_224 := hts (.fieldLink RX7 224 "RelatorsBench$Suit" "paid" "I") (List.mem_cons_of_mem _ (List.mem_append_left _ (List.mem_append_left _ (List.mem_append_left _ (List.mem_append_left _ (List.mem_append_left _ (List.mem_append_left _ (List.mem_append_left _ (List.mem_append_left _ (List.mem_append_left _ (List.mem_append_left _ (List.mem_append_left _ (List.mem_of_getElem? (i := 2) rfl)))))))))))))
  have k_227 := hts (.fieldLink RX7 227 "RelatorsBench$Suit" "share" "I") (List.mem_cons_of_mem _ (List.mem_append_left _ (List.mem_append_left _ (List.mem_append_left _ (List.mem_append_left _ (List.mem_append_left _ (List.mem_append_left _ (List.mem_append_left _ (List.mem_append_left _ (List.mem_append_left _ (List.mem_append_left _ (List.mem_append_left _ (List.mem_of_getElem? (i := 3) rfl)))))))))))))
  have k_217 := hts (.fieldLink RX7 217 "RelatorsBench$Suit" "firm" "I") (List.mem_cons_of_mem _ (List.mem_append_left _ (List.mem_append_left _ (List.mem_append_left _ (List.mem_append_left _ (List.mem_append_left _ (List.mem_append_left _ (List.mem_append_left _ (List.mem_append_left _ (List.mem_append_left _ (List.mem_append_left _ (List.mem_append_left _ (List.mem_of_getElem? (i := 4) rfl)))))))))))))
  have k_74 := hts (.fieldLink RX7 74 "RelatorsBench$Firm" "money" "I") (List.mem_cons_of_mem _ (List.mem_append_left _ (List.mem_append_left _ (List.mem_append_left _ (List.mem_append_left _ (List.mem_append_left _ (List.mem_append_left _ (List.mem_append_left _ (List.mem_append_left _ (List.mem_append_left _ (List.mem_append_left _ (List.mem_append_left _ (List.mem_of_getElem? (i := 5) rfl)))))))))))))
  have hinX2 : ∀ w ∈ wsX20, w ∈ wsX7_win := fun _ h => List.mem_cons_of_mem _ (List.mem_append_left _ (List.mem_append_left _ (List.mem_append_left _ (List.mem_append_left _ (List.mem_append_left _ (List.mem_append_left _ (List.mem_append_left _ (List.mem_append_left _ (List.mem_append_right _ (h))))))))))
  have k_312 := hts (.fieldLink RX7 312 "RelatorsBench$Firm" "paidBySuits" "I") (List.mem_cons_of_mem _ (List.mem_append_left _ (List.mem_append_left _ (List.mem_append_left _ (List.mem_append_left _ (List.mem_append_left _ (List.mem_append_left _ (List.mem_append_left _ (List.mem_append_left _ (List.mem_append_left _ (List.mem_append_left _ (List.mem_append_left _ (List.mem_of_getElem? (i := 6) rfl)))))))))))))
  have k_54 := hts (.fieldLink RX7 54 "RelatorsBench" "stateGot" "I") (List.mem_cons_of_mem _ (List.mem_append_left _ (List.mem_append_left _ (List.mem_append_left _ (List.mem_append_left _ (List.mem_append_left _ (List.mem_append_left _ (List.mem_append_left _ (List.mem_append_left _ (List.mem_append_left _ (List.mem_append_left _ (List.mem_append_left _ (List.mem_of_getElem? (i := 7) rfl)))))))))))))
  have hinX7 : ∀ w ∈ wsX70, w ∈ wsX7_win := fun _ h => List.mem_cons_of_mem _ (List.mem_append_left _ (List.mem_append_left _ (List.mem_append_left _ (List.mem_append_left _ (List.mem_append_left _ (List.mem_append_left _ (List.mem_append_left _ (List.mem_append_right _ (h)))))))))
  have hl := lv_entry ([.ref (ga g 18 0), .ref (ga g 8 k), .int paid]) (n := 4) (Nat.le_of_ble_eq_true rfl)
  rw [lg_entry_eq]
  generalize (lg_sl ([.ref (ga g 18 0), .ref (ga g 8 k), .int paid]) ++ List.replicate (4 - (lg_sl ([.ref (ga g 18 0), .ref (ga g 8 k), .int paid])).length) Slot.unset).toArray = ls at hl ⊢
  have hl : lv_has ls 4 [(0, .ref (ga g 18 0)), (1, .ref (ga g 8 k)), (2, .int paid)] := hl
  have hG : fX7_win S k paid = fX7_win S k paid := rfl
  refine lv_aload_n hx hb dX7_win_0 rfl (lv_at hl 1 rfl) ?_
  refine lv_aload_n hx hb dX7_win_1 rfl (lv_at hl 0 rfl) ?_
  refine lv_aload_n hx hb dX7_win_2 rfl (lv_at hl 1 rfl) ?_
  refine cr_call (As := [.ref (ga g 8 k)]) (rest := [.ref (ga g 8 k)]) hC hI (qX7_hundredthsOf l D cy g S e0 hV k hk) (cwV 1 hts gX7_win_X7_hundredthsOf rfl rfl rfl (by decide +kernel) ⟨Nat.le_of_ble_eq_true rfl, Nat.le_of_ble_eq_true rfl⟩) (cr_prev (ci := 8) hC hI 18 0 rfl rfl rfl) rfl hl.1 rfl (Nat.le_of_ble_eq_true rfl) dX7_win_3 ⟨Nat.zero_le _, Nat.zero_le _⟩ (fun H locs hI => ?_)
  refine cr_put (ci := 6) (v := .int (fX7_hundredthsOf S k)) (ty := .int) (S' := (up S 41 k (fX7_hundredthsOf S k))) hC hL hI 8 k (hT.v8 hk) rfl rfl hinX5 tyX5 tyX5_ok nmX5 14 (by decide) k_359 (fun _ h => h) rfl (by decide +kernel) rfl rfl (Nat.le_of_ble_eq_true rfl) (cn_41 k _) (cu_41 k _) dX7_win_6 (fun H locs hI => ?_)
  refine lv_aload_n hx hb dX7_win_9 rfl (lv_at hl 0 rfl) ?_
  refine lv_aload_n hx hb dX7_win_10 rfl (lv_at hl 1 rfl) ?_
  refine cr_callMV (As := [.ref (ga g 8 k)]) (rest := []) hC hI (qX7_payClaims l A D cy g hL (up S 41 k (fX7_hundredthsOf S k)) e0 (hV.congr ⟨rfl, rfl, rfl, rfl, rfl, rfl, rfl, rfl, rfl, rfl, rfl, rfl, rfl, rfl⟩ ⟨rfl, rfl⟩) k hk) (cwV 1 hts gX7_win_X7_payClaims rfl rfl rfl (by decide +kernel) ⟨Nat.le_of_ble_eq_true rfl, Nat.le_of_ble_eq_true rfl⟩) (cr_prev (ci := 8) hC hI 18 0 rfl rfl rfl) rfl hl.1 rfl (Nat.le_of_ble_eq_true rfl) dX7_win_11 ⟨Nat.zero_le _, Nat.zero_le _⟩ (fun H locs hI => ?_)
  refine lv_aload_n hx hb dX7_win_14 rfl (lv_at hl 1 rfl) ?_
  refine lv_iconst (v := 4) hx hb dX7_win_15 (by decide) ?_
  refine cr_put (ci := 6) (v := .int 4) (ty := .int) (S' := (up (upr (up S 41 k (fX7_hundredthsOf S k)) 19 (fX7_payClaims (up S 41 k (fX7_hundredthsOf S k)) k)) 34 k 4)) hC hL hI 8 k (hT.v8 hk) rfl rfl hinX5 tyX5 tyX5_ok nmX5 7 (by decide) k_195 (fun _ h => h) rfl (by decide +kernel) rfl rfl (Nat.le_of_ble_eq_true rfl) (cn_34 k _) (cu_34 k _) dX7_win_16 (fun H locs hI => ?_)
  refine lv_aload_n hx hb dX7_win_19 rfl (lv_at hl 1 rfl) ?_
  refine lv_iload_n hx hb dX7_win_20 rfl (lv_at hl 2 rfl) ?_
  refine cr_put (ci := 6) (v := .int paid) (ty := .int) (S' := (up (up (upr (up S 41 k (fX7_hundredthsOf S k)) 19 (fX7_payClaims (up S 41 k (fX7_hundredthsOf S k)) k)) 34 k 4) 39 k paid)) hC hL hI 8 k (hT.v8 hk) rfl rfl hinX5 tyX5 tyX5_ok nmX5 12 (by decide) k_224 (fun _ h => h) rfl (by decide +kernel) rfl rfl (Nat.le_of_ble_eq_true rfl) (cn_39 k _) (cu_39 k _) dX7_win_21 (fun H locs hI => ?_)
  refine lv_aload_n hx hb dX7_win_24 rfl (lv_at hl 1 rfl) ?_
  refine lv_iload_n hx hb dX7_win_25 rfl (lv_at hl 2 rfl) ?_
  refine lv_aload_n hx hb dX7_win_26 rfl (lv_at hl 1 rfl) ?_
  refine cr_get (ci := 6) hC hI 8 k (hT.v8 hk) rfl rfl hinX5 14 (by decide) k_359 (fun _ h => h) (v := .int (fX7_hundredthsOf S k)) (congrArg (fun z => some (Value.int z)) ((congrFun (up_ne (by decide)) _).trans ((congrFun (up_ne (by decide)) _).trans ((congrFun (upr_ne (by decide)) _).trans (up_at _ _ _ _))))) dX7_win_27 ?_
  refine cr_callS (As := [.int paid, .int (fX7_hundredthsOf S k)]) (rest := [.ref (ga g 8 k)]) hC hI (qX7_hundredthsFrom l paid (fX7_hundredthsOf S k)) (va_cwS 2 hts gX7_win_X7_hundredthsFrom rfl rfl rfl (by decide +kernel) ⟨Nat.le_of_ble_eq_true rfl, Nat.le_of_ble_eq_true rfl⟩) rfl hl.1 rfl (Nat.le_of_ble_eq_true rfl) dX7_win_30 ⟨Nat.zero_le _, Nat.zero_le _⟩ (fun H locs hI => ?_)
  refine cr_put (ci := 6) (v := .int (fX7_hundredthsFrom paid (fX7_hundredthsOf S k))) (ty := .int) (S' := (up (up (up (upr (up S 41 k (fX7_hundredthsOf S k)) 19 (fX7_payClaims (up S 41 k (fX7_hundredthsOf S k)) k)) 34 k 4) 39 k paid) 40 k (fX7_hundredthsFrom paid (fX7_hundredthsOf S k)))) hC hL hI 8 k (hT.v8 hk) rfl rfl hinX5 tyX5 tyX5_ok nmX5 13 (by decide) k_227 (fun _ h => h) rfl (by decide +kernel) rfl rfl (Nat.le_of_ble_eq_true rfl) (cn_40 k _) (cu_40 k _) dX7_win_33 (fun H locs hI => ?_)
  refine lv_aload_n hx hb dX7_win_36 rfl (lv_at hl 0 rfl) ?_
  refine lv_aload_n hx hb dX7_win_37 rfl (lv_at hl 1 rfl) ?_
  refine cr_get (ci := 6) hC hI 8 k (hT.v8 hk) rfl rfl hinX5 2 (by decide) k_217 (fun _ h => h) (v := .int (S 30 k)) (congrArg (fun z => some (Value.int z)) ((congrFun (up_ne (by decide)) _).trans ((congrFun (up_ne (by decide)) _).trans ((congrFun (up_ne (by decide)) _).trans ((congrFun (upr_ne (by decide)) _).trans (congrFun (up_ne (by decide)) _)))))) dX7_win_38 ?_
  refine cr_callR (As := [.int (S 30 k)]) (rest := []) hC hI (qX7_firmAt l D cy g (up (up (up (upr (up S 41 k (fX7_hundredthsOf S k)) 19 (fX7_payClaims (up S 41 k (fX7_hundredthsOf S k)) k)) 34 k 4) 39 k paid) 40 k (fX7_hundredthsFrom paid (fX7_hundredthsOf S k))) e0 (hV.congr ⟨rfl, rfl, rfl, rfl, rfl, rfl, rfl, rfl, rfl, rfl, rfl, rfl, rfl, rfl⟩ ⟨rfl, rfl⟩) (S 30 k) (okI_6 (hN.v30 k))) (cwV 1 hts gX7_win_X7_firmAt rfl rfl rfl (by decide +kernel) ⟨Nat.le_of_ble_eq_true rfl, Nat.le_of_ble_eq_true rfl⟩) (cr_prev (ci := 8) hC hI 18 0 rfl rfl rfl) rfl hl.1 rfl (Nat.le_of_ble_eq_true rfl) dX7_win_41 ⟨Nat.zero_le _, Nat.zero_le _⟩ (fun H locs hI => ?_)
  refine lv_astore_n (lv' := [(3, .ref (ga g 0 (ix (S 30 k)))), (0, .ref (ga g 18 0)), (1, .ref (ga g 8 k)), (2, .int paid)]) hx hb dX7_win_44 rfl hl (by decide) rfl (fun ls hl => ?_)
  refine lv_aload_n hx hb dX7_win_45 rfl (lv_at hl 0 rfl) ?_
  refine lv_dup hx hb dX7_win_46 rfl ?_
  refine cr_get (ci := 3) hC hI 0 (ix (S 30 k)) (okI_l (N := 6) (okI_6 (hN.v30 k)) (by decide) (by decide)) rfl rfl hinX2 0 (by decide) k_74 (fun _ h => h) (v := .int (S 2 (ix (S 30 k)))) (congrArg (fun z => some (Value.int z)) ((congrFun (up_ne (by decide)) _).trans ((congrFun (up_ne (by decide)) _).trans ((congrFun (up_ne (by decide)) _).trans ((congrFun (upr_ne (by decide)) _).trans (congrFun (up_ne (by decide)) _)))))) dX7_win_47 ?_
  refine lv_iload_n hx hb dX7_win_50 rfl (lv_at hl 3 rfl) ?_
  refine lv_isub hx hb dX7_win_51 ?_
  refine cr_put (ci := 3) (v := .int ((S 2 (ix (S 30 k))) - paid)) (ty := .int) (S' := (up (up (up (up (upr (up S 41 k (fX7_hundredthsOf S k)) 19 (fX7_payClaims (up S 41 k (fX7_hundredthsOf S k)) k)) 34 k 4) 39 k paid) 40 k (fX7_hundredthsFrom paid (fX7_hundredthsOf S k))) 2 (ix (S 30 k)) ((S 2 (ix (S 30 k))) - paid))) hC hL hI 0 (ix (S 30 k)) (okI_l (N := 6) (okI_6 (hN.v30 k)) (by decide) (by decide)) rfl rfl hinX2 tyX2 tyX2_ok nmX2 0 (by decide) k_74 (fun _ h => h) rfl (by decide +kernel) rfl rfl (Nat.le_of_ble_eq_true rfl) (cn_2 (ix (S 30 k)) _) (cu_2 (ix (S 30 k)) _) dX7_win_52 (fun H locs hI => ?_)
  refine lv_aload_n hx hb dX7_win_55 rfl (lv_at hl 0 rfl) ?_
  refine lv_dup hx hb dX7_win_56 rfl ?_
  refine cr_get (ci := 3) hC hI 0 (ix (S 30 k)) (okI_l (N := 6) (okI_6 (hN.v30 k)) (by decide) (by decide)) rfl rfl hinX2 2 (by decide) k_312 (fun _ h => h) (v := .int (S 4 (ix (S 30 k)))) (congrArg (fun z => some (Value.int z)) ((congrFun (up_ne (by decide)) _).trans ((congrFun (up_ne (by decide)) _).trans ((congrFun (up_ne (by decide)) _).trans ((congrFun (up_ne (by decide)) _).trans ((congrFun (upr_ne (by decide)) _).trans (congrFun (up_ne (by decide)) _))))))) dX7_win_57 ?_
  refine lv_iload_n hx hb dX7_win_60 rfl (lv_at hl 3 rfl) ?_
  refine lv_iadd hx hb dX7_win_61 ?_
  refine cr_put (ci := 3) (v := .int ((S 4 (ix (S 30 k))) + paid)) (ty := .int) (S' := (up (up (up (up (up (upr (up S 41 k (fX7_hundredthsOf S k)) 19 (fX7_payClaims (up S 41 k (fX7_hundredthsOf S k)) k)) 34 k 4) 39 k paid) 40 k (fX7_hundredthsFrom paid (fX7_hundredthsOf S k))) 2 (ix (S 30 k)) ((S 2 (ix (S 30 k))) - paid)) 4 (ix (S 30 k)) ((S 4 (ix (S 30 k))) + paid))) hC hL hI 0 (ix (S 30 k)) (okI_l (N := 6) (okI_6 (hN.v30 k)) (by decide) (by decide)) rfl rfl hinX2 tyX2 tyX2_ok nmX2 2 (by decide) k_312 (fun _ h => h) rfl (by decide +kernel) rfl rfl (Nat.le_of_ble_eq_true rfl) (cn_4 (ix (S 30 k)) _) (cu_4 (ix (S 30 k)) _) dX7_win_62 (fun H locs hI => ?_)
  refine lv_aload_n hx hb dX7_win_65 rfl (lv_at hl 1 rfl) ?_
  refine lv_dup hx hb dX7_win_66 rfl ?_
  refine cr_get (ci := 8) hC hI 18 0 rfl rfl rfl hinX7 11 (by decide) k_54 (fun _ h => h) (v := .int (S 6 0)) (congrArg (fun z => some (Value.int z)) ((congrFun (up_ne (by decide)) _).trans ((congrFun (up_ne (by decide)) _).trans ((congrFun (up_ne (by decide)) _).trans ((congrFun (up_ne (by decide)) _).trans ((congrFun (up_ne (by decide)) _).trans ((congrFun (upr_ne (by decide)) _).trans (congrFun (up_ne (by decide)) _)))))))) dX7_win_67 ?_
  refine lv_iload_n hx hb dX7_win_70 rfl (lv_at hl 3 rfl) ?_
  refine lv_aload_n hx hb dX7_win_71 rfl (lv_at hl 2 rfl) ?_
  refine cr_get (ci := 6) hC hI 8 k (hT.v8 hk) rfl rfl hinX5 13 (by decide) k_227 (fun _ h => h) (v := .int (fX7_hundredthsFrom paid (fX7_hundredthsOf S k))) (congrArg (fun z => some (Value.int z)) ((congrFun (up_ne (by decide)) _).trans ((congrFun (up_ne (by decide)) _).trans (up_at _ _ _ _)))) dX7_win_72 ?_
  refine lv_isub hx hb dX7_win_75 ?_
  refine lv_iadd hx hb dX7_win_76 ?_
  refine cr_put (ci := 8) (v := .int ((S 6 0) + (paid - (fX7_hundredthsFrom paid (fX7_hundredthsOf S k))))) (ty := .int) (S' := (up (up (up (up (up (up (upr (up S 41 k (fX7_hundredthsOf S k)) 19 (fX7_payClaims (up S 41 k (fX7_hundredthsOf S k)) k)) 34 k 4) 39 k paid) 40 k (fX7_hundredthsFrom paid (fX7_hundredthsOf S k))) 2 (ix (S 30 k)) ((S 2 (ix (S 30 k))) - paid)) 4 (ix (S 30 k)) ((S 4 (ix (S 30 k))) + paid)) 6 0 ((S 6 0) + (paid - (fX7_hundredthsFrom paid (fX7_hundredthsOf S k)))))) hC hL hI 18 0 rfl rfl rfl hinX7 tyX7 tyX7_ok nmX7 11 (by decide) k_54 (fun _ h => h) rfl (by decide +kernel) rfl rfl (Nat.le_of_ble_eq_true rfl) (cn_6 _) (cu_6 _) dX7_win_77 (fun H locs hI => ?_)
  refine lv_aload_n hx hb dX7_win_80 rfl (lv_at hl 1 rfl) ?_
  refine lv_aload_n hx hb dX7_win_81 rfl (lv_at hl 2 rfl) ?_
  refine cr_callMV (As := [.ref (ga g 8 k)]) (rest := []) hC hI (qX7_partShare l A D cy g hL (up (up (up (up (up (up (upr (up S 41 k (fX7_hundredthsOf S k)) 19 (fX7_payClaims (up S 41 k (fX7_hundredthsOf S k)) k)) 34 k 4) 39 k paid) 40 k (fX7_hundredthsFrom paid (fX7_hundredthsOf S k))) 2 (ix (S 30 k)) ((S 2 (ix (S 30 k))) - paid)) 4 (ix (S 30 k)) ((S 4 (ix (S 30 k))) + paid)) 6 0 ((S 6 0) + (paid - (fX7_hundredthsFrom paid (fX7_hundredthsOf S k))))) e0 (hV.congr ⟨rfl, rfl, rfl, rfl, rfl, rfl, rfl, rfl, rfl, rfl, rfl, rfl, rfl, rfl⟩ ⟨rfl, rfl⟩) k hk) (cwV 1 hts gX7_win_X7_partShare rfl rfl rfl (by decide +kernel) ⟨Nat.le_of_ble_eq_true rfl, Nat.le_of_ble_eq_true rfl⟩) (cr_prev (ci := 8) hC hI 18 0 rfl rfl rfl) rfl hl.1 rfl (Nat.le_of_ble_eq_true rfl) dX7_win_82 ⟨Nat.zero_le _, Nat.zero_le _⟩ (fun H locs hI => ?_)
  exact W.vret hx hb hr (fun t9 ht9 hW9 => ⟨⟨(), rfl, trivial, by show CH D cy g _ t9.heap; rw [ht9, hG]; exact hI.1⟩, hI.2.F ht9⟩) hI.2.2.2 dX7_win_85
