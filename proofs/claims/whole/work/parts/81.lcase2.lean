/-! the law's cases, walked -/
set_option maxHeartbeats 4000000 in
set_option maxRecDepth 100000 in
theorem lc_deal {p : Program} {l : Launch} {e : Env} {s : State} {m : MethodId} {below : List Frame} {meth : Method} {c : Code} {H : Heap} {locs : List Loc} {cells slots : Nat} {Q : State → Prop} {ls : Array Slot} {D : va_G} {cy : Nat → ClassId} {o oa e0 mi b L x0 : Nat} {ad : Nat → Nat} {xs : Nat → Int32} (C : LC p l s m c D cy o ad oa e0 mi b L xs) {i : Nat} (hi : 4 * i + 3 < L) (hW : LW s D cy o ad oa e0 x0 H locs) (hl : lv_has ls 7 [(0, .ref b), (1, .ref x0), (2, .ref o), (3, .ref oa), (4, .int (nI (4 * i)))]) (hc : cells + 6 ≤ 601024) (hs : slots + 326 ≤ 7293033)
    (kk : ∀ (H1 : Heap) (locs1 : List Loc) (ls1 : Array Slot), LW s D cy o ad oa e0 x0 H1 locs1 → lv_has ls1 7 [(0, .ref b), (1, .ref x0), (2, .ref o), (3, .ref oa), (4, .int (nI (4 * i)))] → W p l e room_1 s m #[Value.ref b] below meth c H1 locs1 (cells + 6) (slots + 326) Q (F0 m 2383 ls1 [])) : W p l e room_1 s m #[Value.ref b] below meth c H locs cells slots Q (F0 m 785 ls []) := by
  obtain ⟨hS, hz, g, S, th, v, hI, ⟨hL, hG, hT, -⟩, h18, hM, hR, hO⟩ := hW
  subst h18
  obtain ⟨hC, hX, hfl, hJ, ⟨ho1, ho2⟩, hML⟩ := id C
  have hx := hC.1.1
  have hb := hC.1.2.1
  have hts := hC.1.2.2.2.2
  have hV : CV e0 g S := ⟨hG, hT, hI.m, hI.k⟩
  have h1 := one_deal S hI.m hI.g (xs (4 * i + 1)) (xs (4 * i + 2)) (xs (4 * i + 3))
  have hkp := kp_deal hI (xs (4 * i + 1)) (xs (4 * i + 2)) (xs (4 * i + 3))
  refine lv_aload_n hx hb dL_law_785 rfl (lv_at hl 1 rfl) ?_
  refine lv_aload_n hx hb dL_law_786 rfl (lv_at hl 0 rfl) ?_
  refine lv_iload hx hb dL_law_787 (lv_at hl 4 rfl) ?_
  refine lv_iconst (v := 1) hx hb dL_law_789 (by decide) ?_
  refine lv_iadd hx hb dL_law_790 ?_
  refine lc_sld hx hb hX hS 1 (by decide) (by omega) dL_law_791 ?_
  refine lv_aload_n hx hb dL_law_792 rfl (lv_at hl 0 rfl) ?_
  refine lv_iload hx hb dL_law_793 (lv_at hl 4 rfl) ?_
  refine lv_iconst (v := 2) hx hb dL_law_795 (by decide) ?_
  refine lv_iadd hx hb dL_law_796 ?_
  refine lc_sld hx hb hX hS 2 (by decide) (by omega) dL_law_797 ?_
  refine lv_aload_n hx hb dL_law_798 rfl (lv_at hl 0 rfl) ?_
  refine lv_iload hx hb dL_law_799 (lv_at hl 4 rfl) ?_
  refine lv_iconst (v := 3) hx hb dL_law_801 (by decide) ?_
  refine lv_iadd hx hb dL_law_802 ?_
  refine lc_sld hx hb hX hS 3 (by decide) (by omega) dL_law_803 ?_
  refine lv_aload_n hx hb dL_law_804 rfl (lv_at hl 3 rfl) ?_
  refine vx_calli (vx_runSX (As := [.ref (ga g 18 0), .int (xs (4 * i + 1)), .int (xs (4 * i + 2)), .int (xs (4 * i + 3)), .ref oa]) (rest := []) hC.1 (qL_deal l hfl (A7 s.heap.size o oa) D cy g hL S e0 mi (oa + 1) oa (fun q h => a7_new h) (a7_oa ho2) hV hI.z hI.n (xs (4 * i + 1)) (xs (4 * i + 2)) (xs (4 * i + 3))) (vx_cwSW 5 hts gL_law_L_deal rfl rfl rfl (by decide +kernel) ⟨Nat.le_of_ble_eq_true rfl, Nat.le_of_ble_eq_true rfl⟩) ⟨LP_blind, fun U hU hW => ⟨rfl, lc_LP C hS hz hM hO hU hW⟩⟩ rfl rfl hl.1 rfl (lv_room (Nat.le_of_ble_eq_true rfl)) dL_law_805 ⟨hc, hs⟩) hS (fun q _ h => h.elim (a7_sz ho1 ho2) (fun h => by rw [h]; omega)) (fun q h => h.elim (a7_sz ho1 ho2) (fun h => by rw [h]; omega)) (fun q _ h => h.elim) (fun E ce q9 u t H1 locs1 ht hvm hp => False.elim hp) (fun r g1 t H1 locs1 ht hvm hp hB hz1 hk1 hS1 => ?_)
  obtain ⟨hr1, hLG⟩ := hp
  obtain ⟨hM1, v1, hO1, hv1⟩ := hB
  rw [ht] at hM1 hO1
  have hR1 := hR.keptA hML (fun q hq ha => hk1 q hq (a8_a7 ha))
  refine lv_istore (lv' := [(5, .int r), (0, .ref b), (1, .ref (ga g 18 0)), (2, .ref o), (3, .ref oa), (4, .int (nI (4 * i)))]) hx hb dL_law_808 hl (by decide) rfl (fun ls hl => ?_)
  refine lv_aload_n hx hb dL_law_810 rfl (lv_at hl 3 rfl) ?_
  refine lv_aload_n hx hb dL_law_811 rfl (lv_at hl 1 rfl) ?_
  refine lv_iload hx hb dL_law_812 (lv_at hl 5 rfl) ?_
  refine lv_iconst (v := 1) hx hb dL_law_814 (by decide) ?_
  refine lv_iadd hx hb dL_law_815 ?_
  refine lc_sld hx hb hX hS1 1 (by decide) (by omega) dL_law_816 ?_
  refine lv_aload_n hx hb dL_law_817 rfl (lv_at hl 1 rfl) ?_
  refine lv_iload hx hb dL_law_818 (lv_at hl 5 rfl) ?_
  refine lv_iconst (v := 2) hx hb dL_law_820 (by decide) ?_
  refine lv_iadd hx hb dL_law_821 ?_
  refine lc_sld hx hb hX hS1 2 (by decide) (by omega) dL_law_822 ?_
  refine lv_aload_n hx hb dL_law_823 rfl (lv_at hl 1 rfl) ?_
  refine lv_iload hx hb dL_law_824 (lv_at hl 5 rfl) ?_
  refine lv_iconst (v := 3) hx hb dL_law_826 (by decide) ?_
  refine lv_iadd hx hb dL_law_827 ?_
  refine lc_sld hx hb hX hS1 3 (by decide) (by omega) dL_law_828 ?_
  refine va_calli (va_runV (As := [.int (xs (4 * i + 1)), .int (xs (4 * i + 2)), .int (xs (4 * i + 3))]) (rest := []) hC.1 (qX8_deal l (A8 o oa) D cy o ad hML S th hI.m (xs (4 * i + 1)) (xs (4 * i + 2)) (xs (4 * i + 3))) (cwV 3 hts gL_law_X8_deal rfl rfl rfl (by decide +kernel) ⟨Nat.le_of_ble_eq_true rfl, Nat.le_of_ble_eq_true rfl⟩) ⟨MP_blind, va_recv hC.2 (p1 hR1.1) (ci := 9) (q0 := 0) rfl rfl, fun U hU hW => ⟨rfl, by rw [hU]; exact hR1, va_K.moved hW.alike hC.2⟩⟩ rfl rfl hl.1 rfl (lv_room (Nat.le_of_ble_eq_true rfl)) dL_law_829 ⟨hc, hs⟩) hS1 (fun q _ h => a8_sz ho1 h) (fun q h => a8_sz ho1 h) (fun r2 u2 t2 H2 locs2 ht2 hvm2 hr2 hB2 hz2 hk2 hS2 => ?_)
  rw [ht2] at hB2
  have hM2 := hM1.keptA hLG.1 (fun q hq ha => hk2 q hq (a7_a8 ho2 ha))
  have hO2 : at1 D oa (LA cy v1) H2 := hO1.kept (hk2 oa hO1.lt a8_oa)
  refine lv_istore (lv' := [(6, .int r2), (5, .int r), (0, .ref b), (1, .ref (ga g 18 0)), (2, .ref o), (3, .ref oa), (4, .int (nI (4 * i)))]) hx hb dL_law_832 hl (by decide) rfl (fun ls hl => ?_)
  refine lv_aload_n hx hb dL_law_834 rfl (lv_at hl 4 rfl) ?_
  refine va_calli (va_runV (As := []) (rest := []) hC.1 (qX8_thrown l D cy o ad (fX8_deal S (xs (4 * i + 1)) (xs (4 * i + 2)) (xs (4 * i + 3))).2.2 (fX8_deal S (xs (4 * i + 1)) (xs (4 * i + 2)) (xs (4 * i + 3))).2.1) (cwV 0 hts gL_law_X8_thrown rfl rfl rfl (by decide +kernel) ⟨Nat.le_of_ble_eq_true rfl, Nat.le_of_ble_eq_true rfl⟩) ⟨MP_blind, va_recv hC.2 (p1 hB2.1) (ci := 9) (q0 := 0) rfl rfl, fun U hU hW => ⟨rfl, by rw [hU]; exact hB2, va_K.moved hW.alike hC.2⟩⟩ rfl rfl hl.1 rfl (lv_room (Nat.le_of_ble_eq_true rfl)) dL_law_835 ⟨hc, hs⟩) hS2 (fun q _ h => h.elim) (fun q h => h.elim) (fun r3 u3 t3 H3 locs3 ht3 hvm3 hr3 _ hz3 hk3 hS3 => ?_)
  have hM3 := hM2.keep (fun q hq => hk3 q hq (fun h => h))
  have hB3 := hB2.keep (fun q hq => hk3 q hq (fun h => h))
  have hO3 : at1 D oa (LA cy v1) H3 := hO2.kept (hk3 oa hO2.lt (fun h => h))
  have hW3 : LW s D cy o ad oa e0 (ga g 18 0) H3 locs3 := lc_fin (x8 := (fX8_deal S (xs (4 * i + 1)) (xs (4 * i + 2)) (xs (4 * i + 3)))) (x7 := (fX7_deal S (xs (4 * i + 1)) (xs (4 * i + 2)) (xs (4 * i + 3)))) hS3 (Nat.lt_of_lt_of_le hz (Nat.le_trans hz1 (Nat.le_trans hz2 hz3))) hkp h1 hLG hM3 hB3 hO3
  have fin : W p l e room_1 s m #[Value.ref b] below meth c H3 locs3 (cells + 6) (slots + 326) Q (F0 m 862 ls []) := by
    refine lv_goto (tgt := 2383) hx hb dL_law_862 (by decide) ?_
    exact kk H3 locs3 ls hW3 (lv_sub hl [2, 3, 4, 5, 6] rfl)
  refine lv_iload hx hb dL_law_838 (lv_at hl 1 rfl) ?_
  refine lv_icmp_eq (tgt := 845) hx hb dL_law_840 (by decide) (fun c1 => ?_) (fun c1 => absurd (hr3.trans (h1.1.trans hr1.symm)) c1)
  refine lv_iload hx hb dL_law_845 (lv_at hl 1 rfl) ?_
  refine lv_if_ne (tgt := 862) hx hb dL_law_847 (by decide) (fun _ => fin) (fun c2 => ?_)
  have hz0 : (fX7_deal S (xs (4 * i + 1)) (xs (4 * i + 2)) (xs (4 * i + 3))).2.1 = 0 := mp3_z (hr1.symm.trans c2)
  have e1 := hv1 hz0
  have e2 := h1.2.1 hz0
  refine lv_aload_n hx hb dL_law_850 rfl (lv_at hl 5 rfl) ?_
  refine lv_iconst (v := 0) hx hb dL_law_851 (by decide) ?_
  refine lc_lald hx hb hC.2 hO3 dL_law_852 ?_
  refine lv_iload hx hb dL_law_853 (lv_at hl 0 rfl) ?_
  refine lv_i2l hx hb dL_law_855 rfl ?_
  refine W.lcmp hx hb dL_law_856 ?_
  exact lv_if_eq (tgt := 862) hx hb dL_law_857 (by decide) (fun _ => fin) (fun c3 => absurd (lc_cmp (by rw [e1, hr2, e2])) c3)
set_option maxHeartbeats 4000000 in
set_option maxRecDepth 100000 in
theorem lc_file {p : Program} {l : Launch} {e : Env} {s : State} {m : MethodId} {below : List Frame} {meth : Method} {c : Code} {H : Heap} {locs : List Loc} {cells slots : Nat} {Q : State → Prop} {ls : Array Slot} {D : va_G} {cy : Nat → ClassId} {o oa e0 mi b L x0 : Nat} {ad : Nat → Nat} {xs : Nat → Int32} (C : LC p l s m c D cy o ad oa e0 mi b L xs) {i : Nat} (hi : 4 * i + 3 < L) (hW : LW s D cy o ad oa e0 x0 H locs) (hl : lv_has ls 7 [(0, .ref b), (1, .ref x0), (2, .ref o), (3, .ref oa), (4, .int (nI (4 * i)))]) (hc : cells + 6 ≤ 601024) (hs : slots + 326 ≤ 7293033)
    (kk : ∀ (H1 : Heap) (locs1 : List Loc) (ls1 : Array Slot), LW s D cy o ad oa e0 x0 H1 locs1 → lv_has ls1 7 [(0, .ref b), (1, .ref x0), (2, .ref o), (3, .ref oa), (4, .int (nI (4 * i)))] → W p l e room_1 s m #[Value.ref b] below meth c H1 locs1 (cells + 6) (slots + 326) Q (F0 m 2383 ls1 [])) : W p l e room_1 s m #[Value.ref b] below meth c H locs cells slots Q (F0 m 865 ls []) := by
  obtain ⟨hS, hz, g, S, th, v, hI, ⟨hL, hG, hT, -⟩, h18, hM, hR, hO⟩ := hW
  subst h18
  obtain ⟨hC, hX, hfl, hJ, ⟨ho1, ho2⟩, hML⟩ := id C
  have hx := hC.1.1
  have hb := hC.1.2.1
  have hts := hC.1.2.2.2.2
  have hV : CV e0 g S := ⟨hG, hT, hI.m, hI.k⟩
  have h1 := one_file S hI.m (xs (4 * i + 1)) (xs (4 * i + 2)) (xs (4 * i + 3))
  have hkp := kp_file hI (xs (4 * i + 1)) (xs (4 * i + 2)) (xs (4 * i + 3))
  refine lv_aload_n hx hb dL_law_865 rfl (lv_at hl 1 rfl) ?_
  refine lv_aload_n hx hb dL_law_866 rfl (lv_at hl 0 rfl) ?_
  refine lv_iload hx hb dL_law_867 (lv_at hl 4 rfl) ?_
  refine lv_iconst (v := 1) hx hb dL_law_869 (by decide) ?_
  refine lv_iadd hx hb dL_law_870 ?_
  refine lc_sld hx hb hX hS 1 (by decide) (by omega) dL_law_871 ?_
  refine lv_aload_n hx hb dL_law_872 rfl (lv_at hl 0 rfl) ?_
  refine lv_iload hx hb dL_law_873 (lv_at hl 4 rfl) ?_
  refine lv_iconst (v := 2) hx hb dL_law_875 (by decide) ?_
  refine lv_iadd hx hb dL_law_876 ?_
  refine lc_sld hx hb hX hS 2 (by decide) (by omega) dL_law_877 ?_
  refine lv_aload_n hx hb dL_law_878 rfl (lv_at hl 0 rfl) ?_
  refine lv_iload hx hb dL_law_879 (lv_at hl 4 rfl) ?_
  refine lv_iconst (v := 3) hx hb dL_law_881 (by decide) ?_
  refine lv_iadd hx hb dL_law_882 ?_
  refine lc_sld hx hb hX hS 3 (by decide) (by omega) dL_law_883 ?_
  refine lv_aload_n hx hb dL_law_884 rfl (lv_at hl 3 rfl) ?_
  refine vx_calli (vx_runSX (As := [.ref (ga g 18 0), .int (xs (4 * i + 1)), .int (xs (4 * i + 2)), .int (xs (4 * i + 3)), .ref oa]) (rest := []) hC.1 (qL_file l hfl (A7 s.heap.size o oa) D cy g hL S e0 mi (oa + 1) oa (fun q h => a7_new h) (a7_oa ho2) hV hI.z hI.n (xs (4 * i + 1)) (xs (4 * i + 2)) (xs (4 * i + 3))) (vx_cwSW 5 hts gL_law_L_file rfl rfl rfl (by decide +kernel) ⟨Nat.le_of_ble_eq_true rfl, Nat.le_of_ble_eq_true rfl⟩) ⟨LP_blind, fun U hU hW => ⟨rfl, lc_LP C hS hz hM hO hU hW⟩⟩ rfl rfl hl.1 rfl (lv_room (Nat.le_of_ble_eq_true rfl)) dL_law_885 ⟨hc, hs⟩) hS (fun q _ h => h.elim (a7_sz ho1 ho2) (fun h => by rw [h]; omega)) (fun q h => h.elim (a7_sz ho1 ho2) (fun h => by rw [h]; omega)) (fun q _ h => h.elim) (fun E ce q9 u t H1 locs1 ht hvm hp => False.elim hp) (fun r g1 t H1 locs1 ht hvm hp hB hz1 hk1 hS1 => ?_)
  obtain ⟨hr1, hLG⟩ := hp
  obtain ⟨hM1, v1, hO1, hv1⟩ := hB
  rw [ht] at hM1 hO1
  have hR1 := hR.keptA hML (fun q hq ha => hk1 q hq (a8_a7 ha))
  refine lv_istore (lv' := [(5, .int r), (0, .ref b), (1, .ref (ga g 18 0)), (2, .ref o), (3, .ref oa), (4, .int (nI (4 * i)))]) hx hb dL_law_888 hl (by decide) rfl (fun ls hl => ?_)
  refine lv_aload_n hx hb dL_law_890 rfl (lv_at hl 3 rfl) ?_
  refine lv_aload_n hx hb dL_law_891 rfl (lv_at hl 1 rfl) ?_
  refine lv_iload hx hb dL_law_892 (lv_at hl 5 rfl) ?_
  refine lv_iconst (v := 1) hx hb dL_law_894 (by decide) ?_
  refine lv_iadd hx hb dL_law_895 ?_
  refine lc_sld hx hb hX hS1 1 (by decide) (by omega) dL_law_896 ?_
  refine lv_aload_n hx hb dL_law_897 rfl (lv_at hl 1 rfl) ?_
  refine lv_iload hx hb dL_law_898 (lv_at hl 5 rfl) ?_
  refine lv_iconst (v := 2) hx hb dL_law_900 (by decide) ?_
  refine lv_iadd hx hb dL_law_901 ?_
  refine lc_sld hx hb hX hS1 2 (by decide) (by omega) dL_law_902 ?_
  refine lv_aload_n hx hb dL_law_903 rfl (lv_at hl 1 rfl) ?_
  refine lv_iload hx hb dL_law_904 (lv_at hl 5 rfl) ?_
  refine lv_iconst (v := 3) hx hb dL_law_906 (by decide) ?_
  refine lv_iadd hx hb dL_law_907 ?_
  refine lc_sld hx hb hX hS1 3 (by decide) (by omega) dL_law_908 ?_
  refine va_calli (va_runV (As := [.int (xs (4 * i + 1)), .int (xs (4 * i + 2)), .int (xs (4 * i + 3))]) (rest := []) hC.1 (qX8_file l (A8 o oa) D cy o ad hML S th hI.m (xs (4 * i + 1)) (xs (4 * i + 2)) (xs (4 * i + 3))) (cwV 3 hts gL_law_X8_file rfl rfl rfl (by decide +kernel) ⟨Nat.le_of_ble_eq_true rfl, Nat.le_of_ble_eq_true rfl⟩) ⟨MP_blind, va_recv hC.2 (p1 hR1.1) (ci := 9) (q0 := 0) rfl rfl, fun U hU hW => ⟨rfl, by rw [hU]; exact hR1, va_K.moved hW.alike hC.2⟩⟩ rfl rfl hl.1 rfl (lv_room (Nat.le_of_ble_eq_true rfl)) dL_law_909 ⟨hc, hs⟩) hS1 (fun q _ h => a8_sz ho1 h) (fun q h => a8_sz ho1 h) (fun r2 u2 t2 H2 locs2 ht2 hvm2 hr2 hB2 hz2 hk2 hS2 => ?_)
  rw [ht2] at hB2
  have hM2 := hM1.keptA hLG.1 (fun q hq ha => hk2 q hq (a7_a8 ho2 ha))
  have hO2 : at1 D oa (LA cy v1) H2 := hO1.kept (hk2 oa hO1.lt a8_oa)
  refine lv_istore (lv' := [(6, .int r2), (5, .int r), (0, .ref b), (1, .ref (ga g 18 0)), (2, .ref o), (3, .ref oa), (4, .int (nI (4 * i)))]) hx hb dL_law_912 hl (by decide) rfl (fun ls hl => ?_)
  refine lv_aload_n hx hb dL_law_914 rfl (lv_at hl 4 rfl) ?_
  refine va_calli (va_runV (As := []) (rest := []) hC.1 (qX8_thrown l D cy o ad (fX8_file S (xs (4 * i + 1)) (xs (4 * i + 2)) (xs (4 * i + 3))).2.2 (fX8_file S (xs (4 * i + 1)) (xs (4 * i + 2)) (xs (4 * i + 3))).2.1) (cwV 0 hts gL_law_X8_thrown rfl rfl rfl (by decide +kernel) ⟨Nat.le_of_ble_eq_true rfl, Nat.le_of_ble_eq_true rfl⟩) ⟨MP_blind, va_recv hC.2 (p1 hB2.1) (ci := 9) (q0 := 0) rfl rfl, fun U hU hW => ⟨rfl, by rw [hU]; exact hB2, va_K.moved hW.alike hC.2⟩⟩ rfl rfl hl.1 rfl (lv_room (Nat.le_of_ble_eq_true rfl)) dL_law_915 ⟨hc, hs⟩) hS2 (fun q _ h => h.elim) (fun q h => h.elim) (fun r3 u3 t3 H3 locs3 ht3 hvm3 hr3 _ hz3 hk3 hS3 => ?_)
  have hM3 := hM2.keep (fun q hq => hk3 q hq (fun h => h))
  have hB3 := hB2.keep (fun q hq => hk3 q hq (fun h => h))
  have hO3 : at1 D oa (LA cy v1) H3 := hO2.kept (hk3 oa hO2.lt (fun h => h))
  have hW3 : LW s D cy o ad oa e0 (ga g 18 0) H3 locs3 := lc_fin (x8 := (fX8_file S (xs (4 * i + 1)) (xs (4 * i + 2)) (xs (4 * i + 3)))) (x7 := (fX7_file S (xs (4 * i + 1)) (xs (4 * i + 2)) (xs (4 * i + 3)))) hS3 (Nat.lt_of_lt_of_le hz (Nat.le_trans hz1 (Nat.le_trans hz2 hz3))) hkp h1 hLG hM3 hB3 hO3
  have fin : W p l e room_1 s m #[Value.ref b] below meth c H3 locs3 (cells + 6) (slots + 326) Q (F0 m 942 ls []) := by
    refine lv_goto (tgt := 2383) hx hb dL_law_942 (by decide) ?_
    exact kk H3 locs3 ls hW3 (lv_sub hl [2, 3, 4, 5, 6] rfl)
  refine lv_iload hx hb dL_law_918 (lv_at hl 1 rfl) ?_
  refine lv_icmp_eq (tgt := 925) hx hb dL_law_920 (by decide) (fun c1 => ?_) (fun c1 => absurd (hr3.trans (h1.1.trans hr1.symm)) c1)
  refine lv_iload hx hb dL_law_925 (lv_at hl 1 rfl) ?_
  refine lv_if_ne (tgt := 942) hx hb dL_law_927 (by decide) (fun _ => fin) (fun c2 => ?_)
  have hz0 : (fX7_file S (xs (4 * i + 1)) (xs (4 * i + 2)) (xs (4 * i + 3))).2.1 = 0 := mp3_z (hr1.symm.trans c2)
  have e1 := hv1 hz0
  have e2 := h1.2.1 hz0
  refine lv_aload_n hx hb dL_law_930 rfl (lv_at hl 5 rfl) ?_
  refine lv_iconst (v := 0) hx hb dL_law_931 (by decide) ?_
  refine lc_lald hx hb hC.2 hO3 dL_law_932 ?_
  refine lv_iload hx hb dL_law_933 (lv_at hl 0 rfl) ?_
  refine lv_i2l hx hb dL_law_935 rfl ?_
  refine W.lcmp hx hb dL_law_936 ?_
  exact lv_if_eq (tgt := 942) hx hb dL_law_937 (by decide) (fun _ => fin) (fun c3 => absurd (lc_cmp (by rw [e1, hr2, e2])) c3)
set_option maxHeartbeats 4000000 in
set_option maxRecDepth 100000 in
theorem lc_amend {p : Program} {l : Launch} {e : Env} {s : State} {m : MethodId} {below : List Frame} {meth : Method} {c : Code} {H : Heap} {locs : List Loc} {cells slots : Nat} {Q : State → Prop} {ls : Array Slot} {D : va_G} {cy : Nat → ClassId} {o oa e0 mi b L x0 : Nat} {ad : Nat → Nat} {xs : Nat → Int32} (C : LC p l s m c D cy o ad oa e0 mi b L xs) {i : Nat} (hi : 4 * i + 3 < L) (hW : LW s D cy o ad oa e0 x0 H locs) (hl : lv_has ls 7 [(0, .ref b), (1, .ref x0), (2, .ref o), (3, .ref oa), (4, .int (nI (4 * i)))]) (hc : cells + 6 ≤ 601024) (hs : slots + 326 ≤ 7293033)
    (kk : ∀ (H1 : Heap) (locs1 : List Loc) (ls1 : Array Slot), LW s D cy o ad oa e0 x0 H1 locs1 → lv_has ls1 7 [(0, .ref b), (1, .ref x0), (2, .ref o), (3, .ref oa), (4, .int (nI (4 * i)))] → W p l e room_1 s m #[Value.ref b] below meth c H1 locs1 (cells + 6) (slots + 326) Q (F0 m 2383 ls1 [])) : W p l e room_1 s m #[Value.ref b] below meth c H locs cells slots Q (F0 m 945 ls []) := by
  obtain ⟨hS, hz, g, S, th, v, hI, ⟨hL, hG, hT, -⟩, h18, hM, hR, hO⟩ := hW
  subst h18
  obtain ⟨hC, hX, hfl, hJ, ⟨ho1, ho2⟩, hML⟩ := id C
  have hx := hC.1.1
  have hb := hC.1.2.1
  have hts := hC.1.2.2.2.2
  have hV : CV e0 g S := ⟨hG, hT, hI.m, hI.k⟩
  have h1 := one_amend S hI.m hI.st hI.p (xs (4 * i + 1)) (xs (4 * i + 2))
  have hkp := kp_amend hI (xs (4 * i + 1)) (xs (4 * i + 2))
  refine lv_aload_n hx hb dL_law_945 rfl (lv_at hl 1 rfl) ?_
  refine lv_aload_n hx hb dL_law_946 rfl (lv_at hl 0 rfl) ?_
  refine lv_iload hx hb dL_law_947 (lv_at hl 4 rfl) ?_
  refine lv_iconst (v := 1) hx hb dL_law_949 (by decide) ?_
  refine lv_iadd hx hb dL_law_950 ?_
  refine lc_sld hx hb hX hS 1 (by decide) (by omega) dL_law_951 ?_
  refine lv_aload_n hx hb dL_law_952 rfl (lv_at hl 0 rfl) ?_
  refine lv_iload hx hb dL_law_953 (lv_at hl 4 rfl) ?_
  refine lv_iconst (v := 2) hx hb dL_law_955 (by decide) ?_
  refine lv_iadd hx hb dL_law_956 ?_
  refine lc_sld hx hb hX hS 2 (by decide) (by omega) dL_law_957 ?_
  refine lv_aload_n hx hb dL_law_958 rfl (lv_at hl 3 rfl) ?_
  refine vx_calli (vx_runSX (As := [.ref (ga g 18 0), .int (xs (4 * i + 1)), .int (xs (4 * i + 2)), .ref oa]) (rest := []) hC.1 (qL_amend l hfl (A7 s.heap.size o oa) D cy g hL S e0 mi (oa + 1) oa (fun q h => a7_new h) (a7_oa ho2) hV hI.z hI.n (xs (4 * i + 1)) (xs (4 * i + 2))) (vx_cwSW 4 hts gL_law_L_amend rfl rfl rfl (by decide +kernel) ⟨Nat.le_of_ble_eq_true rfl, Nat.le_of_ble_eq_true rfl⟩) ⟨LP_blind, fun U hU hW => ⟨rfl, lc_LP C hS hz hM hO hU hW⟩⟩ rfl rfl hl.1 rfl (lv_room (Nat.le_of_ble_eq_true rfl)) dL_law_959 ⟨hc, hs⟩) hS (fun q _ h => h.elim (a7_sz ho1 ho2) (fun h => by rw [h]; omega)) (fun q h => h.elim (a7_sz ho1 ho2) (fun h => by rw [h]; omega)) (fun q _ h => h.elim) (fun E ce q9 u t H1 locs1 ht hvm hp => False.elim hp) (fun r g1 t H1 locs1 ht hvm hp hB hz1 hk1 hS1 => ?_)
  obtain ⟨hr1, hLG⟩ := hp
  obtain ⟨hM1, v1, hO1, hv1⟩ := hB
  rw [ht] at hM1 hO1
  have hR1 := hR.keptA hML (fun q hq ha => hk1 q hq (a8_a7 ha))
  refine lv_istore (lv' := [(5, .int r), (0, .ref b), (1, .ref (ga g 18 0)), (2, .ref o), (3, .ref oa), (4, .int (nI (4 * i)))]) hx hb dL_law_962 hl (by decide) rfl (fun ls hl => ?_)
  refine lv_aload_n hx hb dL_law_964 rfl (lv_at hl 3 rfl) ?_
  refine lv_aload_n hx hb dL_law_965 rfl (lv_at hl 1 rfl) ?_
  refine lv_iload hx hb dL_law_966 (lv_at hl 5 rfl) ?_
  refine lv_iconst (v := 1) hx hb dL_law_968 (by decide) ?_
  refine lv_iadd hx hb dL_law_969 ?_
  refine lc_sld hx hb hX hS1 1 (by decide) (by omega) dL_law_970 ?_
  refine lv_aload_n hx hb dL_law_971 rfl (lv_at hl 1 rfl) ?_
  refine lv_iload hx hb dL_law_972 (lv_at hl 5 rfl) ?_
  refine lv_iconst (v := 2) hx hb dL_law_974 (by decide) ?_
  refine lv_iadd hx hb dL_law_975 ?_
  refine lc_sld hx hb hX hS1 2 (by decide) (by omega) dL_law_976 ?_
  refine va_calli (va_runV (As := [.int (xs (4 * i + 1)), .int (xs (4 * i + 2))]) (rest := []) hC.1 (qX8_amend l (A8 o oa) D cy o ad hML S th hI.m (xs (4 * i + 1)) (xs (4 * i + 2))) (cwV 2 hts gL_law_X8_amend rfl rfl rfl (by decide +kernel) ⟨Nat.le_of_ble_eq_true rfl, Nat.le_of_ble_eq_true rfl⟩) ⟨MP_blind, va_recv hC.2 (p1 hR1.1) (ci := 9) (q0 := 0) rfl rfl, fun U hU hW => ⟨rfl, by rw [hU]; exact hR1, va_K.moved hW.alike hC.2⟩⟩ rfl rfl hl.1 rfl (lv_room (Nat.le_of_ble_eq_true rfl)) dL_law_977 ⟨hc, hs⟩) hS1 (fun q _ h => a8_sz ho1 h) (fun q h => a8_sz ho1 h) (fun r2 u2 t2 H2 locs2 ht2 hvm2 hr2 hB2 hz2 hk2 hS2 => ?_)
  rw [ht2] at hB2
  have hM2 := hM1.keptA hLG.1 (fun q hq ha => hk2 q hq (a7_a8 ho2 ha))
  have hO2 : at1 D oa (LA cy v1) H2 := hO1.kept (hk2 oa hO1.lt a8_oa)
  refine lv_istore (lv' := [(6, .int r2), (5, .int r), (0, .ref b), (1, .ref (ga g 18 0)), (2, .ref o), (3, .ref oa), (4, .int (nI (4 * i)))]) hx hb dL_law_980 hl (by decide) rfl (fun ls hl => ?_)
  refine lv_aload_n hx hb dL_law_982 rfl (lv_at hl 4 rfl) ?_
  refine va_calli (va_runV (As := []) (rest := []) hC.1 (qX8_thrown l D cy o ad (fX8_amend S (xs (4 * i + 1)) (xs (4 * i + 2))).2.2 (fX8_amend S (xs (4 * i + 1)) (xs (4 * i + 2))).2.1) (cwV 0 hts gL_law_X8_thrown rfl rfl rfl (by decide +kernel) ⟨Nat.le_of_ble_eq_true rfl, Nat.le_of_ble_eq_true rfl⟩) ⟨MP_blind, va_recv hC.2 (p1 hB2.1) (ci := 9) (q0 := 0) rfl rfl, fun U hU hW => ⟨rfl, by rw [hU]; exact hB2, va_K.moved hW.alike hC.2⟩⟩ rfl rfl hl.1 rfl (lv_room (Nat.le_of_ble_eq_true rfl)) dL_law_983 ⟨hc, hs⟩) hS2 (fun q _ h => h.elim) (fun q h => h.elim) (fun r3 u3 t3 H3 locs3 ht3 hvm3 hr3 _ hz3 hk3 hS3 => ?_)
  have hM3 := hM2.keep (fun q hq => hk3 q hq (fun h => h))
  have hB3 := hB2.keep (fun q hq => hk3 q hq (fun h => h))
  have hO3 : at1 D oa (LA cy v1) H3 := hO2.kept (hk3 oa hO2.lt (fun h => h))
  have hW3 : LW s D cy o ad oa e0 (ga g 18 0) H3 locs3 := lc_fin (x8 := (fX8_amend S (xs (4 * i + 1)) (xs (4 * i + 2)))) (x7 := (fX7_amend S (xs (4 * i + 1)) (xs (4 * i + 2)))) hS3 (Nat.lt_of_lt_of_le hz (Nat.le_trans hz1 (Nat.le_trans hz2 hz3))) hkp h1 hLG hM3 hB3 hO3
  have fin : W p l e room_1 s m #[Value.ref b] below meth c H3 locs3 (cells + 6) (slots + 326) Q (F0 m 1010 ls []) := by
    refine lv_goto (tgt := 2383) hx hb dL_law_1010 (by decide) ?_
    exact kk H3 locs3 ls hW3 (lv_sub hl [2, 3, 4, 5, 6] rfl)
  refine lv_iload hx hb dL_law_986 (lv_at hl 1 rfl) ?_
  refine lv_icmp_eq (tgt := 993) hx hb dL_law_988 (by decide) (fun c1 => ?_) (fun c1 => absurd (hr3.trans (h1.1.trans hr1.symm)) c1)
  refine lv_iload hx hb dL_law_993 (lv_at hl 1 rfl) ?_
  refine lv_if_ne (tgt := 1010) hx hb dL_law_995 (by decide) (fun _ => fin) (fun c2 => ?_)
  have hz0 : (fX7_amend S (xs (4 * i + 1)) (xs (4 * i + 2))).2.1 = 0 := mp3_z (hr1.symm.trans c2)
  have e1 := hv1 hz0
  have e2 := h1.2.1 hz0
  refine lv_aload_n hx hb dL_law_998 rfl (lv_at hl 5 rfl) ?_
  refine lv_iconst (v := 0) hx hb dL_law_999 (by decide) ?_
  refine lc_lald hx hb hC.2 hO3 dL_law_1000 ?_
  refine lv_iload hx hb dL_law_1001 (lv_at hl 0 rfl) ?_
  refine lv_i2l hx hb dL_law_1003 rfl ?_
  refine W.lcmp hx hb dL_law_1004 ?_
  exact lv_if_eq (tgt := 1010) hx hb dL_law_1005 (by decide) (fun _ => fin) (fun c3 => absurd (lc_cmp (by rw [e1, hr2, e2])) c3)
set_option maxHeartbeats 4000000 in
set_option maxRecDepth 100000 in
theorem lc_extend {p : Program} {l : Launch} {e : Env} {s : State} {m : MethodId} {below : List Frame} {meth : Method} {c : Code} {H : Heap} {locs : List Loc} {cells slots : Nat} {Q : State → Prop} {ls : Array Slot} {D : va_G} {cy : Nat → ClassId} {o oa e0 mi b L x0 : Nat} {ad : Nat → Nat} {xs : Nat → Int32} (C : LC p l s m c D cy o ad oa e0 mi b L xs) {i : Nat} (hi : 4 * i + 3 < L) (hW : LW s D cy o ad oa e0 x0 H locs) (hl : lv_has ls 7 [(0, .ref b), (1, .ref x0), (2, .ref o), (3, .ref oa), (4, .int (nI (4 * i)))]) (hc : cells + 6 ≤ 601024) (hs : slots + 326 ≤ 7293033)
    (kk : ∀ (H1 : Heap) (locs1 : List Loc) (ls1 : Array Slot), LW s D cy o ad oa e0 x0 H1 locs1 → lv_has ls1 7 [(0, .ref b), (1, .ref x0), (2, .ref o), (3, .ref oa), (4, .int (nI (4 * i)))] → W p l e room_1 s m #[Value.ref b] below meth c H1 locs1 (cells + 6) (slots + 326) Q (F0 m 2383 ls1 [])) : W p l e room_1 s m #[Value.ref b] below meth c H locs cells slots Q (F0 m 1013 ls []) := by
  obtain ⟨hS, hz, g, S, th, v, hI, ⟨hL, hG, hT, -⟩, h18, hM, hR, hO⟩ := hW
  subst h18
  obtain ⟨hC, hX, hfl, hJ, ⟨ho1, ho2⟩, hML⟩ := id C
  have hx := hC.1.1
  have hb := hC.1.2.1
  have hts := hC.1.2.2.2.2
  have hV : CV e0 g S := ⟨hG, hT, hI.m, hI.k⟩
  have h1 := one_extend S hI.m hI.o.x (xs (4 * i + 1))
  have hkp := kp_extend hI (xs (4 * i + 1))
  refine lv_aload_n hx hb dL_law_1013 rfl (lv_at hl 1 rfl) ?_
  refine lv_aload_n hx hb dL_law_1014 rfl (lv_at hl 0 rfl) ?_
  refine lv_iload hx hb dL_law_1015 (lv_at hl 4 rfl) ?_
  refine lv_iconst (v := 1) hx hb dL_law_1017 (by decide) ?_
  refine lv_iadd hx hb dL_law_1018 ?_
  refine lc_sld hx hb hX hS 1 (by decide) (by omega) dL_law_1019 ?_
  refine lv_aload_n hx hb dL_law_1020 rfl (lv_at hl 3 rfl) ?_
  refine vx_calli (vx_runSX (As := [.ref (ga g 18 0), .int (xs (4 * i + 1)), .ref oa]) (rest := []) hC.1 (qL_extend l hfl (A7 s.heap.size o oa) D cy g hL S e0 mi (oa + 1) oa (fun q h => a7_new h) (a7_oa ho2) hV hI.z hI.n (xs (4 * i + 1))) (vx_cwSW 3 hts gL_law_L_extend rfl rfl rfl (by decide +kernel) ⟨Nat.le_of_ble_eq_true rfl, Nat.le_of_ble_eq_true rfl⟩) ⟨LP_blind, fun U hU hW => ⟨rfl, lc_LP C hS hz hM hO hU hW⟩⟩ rfl rfl hl.1 rfl (lv_room (Nat.le_of_ble_eq_true rfl)) dL_law_1021 ⟨hc, hs⟩) hS (fun q _ h => h.elim (a7_sz ho1 ho2) (fun h => by rw [h]; omega)) (fun q h => h.elim (a7_sz ho1 ho2) (fun h => by rw [h]; omega)) (fun q _ h => h.elim) (fun E ce q9 u t H1 locs1 ht hvm hp => False.elim hp) (fun r g1 t H1 locs1 ht hvm hp hB hz1 hk1 hS1 => ?_)
  obtain ⟨hr1, hLG⟩ := hp
  obtain ⟨hM1, v1, hO1, hv1⟩ := hB
  rw [ht] at hM1 hO1
  have hR1 := hR.keptA hML (fun q hq ha => hk1 q hq (a8_a7 ha))
  refine lv_istore (lv' := [(5, .int r), (0, .ref b), (1, .ref (ga g 18 0)), (2, .ref o), (3, .ref oa), (4, .int (nI (4 * i)))]) hx hb dL_law_1024 hl (by decide) rfl (fun ls hl => ?_)
  refine lv_aload_n hx hb dL_law_1026 rfl (lv_at hl 3 rfl) ?_
  refine lv_aload_n hx hb dL_law_1027 rfl (lv_at hl 1 rfl) ?_
  refine lv_iload hx hb dL_law_1028 (lv_at hl 5 rfl) ?_
  refine lv_iconst (v := 1) hx hb dL_law_1030 (by decide) ?_
  refine lv_iadd hx hb dL_law_1031 ?_
  refine lc_sld hx hb hX hS1 1 (by decide) (by omega) dL_law_1032 ?_
  refine va_calli (va_runV (As := [.int (xs (4 * i + 1))]) (rest := []) hC.1 (qX8_extend l (A8 o oa) D cy o ad hML S th hI.m (xs (4 * i + 1))) (cwV 1 hts gL_law_X8_extend rfl rfl rfl (by decide +kernel) ⟨Nat.le_of_ble_eq_true rfl, Nat.le_of_ble_eq_true rfl⟩) ⟨MP_blind, va_recv hC.2 (p1 hR1.1) (ci := 9) (q0 := 0) rfl rfl, fun U hU hW => ⟨rfl, by rw [hU]; exact hR1, va_K.moved hW.alike hC.2⟩⟩ rfl rfl hl.1 rfl (lv_room (Nat.le_of_ble_eq_true rfl)) dL_law_1033 ⟨hc, hs⟩) hS1 (fun q _ h => a8_sz ho1 h) (fun q h => a8_sz ho1 h) (fun r2 u2 t2 H2 locs2 ht2 hvm2 hr2 hB2 hz2 hk2 hS2 => ?_)
  rw [ht2] at hB2
  have hM2 := hM1.keptA hLG.1 (fun q hq ha => hk2 q hq (a7_a8 ho2 ha))
  have hO2 : at1 D oa (LA cy v1) H2 := hO1.kept (hk2 oa hO1.lt a8_oa)
  refine lv_istore (lv' := [(6, .int r2), (5, .int r), (0, .ref b), (1, .ref (ga g 18 0)), (2, .ref o), (3, .ref oa), (4, .int (nI (4 * i)))]) hx hb dL_law_1036 hl (by decide) rfl (fun ls hl => ?_)
  refine lv_aload_n hx hb dL_law_1038 rfl (lv_at hl 4 rfl) ?_
  refine va_calli (va_runV (As := []) (rest := []) hC.1 (qX8_thrown l D cy o ad (fX8_extend S (xs (4 * i + 1))).2.2 (fX8_extend S (xs (4 * i + 1))).2.1) (cwV 0 hts gL_law_X8_thrown rfl rfl rfl (by decide +kernel) ⟨Nat.le_of_ble_eq_true rfl, Nat.le_of_ble_eq_true rfl⟩) ⟨MP_blind, va_recv hC.2 (p1 hB2.1) (ci := 9) (q0 := 0) rfl rfl, fun U hU hW => ⟨rfl, by rw [hU]; exact hB2, va_K.moved hW.alike hC.2⟩⟩ rfl rfl hl.1 rfl (lv_room (Nat.le_of_ble_eq_true rfl)) dL_law_1039 ⟨hc, hs⟩) hS2 (fun q _ h => h.elim) (fun q h => h.elim) (fun r3 u3 t3 H3 locs3 ht3 hvm3 hr3 _ hz3 hk3 hS3 => ?_)
  have hM3 := hM2.keep (fun q hq => hk3 q hq (fun h => h))
  have hB3 := hB2.keep (fun q hq => hk3 q hq (fun h => h))
  have hO3 : at1 D oa (LA cy v1) H3 := hO2.kept (hk3 oa hO2.lt (fun h => h))
  have hW3 : LW s D cy o ad oa e0 (ga g 18 0) H3 locs3 := lc_fin (x8 := (fX8_extend S (xs (4 * i + 1)))) (x7 := (fX7_extend S (xs (4 * i + 1)))) hS3 (Nat.lt_of_lt_of_le hz (Nat.le_trans hz1 (Nat.le_trans hz2 hz3))) hkp h1 hLG hM3 hB3 hO3
  have fin : W p l e room_1 s m #[Value.ref b] below meth c H3 locs3 (cells + 6) (slots + 326) Q (F0 m 1066 ls []) := by
    refine lv_goto (tgt := 2383) hx hb dL_law_1066 (by decide) ?_
    exact kk H3 locs3 ls hW3 (lv_sub hl [2, 3, 4, 5, 6] rfl)
  refine lv_iload hx hb dL_law_1042 (lv_at hl 1 rfl) ?_
  refine lv_icmp_eq (tgt := 1049) hx hb dL_law_1044 (by decide) (fun c1 => ?_) (fun c1 => absurd (hr3.trans (h1.1.trans hr1.symm)) c1)
  refine lv_iload hx hb dL_law_1049 (lv_at hl 1 rfl) ?_
  refine lv_if_ne (tgt := 1066) hx hb dL_law_1051 (by decide) (fun _ => fin) (fun c2 => ?_)
  have hz0 : (fX7_extend S (xs (4 * i + 1))).2.1 = 0 := mp13_z (hr1.symm.trans c2)
  have e1 := hv1 hz0
  have e2 := h1.2.1 hz0
  refine lv_aload_n hx hb dL_law_1054 rfl (lv_at hl 5 rfl) ?_
  refine lv_iconst (v := 0) hx hb dL_law_1055 (by decide) ?_
  refine lc_lald hx hb hC.2 hO3 dL_law_1056 ?_
  refine lv_iload hx hb dL_law_1057 (lv_at hl 0 rfl) ?_
  refine lv_i2l hx hb dL_law_1059 rfl ?_
  refine W.lcmp hx hb dL_law_1060 ?_
  exact lv_if_eq (tgt := 1066) hx hb dL_law_1061 (by decide) (fun _ => fin) (fun c3 => absurd (lc_cmp (by rw [e1, hr2, e2])) c3)
set_option maxHeartbeats 4000000 in
set_option maxRecDepth 100000 in
theorem lc_choose {p : Program} {l : Launch} {e : Env} {s : State} {m : MethodId} {below : List Frame} {meth : Method} {c : Code} {H : Heap} {locs : List Loc} {cells slots : Nat} {Q : State → Prop} {ls : Array Slot} {D : va_G} {cy : Nat → ClassId} {o oa e0 mi b L x0 : Nat} {ad : Nat → Nat} {xs : Nat → Int32} (C : LC p l s m c D cy o ad oa e0 mi b L xs) {i : Nat} (hi : 4 * i + 3 < L) (hW : LW s D cy o ad oa e0 x0 H locs) (hl : lv_has ls 7 [(0, .ref b), (1, .ref x0), (2, .ref o), (3, .ref oa), (4, .int (nI (4 * i)))]) (hc : cells + 6 ≤ 601024) (hs : slots + 326 ≤ 7293033)
    (kk : ∀ (H1 : Heap) (locs1 : List Loc) (ls1 : Array Slot), LW s D cy o ad oa e0 x0 H1 locs1 → lv_has ls1 7 [(0, .ref b), (1, .ref x0), (2, .ref o), (3, .ref oa), (4, .int (nI (4 * i)))] → W p l e room_1 s m #[Value.ref b] below meth c H1 locs1 (cells + 6) (slots + 326) Q (F0 m 2383 ls1 [])) : W p l e room_1 s m #[Value.ref b] below meth c H locs cells slots Q (F0 m 1069 ls []) := by
  obtain ⟨hS, hz, g, S, th, v, hI, ⟨hL, hG, hT, -⟩, h18, hM, hR, hO⟩ := hW
  subst h18
  obtain ⟨hC, hX, hfl, hJ, ⟨ho1, ho2⟩, hML⟩ := id C
  have hx := hC.1.1
  have hb := hC.1.2.1
  have hts := hC.1.2.2.2.2
  have hV : CV e0 g S := ⟨hG, hT, hI.m, hI.k⟩
  have h1 := one_choose S hI.m hI.st (xs (4 * i + 1)) (xs (4 * i + 2))
  have hkp := kp_choose hI (xs (4 * i + 1)) (xs (4 * i + 2))
  refine lv_aload_n hx hb dL_law_1069 rfl (lv_at hl 1 rfl) ?_
  refine lv_aload_n hx hb dL_law_1070 rfl (lv_at hl 0 rfl) ?_
  refine lv_iload hx hb dL_law_1071 (lv_at hl 4 rfl) ?_
  refine lv_iconst (v := 1) hx hb dL_law_1073 (by decide) ?_
  refine lv_iadd hx hb dL_law_1074 ?_
  refine lc_sld hx hb hX hS 1 (by decide) (by omega) dL_law_1075 ?_
  refine lv_aload_n hx hb dL_law_1076 rfl (lv_at hl 0 rfl) ?_
  refine lv_iload hx hb dL_law_1077 (lv_at hl 4 rfl) ?_
  refine lv_iconst (v := 2) hx hb dL_law_1079 (by decide) ?_
  refine lv_iadd hx hb dL_law_1080 ?_
  refine lc_sld hx hb hX hS 2 (by decide) (by omega) dL_law_1081 ?_
  refine lv_aload_n hx hb dL_law_1082 rfl (lv_at hl 3 rfl) ?_
  refine vx_calli (vx_runSX (As := [.ref (ga g 18 0), .int (xs (4 * i + 1)), .int (xs (4 * i + 2)), .ref oa]) (rest := []) hC.1 (qL_choose l hfl (A7 s.heap.size o oa) D cy g hL S e0 mi (oa + 1) oa (fun q h => a7_new h) (a7_oa ho2) hV hI.z hI.n (xs (4 * i + 1)) (xs (4 * i + 2))) (vx_cwSW 4 hts gL_law_L_choose rfl rfl rfl (by decide +kernel) ⟨Nat.le_of_ble_eq_true rfl, Nat.le_of_ble_eq_true rfl⟩) ⟨LP_blind, fun U hU hW => ⟨rfl, lc_LP C hS hz hM hO hU hW⟩⟩ rfl rfl hl.1 rfl (lv_room (Nat.le_of_ble_eq_true rfl)) dL_law_1083 ⟨hc, hs⟩) hS (fun q _ h => h.elim (a7_sz ho1 ho2) (fun h => by rw [h]; omega)) (fun q h => h.elim (a7_sz ho1 ho2) (fun h => by rw [h]; omega)) (fun q _ h => h.elim) (fun E ce q9 u t H1 locs1 ht hvm hp => False.elim hp) (fun r g1 t H1 locs1 ht hvm hp hB hz1 hk1 hS1 => ?_)
  obtain ⟨hr1, hLG⟩ := hp
  obtain ⟨hM1, v1, hO1, hv1⟩ := hB
  rw [ht] at hM1 hO1
  have hR1 := hR.keptA hML (fun q hq ha => hk1 q hq (a8_a7 ha))
  refine lv_istore (lv' := [(5, .int r), (0, .ref b), (1, .ref (ga g 18 0)), (2, .ref o), (3, .ref oa), (4, .int (nI (4 * i)))]) hx hb dL_law_1086 hl (by decide) rfl (fun ls hl => ?_)
  refine lv_aload_n hx hb dL_law_1088 rfl (lv_at hl 3 rfl) ?_
  refine lv_aload_n hx hb dL_law_1089 rfl (lv_at hl 1 rfl) ?_
  refine lv_iload hx hb dL_law_1090 (lv_at hl 5 rfl) ?_
  refine lv_iconst (v := 1) hx hb dL_law_1092 (by decide) ?_
  refine lv_iadd hx hb dL_law_1093 ?_
  refine lc_sld hx hb hX hS1 1 (by decide) (by omega) dL_law_1094 ?_
  refine lv_aload_n hx hb dL_law_1095 rfl (lv_at hl 1 rfl) ?_
  refine lv_iload hx hb dL_law_1096 (lv_at hl 5 rfl) ?_
  refine lv_iconst (v := 2) hx hb dL_law_1098 (by decide) ?_
  refine lv_iadd hx hb dL_law_1099 ?_
  refine lc_sld hx hb hX hS1 2 (by decide) (by omega) dL_law_1100 ?_
  refine va_calli (va_runV (As := [.int (xs (4 * i + 1)), .int (xs (4 * i + 2))]) (rest := []) hC.1 (qX8_choose l (A8 o oa) D cy o ad hML S th hI.m (xs (4 * i + 1)) (xs (4 * i + 2))) (cwV 2 hts gL_law_X8_choose rfl rfl rfl (by decide +kernel) ⟨Nat.le_of_ble_eq_true rfl, Nat.le_of_ble_eq_true rfl⟩) ⟨MP_blind, va_recv hC.2 (p1 hR1.1) (ci := 9) (q0 := 0) rfl rfl, fun U hU hW => ⟨rfl, by rw [hU]; exact hR1, va_K.moved hW.alike hC.2⟩⟩ rfl rfl hl.1 rfl (lv_room (Nat.le_of_ble_eq_true rfl)) dL_law_1101 ⟨hc, hs⟩) hS1 (fun q _ h => a8_sz ho1 h) (fun q h => a8_sz ho1 h) (fun r2 u2 t2 H2 locs2 ht2 hvm2 hr2 hB2 hz2 hk2 hS2 => ?_)
  rw [ht2] at hB2
  have hM2 := hM1.keptA hLG.1 (fun q hq ha => hk2 q hq (a7_a8 ho2 ha))
  have hO2 : at1 D oa (LA cy v1) H2 := hO1.kept (hk2 oa hO1.lt a8_oa)
  refine lv_istore (lv' := [(6, .int r2), (5, .int r), (0, .ref b), (1, .ref (ga g 18 0)), (2, .ref o), (3, .ref oa), (4, .int (nI (4 * i)))]) hx hb dL_law_1104 hl (by decide) rfl (fun ls hl => ?_)
  refine lv_aload_n hx hb dL_law_1106 rfl (lv_at hl 4 rfl) ?_
  refine va_calli (va_runV (As := []) (rest := []) hC.1 (qX8_thrown l D cy o ad (fX8_choose S (xs (4 * i + 1)) (xs (4 * i + 2))).2.2 (fX8_choose S (xs (4 * i + 1)) (xs (4 * i + 2))).2.1) (cwV 0 hts gL_law_X8_thrown rfl rfl rfl (by decide +kernel) ⟨Nat.le_of_ble_eq_true rfl, Nat.le_of_ble_eq_true rfl⟩) ⟨MP_blind, va_recv hC.2 (p1 hB2.1) (ci := 9) (q0 := 0) rfl rfl, fun U hU hW => ⟨rfl, by rw [hU]; exact hB2, va_K.moved hW.alike hC.2⟩⟩ rfl rfl hl.1 rfl (lv_room (Nat.le_of_ble_eq_true rfl)) dL_law_1107 ⟨hc, hs⟩) hS2 (fun q _ h => h.elim) (fun q h => h.elim) (fun r3 u3 t3 H3 locs3 ht3 hvm3 hr3 _ hz3 hk3 hS3 => ?_)
  have hM3 := hM2.keep (fun q hq => hk3 q hq (fun h => h))
  have hB3 := hB2.keep (fun q hq => hk3 q hq (fun h => h))
  have hO3 : at1 D oa (LA cy v1) H3 := hO2.kept (hk3 oa hO2.lt (fun h => h))
  have hW3 : LW s D cy o ad oa e0 (ga g 18 0) H3 locs3 := lc_fin (x8 := (fX8_choose S (xs (4 * i + 1)) (xs (4 * i + 2)))) (x7 := (fX7_choose S (xs (4 * i + 1)) (xs (4 * i + 2)))) hS3 (Nat.lt_of_lt_of_le hz (Nat.le_trans hz1 (Nat.le_trans hz2 hz3))) hkp h1 hLG hM3 hB3 hO3
  have fin : W p l e room_1 s m #[Value.ref b] below meth c H3 locs3 (cells + 6) (slots + 326) Q (F0 m 1134 ls []) := by
    refine lv_goto (tgt := 2383) hx hb dL_law_1134 (by decide) ?_
    exact kk H3 locs3 ls hW3 (lv_sub hl [2, 3, 4, 5, 6] rfl)
  refine lv_iload hx hb dL_law_1110 (lv_at hl 1 rfl) ?_
  refine lv_icmp_eq (tgt := 1117) hx hb dL_law_1112 (by decide) (fun c1 => ?_) (fun c1 => absurd (hr3.trans (h1.1.trans hr1.symm)) c1)
  refine lv_iload hx hb dL_law_1117 (lv_at hl 1 rfl) ?_
  refine lv_if_ne (tgt := 1134) hx hb dL_law_1119 (by decide) (fun _ => fin) (fun c2 => ?_)
  have hz0 : (fX7_choose S (xs (4 * i + 1)) (xs (4 * i + 2))).2.1 = 0 := mp3_z (hr1.symm.trans c2)
  have e1 := hv1 hz0
  have e2 := h1.2.1 hz0
  refine lv_aload_n hx hb dL_law_1122 rfl (lv_at hl 5 rfl) ?_
  refine lv_iconst (v := 0) hx hb dL_law_1123 (by decide) ?_
  refine lc_lald hx hb hC.2 hO3 dL_law_1124 ?_
  refine lv_iload hx hb dL_law_1125 (lv_at hl 0 rfl) ?_
  refine lv_i2l hx hb dL_law_1127 rfl ?_
  refine W.lcmp hx hb dL_law_1128 ?_
  exact lv_if_eq (tgt := 1134) hx hb dL_law_1129 (by decide) (fun _ => fin) (fun c3 => absurd (lc_cmp (by rw [e1, hr2, e2])) c3)
set_option maxHeartbeats 4000000 in
set_option maxRecDepth 100000 in
theorem lc_help {p : Program} {l : Launch} {e : Env} {s : State} {m : MethodId} {below : List Frame} {meth : Method} {c : Code} {H : Heap} {locs : List Loc} {cells slots : Nat} {Q : State → Prop} {ls : Array Slot} {D : va_G} {cy : Nat → ClassId} {o oa e0 mi b L x0 : Nat} {ad : Nat → Nat} {xs : Nat → Int32} (C : LC p l s m c D cy o ad oa e0 mi b L xs) {i : Nat} (hi : 4 * i + 3 < L) (hW : LW s D cy o ad oa e0 x0 H locs) (hl : lv_has ls 7 [(0, .ref b), (1, .ref x0), (2, .ref o), (3, .ref oa), (4, .int (nI (4 * i)))]) (hc : cells + 6 ≤ 601024) (hs : slots + 326 ≤ 7293033)
    (kk : ∀ (H1 : Heap) (locs1 : List Loc) (ls1 : Array Slot), LW s D cy o ad oa e0 x0 H1 locs1 → lv_has ls1 7 [(0, .ref b), (1, .ref x0), (2, .ref o), (3, .ref oa), (4, .int (nI (4 * i)))] → W p l e room_1 s m #[Value.ref b] below meth c H1 locs1 (cells + 6) (slots + 326) Q (F0 m 2383 ls1 [])) : W p l e room_1 s m #[Value.ref b] below meth c H locs cells slots Q (F0 m 1137 ls []) := by
  obtain ⟨hS, hz, g, S, th, v, hI, ⟨hL, hG, hT, -⟩, h18, hM, hR, hO⟩ := hW
  subst h18
  obtain ⟨hC, hX, hfl, hJ, ⟨ho1, ho2⟩, hML⟩ := id C
  have hx := hC.1.1
  have hb := hC.1.2.1
  have hts := hC.1.2.2.2.2
  have hV : CV e0 g S := ⟨hG, hT, hI.m, hI.k⟩
  have h1 := one_help S hI.m hI.st (xs (4 * i + 1)) (xs (4 * i + 2))
  have hkp := kp_help hI (xs (4 * i + 1)) (xs (4 * i + 2))
  refine lv_aload_n hx hb dL_law_1137 rfl (lv_at hl 1 rfl) ?_
  refine lv_aload_n hx hb dL_law_1138 rfl (lv_at hl 0 rfl) ?_
  refine lv_iload hx hb dL_law_1139 (lv_at hl 4 rfl) ?_
  refine lv_iconst (v := 1) hx hb dL_law_1141 (by decide) ?_
  refine lv_iadd hx hb dL_law_1142 ?_
  refine lc_sld hx hb hX hS 1 (by decide) (by omega) dL_law_1143 ?_
  refine lv_aload_n hx hb dL_law_1144 rfl (lv_at hl 0 rfl) ?_
  refine lv_iload hx hb dL_law_1145 (lv_at hl 4 rfl) ?_
  refine lv_iconst (v := 2) hx hb dL_law_1147 (by decide) ?_
  refine lv_iadd hx hb dL_law_1148 ?_
  refine lc_sld hx hb hX hS 2 (by decide) (by omega) dL_law_1149 ?_
  refine lv_aload_n hx hb dL_law_1150 rfl (lv_at hl 3 rfl) ?_
  refine vx_calli (vx_runSX (As := [.ref (ga g 18 0), .int (xs (4 * i + 1)), .int (xs (4 * i + 2)), .ref oa]) (rest := []) hC.1 (qL_help l hfl (A7 s.heap.size o oa) D cy g hL S e0 mi (oa + 1) oa (fun q h => a7_new h) (a7_oa ho2) hV hI.z hI.n (xs (4 * i + 1)) (xs (4 * i + 2))) (vx_cwSW 4 hts gL_law_L_help rfl rfl rfl (by decide +kernel) ⟨Nat.le_of_ble_eq_true rfl, Nat.le_of_ble_eq_true rfl⟩) ⟨LP_blind, fun U hU hW => ⟨rfl, lc_LP C hS hz hM hO hU hW⟩⟩ rfl rfl hl.1 rfl (lv_room (Nat.le_of_ble_eq_true rfl)) dL_law_1151 ⟨hc, hs⟩) hS (fun q _ h => h.elim (a7_sz ho1 ho2) (fun h => by rw [h]; omega)) (fun q h => h.elim (a7_sz ho1 ho2) (fun h => by rw [h]; omega)) (fun q _ h => h.elim) (fun E ce q9 u t H1 locs1 ht hvm hp => False.elim hp) (fun r g1 t H1 locs1 ht hvm hp hB hz1 hk1 hS1 => ?_)
  obtain ⟨hr1, hLG⟩ := hp
  obtain ⟨hM1, v1, hO1, hv1⟩ := hB
  rw [ht] at hM1 hO1
  have hR1 := hR.keptA hML (fun q hq ha => hk1 q hq (a8_a7 ha))
  refine lv_istore (lv' := [(5, .int r), (0, .ref b), (1, .ref (ga g 18 0)), (2, .ref o), (3, .ref oa), (4, .int (nI (4 * i)))]) hx hb dL_law_1154 hl (by decide) rfl (fun ls hl => ?_)
  refine lv_aload_n hx hb dL_law_1156 rfl (lv_at hl 3 rfl) ?_
  refine lv_aload_n hx hb dL_law_1157 rfl (lv_at hl 1 rfl) ?_
  refine lv_iload hx hb dL_law_1158 (lv_at hl 5 rfl) ?_
  refine lv_iconst (v := 1) hx hb dL_law_1160 (by decide) ?_
  refine lv_iadd hx hb dL_law_1161 ?_
  refine lc_sld hx hb hX hS1 1 (by decide) (by omega) dL_law_1162 ?_
  refine lv_aload_n hx hb dL_law_1163 rfl (lv_at hl 1 rfl) ?_
  refine lv_iload hx hb dL_law_1164 (lv_at hl 5 rfl) ?_
  refine lv_iconst (v := 2) hx hb dL_law_1166 (by decide) ?_
  refine lv_iadd hx hb dL_law_1167 ?_
  refine lc_sld hx hb hX hS1 2 (by decide) (by omega) dL_law_1168 ?_
  refine va_calli (va_runV (As := [.int (xs (4 * i + 1)), .int (xs (4 * i + 2))]) (rest := []) hC.1 (qX8_help l (A8 o oa) D cy o ad hML S th hI.m (xs (4 * i + 1)) (xs (4 * i + 2))) (cwV 2 hts gL_law_X8_help rfl rfl rfl (by decide +kernel) ⟨Nat.le_of_ble_eq_true rfl, Nat.le_of_ble_eq_true rfl⟩) ⟨MP_blind, va_recv hC.2 (p1 hR1.1) (ci := 9) (q0 := 0) rfl rfl, fun U hU hW => ⟨rfl, by rw [hU]; exact hR1, va_K.moved hW.alike hC.2⟩⟩ rfl rfl hl.1 rfl (lv_room (Nat.le_of_ble_eq_true rfl)) dL_law_1169 ⟨hc, hs⟩) hS1 (fun q _ h => a8_sz ho1 h) (fun q h => a8_sz ho1 h) (fun r2 u2 t2 H2 locs2 ht2 hvm2 hr2 hB2 hz2 hk2 hS2 => ?_)
  rw [ht2] at hB2
  have hM2 := hM1.keptA hLG.1 (fun q hq ha => hk2 q hq (a7_a8 ho2 ha))
  have hO2 : at1 D oa (LA cy v1) H2 := hO1.kept (hk2 oa hO1.lt a8_oa)
  refine lv_istore (lv' := [(6, .int r2), (5, .int r), (0, .ref b), (1, .ref (ga g 18 0)), (2, .ref o), (3, .ref oa), (4, .int (nI (4 * i)))]) hx hb dL_law_1172 hl (by decide) rfl (fun ls hl => ?_)
  refine lv_aload_n hx hb dL_law_1174 rfl (lv_at hl 4 rfl) ?_
  refine va_calli (va_runV (As := []) (rest := []) hC.1 (qX8_thrown l D cy o ad (fX8_help S (xs (4 * i + 1)) (xs (4 * i + 2))).2.2 (fX8_help S (xs (4 * i + 1)) (xs (4 * i + 2))).2.1) (cwV 0 hts gL_law_X8_thrown rfl rfl rfl (by decide +kernel) ⟨Nat.le_of_ble_eq_true rfl, Nat.le_of_ble_eq_true rfl⟩) ⟨MP_blind, va_recv hC.2 (p1 hB2.1) (ci := 9) (q0 := 0) rfl rfl, fun U hU hW => ⟨rfl, by rw [hU]; exact hB2, va_K.moved hW.alike hC.2⟩⟩ rfl rfl hl.1 rfl (lv_room (Nat.le_of_ble_eq_true rfl)) dL_law_1175 ⟨hc, hs⟩) hS2 (fun q _ h => h.elim) (fun q h => h.elim) (fun r3 u3 t3 H3 locs3 ht3 hvm3 hr3 _ hz3 hk3 hS3 => ?_)
  have hM3 := hM2.keep (fun q hq => hk3 q hq (fun h => h))
  have hB3 := hB2.keep (fun q hq => hk3 q hq (fun h => h))
  have hO3 : at1 D oa (LA cy v1) H3 := hO2.kept (hk3 oa hO2.lt (fun h => h))
  have hW3 : LW s D cy o ad oa e0 (ga g 18 0) H3 locs3 := lc_fin (x8 := (fX8_help S (xs (4 * i + 1)) (xs (4 * i + 2)))) (x7 := (fX7_help S (xs (4 * i + 1)) (xs (4 * i + 2)))) hS3 (Nat.lt_of_lt_of_le hz (Nat.le_trans hz1 (Nat.le_trans hz2 hz3))) hkp h1 hLG hM3 hB3 hO3
  have fin : W p l e room_1 s m #[Value.ref b] below meth c H3 locs3 (cells + 6) (slots + 326) Q (F0 m 1202 ls []) := by
    refine lv_goto (tgt := 2383) hx hb dL_law_1202 (by decide) ?_
    exact kk H3 locs3 ls hW3 (lv_sub hl [2, 3, 4, 5, 6] rfl)
  refine lv_iload hx hb dL_law_1178 (lv_at hl 1 rfl) ?_
  refine lv_icmp_eq (tgt := 1185) hx hb dL_law_1180 (by decide) (fun c1 => ?_) (fun c1 => absurd (hr3.trans (h1.1.trans hr1.symm)) c1)
  refine lv_iload hx hb dL_law_1185 (lv_at hl 1 rfl) ?_
  refine lv_if_ne (tgt := 1202) hx hb dL_law_1187 (by decide) (fun _ => fin) (fun c2 => ?_)
  have hz0 : (fX7_help S (xs (4 * i + 1)) (xs (4 * i + 2))).2.1 = 0 := mp3_z (hr1.symm.trans c2)
  have e1 := hv1 hz0
  have e2 := h1.2.1 hz0
  refine lv_aload_n hx hb dL_law_1190 rfl (lv_at hl 5 rfl) ?_
  refine lv_iconst (v := 0) hx hb dL_law_1191 (by decide) ?_
  refine lc_lald hx hb hC.2 hO3 dL_law_1192 ?_
  refine lv_iload hx hb dL_law_1193 (lv_at hl 0 rfl) ?_
  refine lv_i2l hx hb dL_law_1195 rfl ?_
  refine W.lcmp hx hb dL_law_1196 ?_
  exact lv_if_eq (tgt := 1202) hx hb dL_law_1197 (by decide) (fun _ => fin) (fun c3 => absurd (lc_cmp (by rw [e1, hr2, e2])) c3)
set_option maxHeartbeats 4000000 in
set_option maxRecDepth 100000 in
theorem lc_judge {p : Program} {l : Launch} {e : Env} {s : State} {m : MethodId} {below : List Frame} {meth : Method} {c : Code} {H : Heap} {locs : List Loc} {cells slots : Nat} {Q : State → Prop} {ls : Array Slot} {D : va_G} {cy : Nat → ClassId} {o oa e0 mi b L x0 : Nat} {ad : Nat → Nat} {xs : Nat → Int32} (C : LC p l s m c D cy o ad oa e0 mi b L xs) {i : Nat} (hi : 4 * i + 3 < L) (hW : LW s D cy o ad oa e0 x0 H locs) (hl : lv_has ls 7 [(0, .ref b), (1, .ref x0), (2, .ref o), (3, .ref oa), (4, .int (nI (4 * i)))]) (hc : cells + 6 ≤ 601024) (hs : slots + 326 ≤ 7293033)
    (kk : ∀ (H1 : Heap) (locs1 : List Loc) (ls1 : Array Slot), LW s D cy o ad oa e0 x0 H1 locs1 → lv_has ls1 7 [(0, .ref b), (1, .ref x0), (2, .ref o), (3, .ref oa), (4, .int (nI (4 * i)))] → W p l e room_1 s m #[Value.ref b] below meth c H1 locs1 (cells + 6) (slots + 326) Q (F0 m 2383 ls1 [])) : W p l e room_1 s m #[Value.ref b] below meth c H locs cells slots Q (F0 m 1205 ls []) := by
  obtain ⟨hS, hz, g, S, th, v, hI, ⟨hL, hG, hT, -⟩, h18, hM, hR, hO⟩ := hW
  subst h18
  obtain ⟨hC, hX, hfl, hJ, ⟨ho1, ho2⟩, hML⟩ := id C
  have hx := hC.1.1
  have hb := hC.1.2.1
  have hts := hC.1.2.2.2.2
  have hV : CV e0 g S := ⟨hG, hT, hI.m, hI.k⟩
  have h1 := one_judge S hI.w (xs (4 * i + 1))
  have hkp := kp_judge hI (xs (4 * i + 1))
  refine lv_aload_n hx hb dL_law_1205 rfl (lv_at hl 1 rfl) ?_
  refine lv_aload_n hx hb dL_law_1206 rfl (lv_at hl 0 rfl) ?_
  refine lv_iload hx hb dL_law_1207 (lv_at hl 4 rfl) ?_
  refine lv_iconst (v := 1) hx hb dL_law_1209 (by decide) ?_
  refine lv_iadd hx hb dL_law_1210 ?_
  refine lc_sld hx hb hX hS 1 (by decide) (by omega) dL_law_1211 ?_
  refine lv_aload_n hx hb dL_law_1212 rfl (lv_at hl 3 rfl) ?_
  refine vx_calli (vx_runSX (As := [.ref (ga g 18 0), .int (xs (4 * i + 1)), .ref oa]) (rest := []) hC.1 (qL_judge l hfl (A7 s.heap.size o oa) D cy g hL S e0 mi (oa + 1) oa (fun q h => a7_new h) (a7_oa ho2) hV hI.z hI.n (xs (4 * i + 1))) (vx_cwSW 3 hts gL_law_L_judge rfl rfl rfl (by decide +kernel) ⟨Nat.le_of_ble_eq_true rfl, Nat.le_of_ble_eq_true rfl⟩) ⟨LP_blind, fun U hU hW => ⟨rfl, lc_LP C hS hz hM hO hU hW⟩⟩ rfl rfl hl.1 rfl (lv_room (Nat.le_of_ble_eq_true rfl)) dL_law_1213 ⟨hc, hs⟩) hS (fun q _ h => h.elim (a7_sz ho1 ho2) (fun h => by rw [h]; omega)) (fun q h => h.elim (a7_sz ho1 ho2) (fun h => by rw [h]; omega)) (fun q _ h => h.elim) (fun E ce q9 u t H1 locs1 ht hvm hp => False.elim hp) (fun r g1 t H1 locs1 ht hvm hp hB hz1 hk1 hS1 => ?_)
  obtain ⟨hr1, hLG⟩ := hp
  obtain ⟨hM1, v1, hO1, hv1⟩ := hB
  rw [ht] at hM1 hO1
  have hR1 := hR.keptA hML (fun q hq ha => hk1 q hq (a8_a7 ha))
  refine lv_istore (lv' := [(5, .int r), (0, .ref b), (1, .ref (ga g 18 0)), (2, .ref o), (3, .ref oa), (4, .int (nI (4 * i)))]) hx hb dL_law_1216 hl (by decide) rfl (fun ls hl => ?_)
  refine lv_aload_n hx hb dL_law_1218 rfl (lv_at hl 3 rfl) ?_
  refine lv_aload_n hx hb dL_law_1219 rfl (lv_at hl 1 rfl) ?_
  refine lv_iload hx hb dL_law_1220 (lv_at hl 5 rfl) ?_
  refine lv_iconst (v := 1) hx hb dL_law_1222 (by decide) ?_
  refine lv_iadd hx hb dL_law_1223 ?_
  refine lc_sld hx hb hX hS1 1 (by decide) (by omega) dL_law_1224 ?_
  refine va_calli (va_runV (As := [.int (xs (4 * i + 1))]) (rest := []) hC.1 (qX8_judge l (A8 o oa) D cy o ad hML S th hI.m (xs (4 * i + 1))) (cwV 1 hts gL_law_X8_judge rfl rfl rfl (by decide +kernel) ⟨Nat.le_of_ble_eq_true rfl, Nat.le_of_ble_eq_true rfl⟩) ⟨MP_blind, va_recv hC.2 (p1 hR1.1) (ci := 9) (q0 := 0) rfl rfl, fun U hU hW => ⟨rfl, by rw [hU]; exact hR1, va_K.moved hW.alike hC.2⟩⟩ rfl rfl hl.1 rfl (lv_room (Nat.le_of_ble_eq_true rfl)) dL_law_1225 ⟨hc, hs⟩) hS1 (fun q _ h => a8_sz ho1 h) (fun q h => a8_sz ho1 h) (fun r2 u2 t2 H2 locs2 ht2 hvm2 hr2 hB2 hz2 hk2 hS2 => ?_)
  rw [ht2] at hB2
  have hM2 := hM1.keptA hLG.1 (fun q hq ha => hk2 q hq (a7_a8 ho2 ha))
  have hO2 : at1 D oa (LA cy v1) H2 := hO1.kept (hk2 oa hO1.lt a8_oa)
  refine lv_istore (lv' := [(6, .int r2), (5, .int r), (0, .ref b), (1, .ref (ga g 18 0)), (2, .ref o), (3, .ref oa), (4, .int (nI (4 * i)))]) hx hb dL_law_1228 hl (by decide) rfl (fun ls hl => ?_)
  refine lv_aload_n hx hb dL_law_1230 rfl (lv_at hl 4 rfl) ?_
  refine va_calli (va_runV (As := []) (rest := []) hC.1 (qX8_thrown l D cy o ad (fX8_judge S (xs (4 * i + 1))).2.2 (fX8_judge S (xs (4 * i + 1))).2.1) (cwV 0 hts gL_law_X8_thrown rfl rfl rfl (by decide +kernel) ⟨Nat.le_of_ble_eq_true rfl, Nat.le_of_ble_eq_true rfl⟩) ⟨MP_blind, va_recv hC.2 (p1 hB2.1) (ci := 9) (q0 := 0) rfl rfl, fun U hU hW => ⟨rfl, by rw [hU]; exact hB2, va_K.moved hW.alike hC.2⟩⟩ rfl rfl hl.1 rfl (lv_room (Nat.le_of_ble_eq_true rfl)) dL_law_1231 ⟨hc, hs⟩) hS2 (fun q _ h => h.elim) (fun q h => h.elim) (fun r3 u3 t3 H3 locs3 ht3 hvm3 hr3 _ hz3 hk3 hS3 => ?_)
  have hM3 := hM2.keep (fun q hq => hk3 q hq (fun h => h))
  have hB3 := hB2.keep (fun q hq => hk3 q hq (fun h => h))
  have hO3 : at1 D oa (LA cy v1) H3 := hO2.kept (hk3 oa hO2.lt (fun h => h))
  have hW3 : LW s D cy o ad oa e0 (ga g 18 0) H3 locs3 := lc_fin (x8 := (fX8_judge S (xs (4 * i + 1)))) (x7 := (fX7_judge S (xs (4 * i + 1)))) hS3 (Nat.lt_of_lt_of_le hz (Nat.le_trans hz1 (Nat.le_trans hz2 hz3))) hkp h1 hLG hM3 hB3 hO3
  have fin : W p l e room_1 s m #[Value.ref b] below meth c H3 locs3 (cells + 6) (slots + 326) Q (F0 m 1258 ls []) := by
    refine lv_goto (tgt := 2383) hx hb dL_law_1258 (by decide) ?_
    exact kk H3 locs3 ls hW3 (lv_sub hl [2, 3, 4, 5, 6] rfl)
  refine lv_iload hx hb dL_law_1234 (lv_at hl 1 rfl) ?_
  refine lv_icmp_eq (tgt := 1241) hx hb dL_law_1236 (by decide) (fun c1 => ?_) (fun c1 => absurd (hr3.trans (h1.1.trans hr1.symm)) c1)
  refine lv_iload hx hb dL_law_1241 (lv_at hl 1 rfl) ?_
  refine lv_if_ne (tgt := 1258) hx hb dL_law_1243 (by decide) (fun _ => fin) (fun c2 => ?_)
  have hz0 : (fX7_judge S (xs (4 * i + 1))).2.1 = 0 := mp13_z (hr1.symm.trans c2)
  have e1 := hv1 hz0
  have e2 := h1.2.1 hz0
  refine lv_aload_n hx hb dL_law_1246 rfl (lv_at hl 5 rfl) ?_
  refine lv_iconst (v := 0) hx hb dL_law_1247 (by decide) ?_
  refine lc_lald hx hb hC.2 hO3 dL_law_1248 ?_
  refine lv_iload hx hb dL_law_1249 (lv_at hl 0 rfl) ?_
  refine lv_i2l hx hb dL_law_1251 rfl ?_
  refine W.lcmp hx hb dL_law_1252 ?_
  exact lv_if_eq (tgt := 1258) hx hb dL_law_1253 (by decide) (fun _ => fin) (fun c3 => absurd (lc_cmp (by rw [e1, hr2, e2])) c3)
set_option maxHeartbeats 4000000 in
set_option maxRecDepth 100000 in
theorem lc_settle {p : Program} {l : Launch} {e : Env} {s : State} {m : MethodId} {below : List Frame} {meth : Method} {c : Code} {H : Heap} {locs : List Loc} {cells slots : Nat} {Q : State → Prop} {ls : Array Slot} {D : va_G} {cy : Nat → ClassId} {o oa e0 mi b L x0 : Nat} {ad : Nat → Nat} {xs : Nat → Int32} (C : LC p l s m c D cy o ad oa e0 mi b L xs) {i : Nat} (hi : 4 * i + 3 < L) (hW : LW s D cy o ad oa e0 x0 H locs) (hl : lv_has ls 7 [(0, .ref b), (1, .ref x0), (2, .ref o), (3, .ref oa), (4, .int (nI (4 * i)))]) (hc : cells + 6 ≤ 601024) (hs : slots + 326 ≤ 7293033)
    (kk : ∀ (H1 : Heap) (locs1 : List Loc) (ls1 : Array Slot), LW s D cy o ad oa e0 x0 H1 locs1 → lv_has ls1 7 [(0, .ref b), (1, .ref x0), (2, .ref o), (3, .ref oa), (4, .int (nI (4 * i)))] → W p l e room_1 s m #[Value.ref b] below meth c H1 locs1 (cells + 6) (slots + 326) Q (F0 m 2383 ls1 [])) : W p l e room_1 s m #[Value.ref b] below meth c H locs cells slots Q (F0 m 1261 ls []) := by
  obtain ⟨hS, hz, g, S, th, v, hI, ⟨hL, hG, hT, -⟩, h18, hM, hR, hO⟩ := hW
  subst h18
  obtain ⟨hC, hX, hfl, hJ, ⟨ho1, ho2⟩, hML⟩ := id C
  have hx := hC.1.1
  have hb := hC.1.2.1
  have hts := hC.1.2.2.2.2
  have hV : CV e0 g S := ⟨hG, hT, hI.m, hI.k⟩
  have h1 := one_settle S hI.w hI.m (xs (4 * i + 1)) (xs (4 * i + 2))
  have hkp := kp_settle hI (xs (4 * i + 1)) (xs (4 * i + 2))
  refine lv_aload_n hx hb dL_law_1261 rfl (lv_at hl 1 rfl) ?_
  refine lv_aload_n hx hb dL_law_1262 rfl (lv_at hl 0 rfl) ?_
  refine lv_iload hx hb dL_law_1263 (lv_at hl 4 rfl) ?_
  refine lv_iconst (v := 1) hx hb dL_law_1265 (by decide) ?_
  refine lv_iadd hx hb dL_law_1266 ?_
  refine lc_sld hx hb hX hS 1 (by decide) (by omega) dL_law_1267 ?_
  refine lv_aload_n hx hb dL_law_1268 rfl (lv_at hl 0 rfl) ?_
  refine lv_iload hx hb dL_law_1269 (lv_at hl 4 rfl) ?_
  refine lv_iconst (v := 2) hx hb dL_law_1271 (by decide) ?_
  refine lv_iadd hx hb dL_law_1272 ?_
  refine lc_sld hx hb hX hS 2 (by decide) (by omega) dL_law_1273 ?_
  refine lv_aload_n hx hb dL_law_1274 rfl (lv_at hl 3 rfl) ?_
  refine vx_calli (vx_runSX (As := [.ref (ga g 18 0), .int (xs (4 * i + 1)), .int (xs (4 * i + 2)), .ref oa]) (rest := []) hC.1 (qL_settle l hfl (A7 s.heap.size o oa) D cy g hL S e0 mi (oa + 1) oa (fun q h => a7_new h) (a7_oa ho2) hV hI.z hI.n (xs (4 * i + 1)) (xs (4 * i + 2))) (vx_cwSW 4 hts gL_law_L_settle rfl rfl rfl (by decide +kernel) ⟨Nat.le_of_ble_eq_true rfl, Nat.le_of_ble_eq_true rfl⟩) ⟨LP_blind, fun U hU hW => ⟨rfl, lc_LP C hS hz hM hO hU hW⟩⟩ rfl rfl hl.1 rfl (lv_room (Nat.le_of_ble_eq_true rfl)) dL_law_1275 ⟨hc, hs⟩) hS (fun q _ h => h.elim (a7_sz ho1 ho2) (fun h => by rw [h]; omega)) (fun q h => h.elim (a7_sz ho1 ho2) (fun h => by rw [h]; omega)) (fun q _ h => h.elim) (fun E ce q9 u t H1 locs1 ht hvm hp => False.elim hp) (fun r g1 t H1 locs1 ht hvm hp hB hz1 hk1 hS1 => ?_)
  obtain ⟨hr1, hLG⟩ := hp
  obtain ⟨hM1, v1, hO1, hv1⟩ := hB
  rw [ht] at hM1 hO1
  have hR1 := hR.keptA hML (fun q hq ha => hk1 q hq (a8_a7 ha))
  refine lv_istore (lv' := [(5, .int r), (0, .ref b), (1, .ref (ga g 18 0)), (2, .ref o), (3, .ref oa), (4, .int (nI (4 * i)))]) hx hb dL_law_1278 hl (by decide) rfl (fun ls hl => ?_)
  refine lv_aload_n hx hb dL_law_1280 rfl (lv_at hl 3 rfl) ?_
  refine lv_aload_n hx hb dL_law_1281 rfl (lv_at hl 1 rfl) ?_
  refine lv_iload hx hb dL_law_1282 (lv_at hl 5 rfl) ?_
  refine lv_iconst (v := 1) hx hb dL_law_1284 (by decide) ?_
  refine lv_iadd hx hb dL_law_1285 ?_
  refine lc_sld hx hb hX hS1 1 (by decide) (by omega) dL_law_1286 ?_
  refine lv_aload_n hx hb dL_law_1287 rfl (lv_at hl 1 rfl) ?_
  refine lv_iload hx hb dL_law_1288 (lv_at hl 5 rfl) ?_
  refine lv_iconst (v := 2) hx hb dL_law_1290 (by decide) ?_
  refine lv_iadd hx hb dL_law_1291 ?_
  refine lc_sld hx hb hX hS1 2 (by decide) (by omega) dL_law_1292 ?_
  refine va_calli (va_runV (As := [.int (xs (4 * i + 1)), .int (xs (4 * i + 2))]) (rest := []) hC.1 (qX8_settle l (A8 o oa) D cy o ad hML S th hI.m (xs (4 * i + 1)) (xs (4 * i + 2))) (cwV 2 hts gL_law_X8_settle rfl rfl rfl (by decide +kernel) ⟨Nat.le_of_ble_eq_true rfl, Nat.le_of_ble_eq_true rfl⟩) ⟨MP_blind, va_recv hC.2 (p1 hR1.1) (ci := 9) (q0 := 0) rfl rfl, fun U hU hW => ⟨rfl, by rw [hU]; exact hR1, va_K.moved hW.alike hC.2⟩⟩ rfl rfl hl.1 rfl (lv_room (Nat.le_of_ble_eq_true rfl)) dL_law_1293 ⟨hc, hs⟩) hS1 (fun q _ h => a8_sz ho1 h) (fun q h => a8_sz ho1 h) (fun r2 u2 t2 H2 locs2 ht2 hvm2 hr2 hB2 hz2 hk2 hS2 => ?_)
  rw [ht2] at hB2
  have hM2 := hM1.keptA hLG.1 (fun q hq ha => hk2 q hq (a7_a8 ho2 ha))
  have hO2 : at1 D oa (LA cy v1) H2 := hO1.kept (hk2 oa hO1.lt a8_oa)
  refine lv_istore (lv' := [(6, .int r2), (5, .int r), (0, .ref b), (1, .ref (ga g 18 0)), (2, .ref o), (3, .ref oa), (4, .int (nI (4 * i)))]) hx hb dL_law_1296 hl (by decide) rfl (fun ls hl => ?_)
  refine lv_aload_n hx hb dL_law_1298 rfl (lv_at hl 4 rfl) ?_
  refine va_calli (va_runV (As := []) (rest := []) hC.1 (qX8_thrown l D cy o ad (fX8_settle S (xs (4 * i + 1)) (xs (4 * i + 2))).2.2 (fX8_settle S (xs (4 * i + 1)) (xs (4 * i + 2))).2.1) (cwV 0 hts gL_law_X8_thrown rfl rfl rfl (by decide +kernel) ⟨Nat.le_of_ble_eq_true rfl, Nat.le_of_ble_eq_true rfl⟩) ⟨MP_blind, va_recv hC.2 (p1 hB2.1) (ci := 9) (q0 := 0) rfl rfl, fun U hU hW => ⟨rfl, by rw [hU]; exact hB2, va_K.moved hW.alike hC.2⟩⟩ rfl rfl hl.1 rfl (lv_room (Nat.le_of_ble_eq_true rfl)) dL_law_1299 ⟨hc, hs⟩) hS2 (fun q _ h => h.elim) (fun q h => h.elim) (fun r3 u3 t3 H3 locs3 ht3 hvm3 hr3 _ hz3 hk3 hS3 => ?_)
  have hM3 := hM2.keep (fun q hq => hk3 q hq (fun h => h))
  have hB3 := hB2.keep (fun q hq => hk3 q hq (fun h => h))
  have hO3 : at1 D oa (LA cy v1) H3 := hO2.kept (hk3 oa hO2.lt (fun h => h))
  have hW3 : LW s D cy o ad oa e0 (ga g 18 0) H3 locs3 := lc_fin (x8 := (fX8_settle S (xs (4 * i + 1)) (xs (4 * i + 2)))) (x7 := (fX7_settle S (xs (4 * i + 1)) (xs (4 * i + 2)))) hS3 (Nat.lt_of_lt_of_le hz (Nat.le_trans hz1 (Nat.le_trans hz2 hz3))) hkp h1 hLG hM3 hB3 hO3
  have fin : W p l e room_1 s m #[Value.ref b] below meth c H3 locs3 (cells + 6) (slots + 326) Q (F0 m 1326 ls []) := by
    refine lv_goto (tgt := 2383) hx hb dL_law_1326 (by decide) ?_
    exact kk H3 locs3 ls hW3 (lv_sub hl [2, 3, 4, 5, 6] rfl)
  refine lv_iload hx hb dL_law_1302 (lv_at hl 1 rfl) ?_
  refine lv_icmp_eq (tgt := 1309) hx hb dL_law_1304 (by decide) (fun c1 => ?_) (fun c1 => absurd (hr3.trans (h1.1.trans hr1.symm)) c1)
  refine lv_iload hx hb dL_law_1309 (lv_at hl 1 rfl) ?_
  refine lv_if_ne (tgt := 1326) hx hb dL_law_1311 (by decide) (fun _ => fin) (fun c2 => ?_)
  have hz0 : (fX7_settle S (xs (4 * i + 1)) (xs (4 * i + 2))).2.1 = 0 := mp3_z (hr1.symm.trans c2)
  have e1 := hv1 hz0
  have e2 := h1.2.1 hz0
  refine lv_aload_n hx hb dL_law_1314 rfl (lv_at hl 5 rfl) ?_
  refine lv_iconst (v := 0) hx hb dL_law_1315 (by decide) ?_
  refine lc_lald hx hb hC.2 hO3 dL_law_1316 ?_
  refine lv_iload hx hb dL_law_1317 (lv_at hl 0 rfl) ?_
  refine lv_i2l hx hb dL_law_1319 rfl ?_
  refine W.lcmp hx hb dL_law_1320 ?_
  exact lv_if_eq (tgt := 1326) hx hb dL_law_1321 (by decide) (fun _ => fin) (fun c3 => absurd (lc_cmp (by rw [e1, hr2, e2])) c3)
set_option maxHeartbeats 4000000 in
set_option maxRecDepth 100000 in
theorem lc_work {p : Program} {l : Launch} {e : Env} {s : State} {m : MethodId} {below : List Frame} {meth : Method} {c : Code} {H : Heap} {locs : List Loc} {cells slots : Nat} {Q : State → Prop} {ls : Array Slot} {D : va_G} {cy : Nat → ClassId} {o oa e0 mi b L x0 : Nat} {ad : Nat → Nat} {xs : Nat → Int32} (C : LC p l s m c D cy o ad oa e0 mi b L xs) {i : Nat} (hi : 4 * i + 3 < L) (hW : LW s D cy o ad oa e0 x0 H locs) (hl : lv_has ls 7 [(0, .ref b), (1, .ref x0), (2, .ref o), (3, .ref oa), (4, .int (nI (4 * i)))]) (hc : cells + 6 ≤ 601024) (hs : slots + 326 ≤ 7293033)
    (kk : ∀ (H1 : Heap) (locs1 : List Loc) (ls1 : Array Slot), LW s D cy o ad oa e0 x0 H1 locs1 → lv_has ls1 7 [(0, .ref b), (1, .ref x0), (2, .ref o), (3, .ref oa), (4, .int (nI (4 * i)))] → W p l e room_1 s m #[Value.ref b] below meth c H1 locs1 (cells + 6) (slots + 326) Q (F0 m 2383 ls1 [])) : W p l e room_1 s m #[Value.ref b] below meth c H locs cells slots Q (F0 m 1329 ls []) := by
  obtain ⟨hS, hz, g, S, th, v, hI, ⟨hL, hG, hT, -⟩, h18, hM, hR, hO⟩ := hW
  subst h18
  obtain ⟨hC, hX, hfl, hJ, ⟨ho1, ho2⟩, hML⟩ := id C
  have hx := hC.1.1
  have hb := hC.1.2.1
  have hts := hC.1.2.2.2.2
  have hV : CV e0 g S := ⟨hG, hT, hI.m, hI.k⟩
  have h1 := one_work S hI.m (xs (4 * i + 1)) (xs (4 * i + 2)) (xs (4 * i + 3))
  have hkp := kp_work hI (xs (4 * i + 1)) (xs (4 * i + 2)) (xs (4 * i + 3))
  refine lv_aload_n hx hb dL_law_1329 rfl (lv_at hl 1 rfl) ?_
  refine lv_aload_n hx hb dL_law_1330 rfl (lv_at hl 0 rfl) ?_
  refine lv_iload hx hb dL_law_1331 (lv_at hl 4 rfl) ?_
  refine lv_iconst (v := 1) hx hb dL_law_1333 (by decide) ?_
  refine lv_iadd hx hb dL_law_1334 ?_
  refine lc_sld hx hb hX hS 1 (by decide) (by omega) dL_law_1335 ?_
  refine lv_aload_n hx hb dL_law_1336 rfl (lv_at hl 0 rfl) ?_
  refine lv_iload hx hb dL_law_1337 (lv_at hl 4 rfl) ?_
  refine lv_iconst (v := 2) hx hb dL_law_1339 (by decide) ?_
  refine lv_iadd hx hb dL_law_1340 ?_
  refine lc_sld hx hb hX hS 2 (by decide) (by omega) dL_law_1341 ?_
  refine lv_aload_n hx hb dL_law_1342 rfl (lv_at hl 0 rfl) ?_
  refine lv_iload hx hb dL_law_1343 (lv_at hl 4 rfl) ?_
  refine lv_iconst (v := 3) hx hb dL_law_1345 (by decide) ?_
  refine lv_iadd hx hb dL_law_1346 ?_
  refine lc_sld hx hb hX hS 3 (by decide) (by omega) dL_law_1347 ?_
  refine lv_aload_n hx hb dL_law_1348 rfl (lv_at hl 3 rfl) ?_
  refine vx_calli (vx_runSX (As := [.ref (ga g 18 0), .int (xs (4 * i + 1)), .int (xs (4 * i + 2)), .int (xs (4 * i + 3)), .ref oa]) (rest := []) hC.1 (qL_work l hfl (A7 s.heap.size o oa) D cy g hL S e0 mi (oa + 1) oa (fun q h => a7_new h) (a7_oa ho2) hV hI.z hI.n (xs (4 * i + 1)) (xs (4 * i + 2)) (xs (4 * i + 3))) (vx_cwSW 5 hts gL_law_L_work rfl rfl rfl (by decide +kernel) ⟨Nat.le_of_ble_eq_true rfl, Nat.le_of_ble_eq_true rfl⟩) ⟨LP_blind, fun U hU hW => ⟨rfl, lc_LP C hS hz hM hO hU hW⟩⟩ rfl rfl hl.1 rfl (lv_room (Nat.le_of_ble_eq_true rfl)) dL_law_1349 ⟨hc, hs⟩) hS (fun q _ h => h.elim (a7_sz ho1 ho2) (fun h => by rw [h]; omega)) (fun q h => h.elim (a7_sz ho1 ho2) (fun h => by rw [h]; omega)) (fun q _ h => h.elim) (fun E ce q9 u t H1 locs1 ht hvm hp => False.elim hp) (fun r g1 t H1 locs1 ht hvm hp hB hz1 hk1 hS1 => ?_)
  obtain ⟨hr1, hLG⟩ := hp
  obtain ⟨hM1, v1, hO1, hv1⟩ := hB
  rw [ht] at hM1 hO1
  have hR1 := hR.keptA hML (fun q hq ha => hk1 q hq (a8_a7 ha))
  refine lv_istore (lv' := [(5, .int r), (0, .ref b), (1, .ref (ga g 18 0)), (2, .ref o), (3, .ref oa), (4, .int (nI (4 * i)))]) hx hb dL_law_1352 hl (by decide) rfl (fun ls hl => ?_)
  refine lv_aload_n hx hb dL_law_1354 rfl (lv_at hl 3 rfl) ?_
  refine lv_aload_n hx hb dL_law_1355 rfl (lv_at hl 1 rfl) ?_
  refine lv_iload hx hb dL_law_1356 (lv_at hl 5 rfl) ?_
  refine lv_iconst (v := 1) hx hb dL_law_1358 (by decide) ?_
  refine lv_iadd hx hb dL_law_1359 ?_
  refine lc_sld hx hb hX hS1 1 (by decide) (by omega) dL_law_1360 ?_
  refine lv_aload_n hx hb dL_law_1361 rfl (lv_at hl 1 rfl) ?_
  refine lv_iload hx hb dL_law_1362 (lv_at hl 5 rfl) ?_
  refine lv_iconst (v := 2) hx hb dL_law_1364 (by decide) ?_
  refine lv_iadd hx hb dL_law_1365 ?_
  refine lc_sld hx hb hX hS1 2 (by decide) (by omega) dL_law_1366 ?_
  refine lv_aload_n hx hb dL_law_1367 rfl (lv_at hl 1 rfl) ?_
  refine lv_iload hx hb dL_law_1368 (lv_at hl 5 rfl) ?_
  refine lv_iconst (v := 3) hx hb dL_law_1370 (by decide) ?_
  refine lv_iadd hx hb dL_law_1371 ?_
  refine lc_sld hx hb hX hS1 3 (by decide) (by omega) dL_law_1372 ?_
  refine va_calli (va_runV (As := [.int (xs (4 * i + 1)), .int (xs (4 * i + 2)), .int (xs (4 * i + 3))]) (rest := []) hC.1 (qX8_work l (A8 o oa) D cy o ad hML S th hI.m (xs (4 * i + 1)) (xs (4 * i + 2)) (xs (4 * i + 3))) (cwV 3 hts gL_law_X8_work rfl rfl rfl (by decide +kernel) ⟨Nat.le_of_ble_eq_true rfl, Nat.le_of_ble_eq_true rfl⟩) ⟨MP_blind, va_recv hC.2 (p1 hR1.1) (ci := 9) (q0 := 0) rfl rfl, fun U hU hW => ⟨rfl, by rw [hU]; exact hR1, va_K.moved hW.alike hC.2⟩⟩ rfl rfl hl.1 rfl (lv_room (Nat.le_of_ble_eq_true rfl)) dL_law_1373 ⟨hc, hs⟩) hS1 (fun q _ h => a8_sz ho1 h) (fun q h => a8_sz ho1 h) (fun r2 u2 t2 H2 locs2 ht2 hvm2 hr2 hB2 hz2 hk2 hS2 => ?_)
  rw [ht2] at hB2
  have hM2 := hM1.keptA hLG.1 (fun q hq ha => hk2 q hq (a7_a8 ho2 ha))
  have hO2 : at1 D oa (LA cy v1) H2 := hO1.kept (hk2 oa hO1.lt a8_oa)
  refine lv_istore (lv' := [(6, .int r2), (5, .int r), (0, .ref b), (1, .ref (ga g 18 0)), (2, .ref o), (3, .ref oa), (4, .int (nI (4 * i)))]) hx hb dL_law_1376 hl (by decide) rfl (fun ls hl => ?_)
  refine lv_aload_n hx hb dL_law_1378 rfl (lv_at hl 4 rfl) ?_
  refine va_calli (va_runV (As := []) (rest := []) hC.1 (qX8_thrown l D cy o ad (fX8_work S (xs (4 * i + 1)) (xs (4 * i + 2)) (xs (4 * i + 3))).2.2 (fX8_work S (xs (4 * i + 1)) (xs (4 * i + 2)) (xs (4 * i + 3))).2.1) (cwV 0 hts gL_law_X8_thrown rfl rfl rfl (by decide +kernel) ⟨Nat.le_of_ble_eq_true rfl, Nat.le_of_ble_eq_true rfl⟩) ⟨MP_blind, va_recv hC.2 (p1 hB2.1) (ci := 9) (q0 := 0) rfl rfl, fun U hU hW => ⟨rfl, by rw [hU]; exact hB2, va_K.moved hW.alike hC.2⟩⟩ rfl rfl hl.1 rfl (lv_room (Nat.le_of_ble_eq_true rfl)) dL_law_1379 ⟨hc, hs⟩) hS2 (fun q _ h => h.elim) (fun q h => h.elim) (fun r3 u3 t3 H3 locs3 ht3 hvm3 hr3 _ hz3 hk3 hS3 => ?_)
  have hM3 := hM2.keep (fun q hq => hk3 q hq (fun h => h))
  have hB3 := hB2.keep (fun q hq => hk3 q hq (fun h => h))
  have hO3 : at1 D oa (LA cy v1) H3 := hO2.kept (hk3 oa hO2.lt (fun h => h))
  have hW3 : LW s D cy o ad oa e0 (ga g 18 0) H3 locs3 := lc_fin (x8 := (fX8_work S (xs (4 * i + 1)) (xs (4 * i + 2)) (xs (4 * i + 3)))) (x7 := (fX7_work S (xs (4 * i + 1)) (xs (4 * i + 2)) (xs (4 * i + 3)))) hS3 (Nat.lt_of_lt_of_le hz (Nat.le_trans hz1 (Nat.le_trans hz2 hz3))) hkp h1 hLG hM3 hB3 hO3
  have fin : W p l e room_1 s m #[Value.ref b] below meth c H3 locs3 (cells + 6) (slots + 326) Q (F0 m 1406 ls []) := by
    refine lv_goto (tgt := 2383) hx hb dL_law_1406 (by decide) ?_
    exact kk H3 locs3 ls hW3 (lv_sub hl [2, 3, 4, 5, 6] rfl)
  refine lv_iload hx hb dL_law_1382 (lv_at hl 1 rfl) ?_
  refine lv_icmp_eq (tgt := 1389) hx hb dL_law_1384 (by decide) (fun c1 => ?_) (fun c1 => absurd (hr3.trans (h1.1.trans hr1.symm)) c1)
  refine lv_iload hx hb dL_law_1389 (lv_at hl 1 rfl) ?_
  refine lv_if_ne (tgt := 1406) hx hb dL_law_1391 (by decide) (fun _ => fin) (fun c2 => ?_)
  have hz0 : (fX7_work S (xs (4 * i + 1)) (xs (4 * i + 2)) (xs (4 * i + 3))).2.1 = 0 := mp3_z (hr1.symm.trans c2)
  have e1 := hv1 hz0
  have e2 := h1.2.1 hz0
  refine lv_aload_n hx hb dL_law_1394 rfl (lv_at hl 5 rfl) ?_
  refine lv_iconst (v := 0) hx hb dL_law_1395 (by decide) ?_
  refine lc_lald hx hb hC.2 hO3 dL_law_1396 ?_
  refine lv_iload hx hb dL_law_1397 (lv_at hl 0 rfl) ?_
  refine lv_i2l hx hb dL_law_1399 rfl ?_
  refine W.lcmp hx hb dL_law_1400 ?_
  exact lv_if_eq (tgt := 1406) hx hb dL_law_1401 (by decide) (fun _ => fin) (fun c3 => absurd (lc_cmp (by rw [e1, hr2, e2])) c3)
