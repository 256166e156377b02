/-! the law's cases, walked -/
set_option maxHeartbeats 4000000 in
set_option maxRecDepth 100000 in
theorem lc_due {p : Program} {l : Launch} {e : Env} {s : State} {m : MethodId} {below : List Frame} {meth : Method} {c : Code} {H : Heap} {locs : List Loc} {cells slots : Nat} {Q : State → Prop} {ls : Array Slot} {D : va_G} {cy : Nat → ClassId} {o oa e0 mi b L x0 : Nat} {ad : Nat → Nat} {xs : Nat → Int32} (C : LC p l s m c D cy o ad oa e0 mi b L xs) {i : Nat} (hi : 4 * i + 3 < L) (hW : LW s D cy o ad oa e0 x0 H locs) (hl : lv_has ls 7 [(0, .ref b), (1, .ref x0), (2, .ref o), (3, .ref oa), (4, .int (nI (4 * i)))]) (hc : cells + 6 ≤ 601024) (hs : slots + 326 ≤ 7293033)
    (kk : ∀ (H1 : Heap) (locs1 : List Loc) (ls1 : Array Slot), LW s D cy o ad oa e0 x0 H1 locs1 → lv_has ls1 7 [(0, .ref b), (1, .ref x0), (2, .ref o), (3, .ref oa), (4, .int (nI (4 * i)))] → W p l e room_1 s m #[Value.ref b] below meth c H1 locs1 (cells + 6) (slots + 326) Q (F0 m 2383 ls1 [])) : W p l e room_1 s m #[Value.ref b] below meth c H locs cells slots Q (F0 m 1924 ls []) := by
  obtain ⟨hS, hz, g, S, th, v, hI, ⟨hL, hG, hT, -⟩, h18, hM, hR, hO⟩ := hW
  subst h18
  obtain ⟨hC, hX, hfl, hJ, ⟨ho1, ho2⟩, hML⟩ := id C
  have hx := hC.1.1
  have hb := hC.1.2.1
  have hts := hC.1.2.2.2.2
  have hV : CV e0 g S := ⟨hG, hT, hI.m, hI.k⟩
  have h1 := one_due S hI.m hI.p hI.s hI.d hI.l hI.st (xs (4 * i + 1))
  have hkp := kp_due hI (xs (4 * i + 1))
  refine lv_aload_n hx hb dL_law_1924 rfl (lv_at hl 1 rfl) ?_
  refine lv_aload_n hx hb dL_law_1925 rfl (lv_at hl 0 rfl) ?_
  refine lv_iload hx hb dL_law_1926 (lv_at hl 4 rfl) ?_
  refine lv_iconst (v := 1) hx hb dL_law_1928 (by decide) ?_
  refine lv_iadd hx hb dL_law_1929 ?_
  refine lc_sld hx hb hX hS 1 (by decide) (by omega) dL_law_1930 ?_
  refine lv_aload_n hx hb dL_law_1931 rfl (lv_at hl 3 rfl) ?_
  refine vx_calli (vx_runSX (As := [.ref (ga g 18 0), .int (xs (4 * i + 1)), .ref oa]) (rest := []) hC.1 (qL_due l hfl (A7 s.heap.size o oa) D cy g hL S e0 mi (oa + 1) oa (fun q h => a7_new h) (a7_oa ho2) hV hI.z hI.n (xs (4 * i + 1))) (vx_cwSW 3 hts gL_law_L_due rfl rfl rfl (by decide +kernel) ⟨Nat.le_of_ble_eq_true rfl, Nat.le_of_ble_eq_true rfl⟩) ⟨LP_blind, fun U hU hW => ⟨rfl, lc_LP C hS hz hM hO hU hW⟩⟩ rfl rfl hl.1 rfl (lv_room (Nat.le_of_ble_eq_true rfl)) dL_law_1932 ⟨hc, hs⟩) hS (fun q _ h => h.elim (a7_sz ho1 ho2) (fun h => by rw [h]; omega)) (fun q h => h.elim (a7_sz ho1 ho2) (fun h => by rw [h]; omega)) (fun q _ h => h.elim) (fun E ce q9 u t H1 locs1 ht hvm hp => False.elim hp) (fun r g1 t H1 locs1 ht hvm hp hB hz1 hk1 hS1 => ?_)
  obtain ⟨hr1, hLG⟩ := hp
  obtain ⟨hM1, v1, hO1, hv1⟩ := hB
  rw [ht] at hM1 hO1
  have hR1 := hR.keptA hML (fun q hq ha => hk1 q hq (a8_a7 ha))
  refine lv_istore (lv' := [(5, .int r), (0, .ref b), (1, .ref (ga g 18 0)), (2, .ref o), (3, .ref oa), (4, .int (nI (4 * i)))]) hx hb dL_law_1935 hl (by decide) rfl (fun ls hl => ?_)
  refine lv_aload_n hx hb dL_law_1937 rfl (lv_at hl 3 rfl) ?_
  refine lv_aload_n hx hb dL_law_1938 rfl (lv_at hl 1 rfl) ?_
  refine lv_iload hx hb dL_law_1939 (lv_at hl 5 rfl) ?_
  refine lv_iconst (v := 1) hx hb dL_law_1941 (by decide) ?_
  refine lv_iadd hx hb dL_law_1942 ?_
  refine lc_sld hx hb hX hS1 1 (by decide) (by omega) dL_law_1943 ?_
  refine va_calli (va_runV (As := [.int (xs (4 * i + 1))]) (rest := []) hC.1 (qX8_due l (A8 o oa) D cy o ad hML S th hI.m (xs (4 * i + 1))) (cwV 1 hts gL_law_X8_due rfl rfl rfl (by decide +kernel) ⟨Nat.le_of_ble_eq_true rfl, Nat.le_of_ble_eq_true rfl⟩) ⟨MP_blind, va_recv hC.2 (p1 hR1.1) (ci := 9) (q0 := 0) rfl rfl, fun U hU hW => ⟨rfl, by rw [hU]; exact hR1, va_K.moved hW.alike hC.2⟩⟩ rfl rfl hl.1 rfl (lv_room (Nat.le_of_ble_eq_true rfl)) dL_law_1944 ⟨hc, hs⟩) hS1 (fun q _ h => a8_sz ho1 h) (fun q h => a8_sz ho1 h) (fun r2 u2 t2 H2 locs2 ht2 hvm2 hr2 hB2 hz2 hk2 hS2 => ?_)
  rw [ht2] at hB2
  have hM2 := hM1.keptA hLG.1 (fun q hq ha => hk2 q hq (a7_a8 ho2 ha))
  have hO2 : at1 D oa (LA cy v1) H2 := hO1.kept (hk2 oa hO1.lt a8_oa)
  refine lv_istore (lv' := [(6, .int r2), (5, .int r), (0, .ref b), (1, .ref (ga g 18 0)), (2, .ref o), (3, .ref oa), (4, .int (nI (4 * i)))]) hx hb dL_law_1947 hl (by decide) rfl (fun ls hl => ?_)
  refine lv_aload_n hx hb dL_law_1949 rfl (lv_at hl 4 rfl) ?_
  refine va_calli (va_runV (As := []) (rest := []) hC.1 (qX8_thrown l D cy o ad (fX8_due S (xs (4 * i + 1))).2.2 (fX8_due S (xs (4 * i + 1))).2.1) (cwV 0 hts gL_law_X8_thrown rfl rfl rfl (by decide +kernel) ⟨Nat.le_of_ble_eq_true rfl, Nat.le_of_ble_eq_true rfl⟩) ⟨MP_blind, va_recv hC.2 (p1 hB2.1) (ci := 9) (q0 := 0) rfl rfl, fun U hU hW => ⟨rfl, by rw [hU]; exact hB2, va_K.moved hW.alike hC.2⟩⟩ rfl rfl hl.1 rfl (lv_room (Nat.le_of_ble_eq_true rfl)) dL_law_1950 ⟨hc, hs⟩) hS2 (fun q _ h => h.elim) (fun q h => h.elim) (fun r3 u3 t3 H3 locs3 ht3 hvm3 hr3 _ hz3 hk3 hS3 => ?_)
  have hM3 := hM2.keep (fun q hq => hk3 q hq (fun h => h))
  have hB3 := hB2.keep (fun q hq => hk3 q hq (fun h => h))
  have hO3 : at1 D oa (LA cy v1) H3 := hO2.kept (hk3 oa hO2.lt (fun h => h))
  have hW3 : LW s D cy o ad oa e0 (ga g 18 0) H3 locs3 := lc_fin (x8 := (fX8_due S (xs (4 * i + 1)))) (x7 := (fX7_due S (xs (4 * i + 1)))) hS3 (Nat.lt_of_lt_of_le hz (Nat.le_trans hz1 (Nat.le_trans hz2 hz3))) hkp h1 hLG hM3 hB3 hO3
  have fin : W p l e room_1 s m #[Value.ref b] below meth c H3 locs3 (cells + 6) (slots + 326) Q (F0 m 1977 ls []) := by
    refine lv_goto (tgt := 2383) hx hb dL_law_1977 (by decide) ?_
    exact kk H3 locs3 ls hW3 (lv_sub hl [2, 3, 4, 5, 6] rfl)
  refine lv_iload hx hb dL_law_1953 (lv_at hl 1 rfl) ?_
  refine lv_icmp_eq (tgt := 1960) hx hb dL_law_1955 (by decide) (fun c1 => ?_) (fun c1 => absurd (hr3.trans (h1.1.trans hr1.symm)) c1)
  refine lv_iload hx hb dL_law_1960 (lv_at hl 1 rfl) ?_
  refine lv_if_ne (tgt := 1977) hx hb dL_law_1962 (by decide) (fun _ => fin) (fun c2 => ?_)
  have hz0 : (fX7_due S (xs (4 * i + 1))).2.1 = 0 := mp3_z (hr1.symm.trans c2)
  have e1 := hv1 hz0
  have e2 := h1.2.1 hz0
  refine lv_aload_n hx hb dL_law_1965 rfl (lv_at hl 5 rfl) ?_
  refine lv_iconst (v := 0) hx hb dL_law_1966 (by decide) ?_
  refine lc_lald hx hb hC.2 hO3 dL_law_1967 ?_
  refine lv_iload hx hb dL_law_1968 (lv_at hl 0 rfl) ?_
  refine lv_i2l hx hb dL_law_1970 rfl ?_
  refine W.lcmp hx hb dL_law_1971 ?_
  exact lv_if_eq (tgt := 1977) hx hb dL_law_1972 (by decide) (fun _ => fin) (fun c3 => absurd (lc_cmp (by rw [e1, hr2, e2])) c3)
set_option maxHeartbeats 4000000 in
set_option maxRecDepth 100000 in
theorem lc_sees {p : Program} {l : Launch} {e : Env} {s : State} {m : MethodId} {below : List Frame} {meth : Method} {c : Code} {H : Heap} {locs : List Loc} {cells slots : Nat} {Q : State → Prop} {ls : Array Slot} {D : va_G} {cy : Nat → ClassId} {o oa e0 mi b L x0 : Nat} {ad : Nat → Nat} {xs : Nat → Int32} (C : LC p l s m c D cy o ad oa e0 mi b L xs) {i : Nat} (hi : 4 * i + 3 < L) (hW : LW s D cy o ad oa e0 x0 H locs) (hl : lv_has ls 7 [(0, .ref b), (1, .ref x0), (2, .ref o), (3, .ref oa), (4, .int (nI (4 * i)))]) (hc : cells + 6 ≤ 601024) (hs : slots + 326 ≤ 7293033)
    (kk : ∀ (H1 : Heap) (locs1 : List Loc) (ls1 : Array Slot), LW s D cy o ad oa e0 x0 H1 locs1 → lv_has ls1 7 [(0, .ref b), (1, .ref x0), (2, .ref o), (3, .ref oa), (4, .int (nI (4 * i)))] → W p l e room_1 s m #[Value.ref b] below meth c H1 locs1 (cells + 6) (slots + 326) Q (F0 m 2383 ls1 [])) : W p l e room_1 s m #[Value.ref b] below meth c H locs cells slots Q (F0 m 1980 ls []) := by
  obtain ⟨hS, hz, g, S, th, v, hI, ⟨hL, hG, hT, -⟩, h18, hM, hR, hO⟩ := hW
  subst h18
  obtain ⟨hC, hX, hfl, hJ, ⟨ho1, ho2⟩, hML⟩ := id C
  have hx := hC.1.1
  have hb := hC.1.2.1
  have hts := hC.1.2.2.2.2
  have hV : CV e0 g S := ⟨hG, hT, hI.m, hI.k⟩
  have h1 := one_sees S hI.m (xs (4 * i + 1)) (xs (4 * i + 2))
  have hkp := kp_sees hI (xs (4 * i + 1)) (xs (4 * i + 2))
  refine lv_aload_n hx hb dL_law_1980 rfl (lv_at hl 1 rfl) ?_
  refine lv_aload_n hx hb dL_law_1981 rfl (lv_at hl 0 rfl) ?_
  refine lv_iload hx hb dL_law_1982 (lv_at hl 4 rfl) ?_
  refine lv_iconst (v := 1) hx hb dL_law_1984 (by decide) ?_
  refine lv_iadd hx hb dL_law_1985 ?_
  refine lc_sld hx hb hX hS 1 (by decide) (by omega) dL_law_1986 ?_
  refine lv_aload_n hx hb dL_law_1987 rfl (lv_at hl 0 rfl) ?_
  refine lv_iload hx hb dL_law_1988 (lv_at hl 4 rfl) ?_
  refine lv_iconst (v := 2) hx hb dL_law_1990 (by decide) ?_
  refine lv_iadd hx hb dL_law_1991 ?_
  refine lc_sld hx hb hX hS 2 (by decide) (by omega) dL_law_1992 ?_
  refine lv_aload_n hx hb dL_law_1993 rfl (lv_at hl 3 rfl) ?_
  refine vx_calli (vx_runSX (As := [.ref (ga g 18 0), .int (xs (4 * i + 1)), .int (xs (4 * i + 2)), .ref oa]) (rest := []) hC.1 (qL_sees l hfl (A7 s.heap.size o oa) D cy g hL S e0 mi (oa + 1) oa (fun q h => a7_new h) (a7_oa ho2) hV hI.z hI.n (xs (4 * i + 1)) (xs (4 * i + 2))) (vx_cwSW 4 hts gL_law_L_sees rfl rfl rfl (by decide +kernel) ⟨Nat.le_of_ble_eq_true rfl, Nat.le_of_ble_eq_true rfl⟩) ⟨LP_blind, fun U hU hW => ⟨rfl, lc_LP C hS hz hM hO hU hW⟩⟩ rfl rfl hl.1 rfl (lv_room (Nat.le_of_ble_eq_true rfl)) dL_law_1994 ⟨hc, hs⟩) hS (fun q _ h => h.elim (a7_sz ho1 ho2) (fun h => by rw [h]; omega)) (fun q h => h.elim (a7_sz ho1 ho2) (fun h => by rw [h]; omega)) (fun q _ h => h.elim) (fun E ce q9 u t H1 locs1 ht hvm hp => False.elim hp) (fun r g1 t H1 locs1 ht hvm hp hB hz1 hk1 hS1 => ?_)
  obtain ⟨hr1, hLG⟩ := hp
  obtain ⟨hM1, v1, hO1, hv1⟩ := hB
  rw [ht] at hM1 hO1
  have hR1 := hR.keptA hML (fun q hq ha => hk1 q hq (a8_a7 ha))
  refine lv_istore (lv' := [(5, .int r), (0, .ref b), (1, .ref (ga g 18 0)), (2, .ref o), (3, .ref oa), (4, .int (nI (4 * i)))]) hx hb dL_law_1997 hl (by decide) rfl (fun ls hl => ?_)
  refine lv_aload_n hx hb dL_law_1999 rfl (lv_at hl 3 rfl) ?_
  refine lv_aload_n hx hb dL_law_2000 rfl (lv_at hl 1 rfl) ?_
  refine lv_iload hx hb dL_law_2001 (lv_at hl 5 rfl) ?_
  refine lv_iconst (v := 1) hx hb dL_law_2003 (by decide) ?_
  refine lv_iadd hx hb dL_law_2004 ?_
  refine lc_sld hx hb hX hS1 1 (by decide) (by omega) dL_law_2005 ?_
  refine lv_aload_n hx hb dL_law_2006 rfl (lv_at hl 1 rfl) ?_
  refine lv_iload hx hb dL_law_2007 (lv_at hl 5 rfl) ?_
  refine lv_iconst (v := 2) hx hb dL_law_2009 (by decide) ?_
  refine lv_iadd hx hb dL_law_2010 ?_
  refine lc_sld hx hb hX hS1 2 (by decide) (by omega) dL_law_2011 ?_
  refine va_calli (va_runV (As := [.int (xs (4 * i + 1)), .int (xs (4 * i + 2))]) (rest := []) hC.1 (qX8_sees l (A8 o oa) D cy o ad hML S th hI.m (xs (4 * i + 1)) (xs (4 * i + 2))) (cwV 2 hts gL_law_X8_sees rfl rfl rfl (by decide +kernel) ⟨Nat.le_of_ble_eq_true rfl, Nat.le_of_ble_eq_true rfl⟩) ⟨MP_blind, va_recv hC.2 (p1 hR1.1) (ci := 9) (q0 := 0) rfl rfl, fun U hU hW => ⟨rfl, by rw [hU]; exact hR1, va_K.moved hW.alike hC.2⟩⟩ rfl rfl hl.1 rfl (lv_room (Nat.le_of_ble_eq_true rfl)) dL_law_2012 ⟨hc, hs⟩) hS1 (fun q _ h => a8_sz ho1 h) (fun q h => a8_sz ho1 h) (fun r2 u2 t2 H2 locs2 ht2 hvm2 hr2 hB2 hz2 hk2 hS2 => ?_)
  rw [ht2] at hB2
  have hM2 := hM1.keptA hLG.1 (fun q hq ha => hk2 q hq (a7_a8 ho2 ha))
  have hO2 : at1 D oa (LA cy v1) H2 := hO1.kept (hk2 oa hO1.lt a8_oa)
  refine lv_istore (lv' := [(6, .int r2), (5, .int r), (0, .ref b), (1, .ref (ga g 18 0)), (2, .ref o), (3, .ref oa), (4, .int (nI (4 * i)))]) hx hb dL_law_2015 hl (by decide) rfl (fun ls hl => ?_)
  refine lv_aload_n hx hb dL_law_2017 rfl (lv_at hl 4 rfl) ?_
  refine va_calli (va_runV (As := []) (rest := []) hC.1 (qX8_thrown l D cy o ad (fX8_sees S (xs (4 * i + 1)) (xs (4 * i + 2))).2.2 (fX8_sees S (xs (4 * i + 1)) (xs (4 * i + 2))).2.1) (cwV 0 hts gL_law_X8_thrown rfl rfl rfl (by decide +kernel) ⟨Nat.le_of_ble_eq_true rfl, Nat.le_of_ble_eq_true rfl⟩) ⟨MP_blind, va_recv hC.2 (p1 hB2.1) (ci := 9) (q0 := 0) rfl rfl, fun U hU hW => ⟨rfl, by rw [hU]; exact hB2, va_K.moved hW.alike hC.2⟩⟩ rfl rfl hl.1 rfl (lv_room (Nat.le_of_ble_eq_true rfl)) dL_law_2018 ⟨hc, hs⟩) hS2 (fun q _ h => h.elim) (fun q h => h.elim) (fun r3 u3 t3 H3 locs3 ht3 hvm3 hr3 _ hz3 hk3 hS3 => ?_)
  have hM3 := hM2.keep (fun q hq => hk3 q hq (fun h => h))
  have hB3 := hB2.keep (fun q hq => hk3 q hq (fun h => h))
  have hO3 : at1 D oa (LA cy v1) H3 := hO2.kept (hk3 oa hO2.lt (fun h => h))
  have hW3 : LW s D cy o ad oa e0 (ga g 18 0) H3 locs3 := lc_fin (x8 := (fX8_sees S (xs (4 * i + 1)) (xs (4 * i + 2)))) (x7 := (fX7_sees S (xs (4 * i + 1)) (xs (4 * i + 2)))) hS3 (Nat.lt_of_lt_of_le hz (Nat.le_trans hz1 (Nat.le_trans hz2 hz3))) hkp h1 hLG hM3 hB3 hO3
  have fin : W p l e room_1 s m #[Value.ref b] below meth c H3 locs3 (cells + 6) (slots + 326) Q (F0 m 2052 ls []) := by
    refine lv_goto (tgt := 2383) hx hb dL_law_2052 (by decide) ?_
    exact kk H3 locs3 ls hW3 (lv_sub hl [2, 3, 4, 5, 6] rfl)
  refine lv_iload hx hb dL_law_2021 (lv_at hl 1 rfl) ?_
  refine lv_icmp_eq (tgt := 2028) hx hb dL_law_2023 (by decide) (fun c1 => ?_) (fun c1 => absurd (hr3.trans (h1.1.trans hr1.symm)) c1)
  refine lv_iload hx hb dL_law_2028 (lv_at hl 1 rfl) ?_
  refine lv_if_ne (tgt := 2052) hx hb dL_law_2030 (by decide) (fun _ => fin) (fun c2 => ?_)
  have hz0 : (fX7_sees S (xs (4 * i + 1)) (xs (4 * i + 2))).2.1 = 0 := mp3_z (hr1.symm.trans c2)
  have e1 := hv1 hz0
  have e2 := h1.2.1 hz0
  refine lv_aload_n hx hb dL_law_2033 rfl (lv_at hl 5 rfl) ?_
  refine lv_iconst (v := 0) hx hb dL_law_2034 (by decide) ?_
  refine lc_lald hx hb hC.2 hO3 dL_law_2035 ?_
  refine lv_iload hx hb dL_law_2036 (lv_at hl 0 rfl) ?_
  refine lv_if_eq (tgt := 2045) hx hb dL_law_2038 (by decide) (fun c4 => ?_) (fun c4 => ?_)
  · refine lv_lconst (v := 0) hx hb dL_law_2045 rfl ?_
    refine W.lcmp hx hb dL_law_2046 ?_
    exact lv_if_eq (tgt := 2052) hx hb dL_law_2047 (by decide) (fun _ => fin) (fun c3 => absurd (lc_cmp (by rw [e1, ← e2, ← hr2, if_pos c4])) c3)
  · refine lv_lconst (v := 1) hx hb dL_law_2041 rfl ?_
    refine lv_goto (tgt := 2046) hx hb dL_law_2042 (by decide) ?_
    refine W.lcmp hx hb dL_law_2046 ?_
    exact lv_if_eq (tgt := 2052) hx hb dL_law_2047 (by decide) (fun _ => fin) (fun c3 => absurd (lc_cmp (by rw [e1, ← e2, ← hr2, if_neg c4])) c3)
set_option maxHeartbeats 4000000 in
set_option maxRecDepth 100000 in
theorem lc_ofSuit {p : Program} {l : Launch} {e : Env} {s : State} {m : MethodId} {below : List Frame} {meth : Method} {c : Code} {H : Heap} {locs : List Loc} {cells slots : Nat} {Q : State → Prop} {ls : Array Slot} {D : va_G} {cy : Nat → ClassId} {o oa e0 mi b L x0 : Nat} {ad : Nat → Nat} {xs : Nat → Int32} (C : LC p l s m c D cy o ad oa e0 mi b L xs) {i : Nat} (hi : 4 * i + 3 < L) (hW : LW s D cy o ad oa e0 x0 H locs) (hl : lv_has ls 7 [(0, .ref b), (1, .ref x0), (2, .ref o), (3, .ref oa), (4, .int (nI (4 * i)))]) (hc : cells + 6 ≤ 601024) (hs : slots + 326 ≤ 7293033)
    (kk : ∀ (H1 : Heap) (locs1 : List Loc) (ls1 : Array Slot), LW s D cy o ad oa e0 x0 H1 locs1 → lv_has ls1 7 [(0, .ref b), (1, .ref x0), (2, .ref o), (3, .ref oa), (4, .int (nI (4 * i)))] → W p l e room_1 s m #[Value.ref b] below meth c H1 locs1 (cells + 6) (slots + 326) Q (F0 m 2383 ls1 [])) : W p l e room_1 s m #[Value.ref b] below meth c H locs cells slots Q (F0 m 2055 ls []) := by
  obtain ⟨hS, hz, g, S, th, v, hI, ⟨hL, hG, hT, -⟩, h18, hM, hR, hO⟩ := hW
  subst h18
  obtain ⟨hC, hX, hfl, hJ, ⟨ho1, ho2⟩, hML⟩ := id C
  have hx := hC.1.1
  have hb := hC.1.2.1
  have hts := hC.1.2.2.2.2
  have hV : CV e0 g S := ⟨hG, hT, hI.m, hI.k⟩
  have h1 := one_ofSuit S hI.w hI.m (xs (4 * i + 1)) (xs (4 * i + 2))
  have hkp := kp_ofSuit hI (xs (4 * i + 1)) (xs (4 * i + 2))
  refine lv_aload_n hx hb dL_law_2055 rfl (lv_at hl 1 rfl) ?_
  refine lv_aload_n hx hb dL_law_2056 rfl (lv_at hl 0 rfl) ?_
  refine lv_iload hx hb dL_law_2057 (lv_at hl 4 rfl) ?_
  refine lv_iconst (v := 1) hx hb dL_law_2059 (by decide) ?_
  refine lv_iadd hx hb dL_law_2060 ?_
  refine lc_sld hx hb hX hS 1 (by decide) (by omega) dL_law_2061 ?_
  refine lv_aload_n hx hb dL_law_2062 rfl (lv_at hl 0 rfl) ?_
  refine lv_iload hx hb dL_law_2063 (lv_at hl 4 rfl) ?_
  refine lv_iconst (v := 2) hx hb dL_law_2065 (by decide) ?_
  refine lv_iadd hx hb dL_law_2066 ?_
  refine lc_sld hx hb hX hS 2 (by decide) (by omega) dL_law_2067 ?_
  refine lv_aload_n hx hb dL_law_2068 rfl (lv_at hl 3 rfl) ?_
  refine vx_calli (vx_runSX (As := [.ref (ga g 18 0), .int (xs (4 * i + 1)), .int (xs (4 * i + 2)), .ref oa]) (rest := []) hC.1 (qL_ofSuit l hfl (A7 s.heap.size o oa) D cy g hL S e0 mi (oa + 1) oa (fun q h => a7_new h) (a7_oa ho2) hV hI.z hI.n (xs (4 * i + 1)) (xs (4 * i + 2))) (vx_cwSW 4 hts gL_law_L_ofSuit rfl rfl rfl (by decide +kernel) ⟨Nat.le_of_ble_eq_true rfl, Nat.le_of_ble_eq_true rfl⟩) ⟨LP_blind, fun U hU hW => ⟨rfl, lc_LP C hS hz hM hO hU hW⟩⟩ rfl rfl hl.1 rfl (lv_room (Nat.le_of_ble_eq_true rfl)) dL_law_2069 ⟨hc, hs⟩) hS (fun q _ h => h.elim (a7_sz ho1 ho2) (fun h => by rw [h]; omega)) (fun q h => h.elim (a7_sz ho1 ho2) (fun h => by rw [h]; omega)) (fun q _ h => h.elim) (fun E ce q9 u t H1 locs1 ht hvm hp => False.elim hp) (fun r g1 t H1 locs1 ht hvm hp hB hz1 hk1 hS1 => ?_)
  obtain ⟨hr1, hLG⟩ := hp
  obtain ⟨hM1, v1, hO1, hv1⟩ := hB
  rw [ht] at hM1 hO1
  have hR1 := hR.keptA hML (fun q hq ha => hk1 q hq (a8_a7 ha))
  refine lv_istore (lv' := [(5, .int r), (0, .ref b), (1, .ref (ga g 18 0)), (2, .ref o), (3, .ref oa), (4, .int (nI (4 * i)))]) hx hb dL_law_2072 hl (by decide) rfl (fun ls hl => ?_)
  refine lv_aload_n hx hb dL_law_2074 rfl (lv_at hl 3 rfl) ?_
  refine lv_aload_n hx hb dL_law_2075 rfl (lv_at hl 1 rfl) ?_
  refine lv_iload hx hb dL_law_2076 (lv_at hl 5 rfl) ?_
  refine lv_iconst (v := 1) hx hb dL_law_2078 (by decide) ?_
  refine lv_iadd hx hb dL_law_2079 ?_
  refine lc_sld hx hb hX hS1 1 (by decide) (by omega) dL_law_2080 ?_
  refine lv_aload_n hx hb dL_law_2081 rfl (lv_at hl 1 rfl) ?_
  refine lv_iload hx hb dL_law_2082 (lv_at hl 5 rfl) ?_
  refine lv_iconst (v := 2) hx hb dL_law_2084 (by decide) ?_
  refine lv_iadd hx hb dL_law_2085 ?_
  refine lc_sld hx hb hX hS1 2 (by decide) (by omega) dL_law_2086 ?_
  refine va_calli (va_runV (As := [.int (xs (4 * i + 1)), .int (xs (4 * i + 2))]) (rest := []) hC.1 (qX8_ofSuit l (A8 o oa) D cy o ad hML S th hI.m (xs (4 * i + 1)) (xs (4 * i + 2))) (cwV 2 hts gL_law_X8_ofSuit rfl rfl rfl (by decide +kernel) ⟨Nat.le_of_ble_eq_true rfl, Nat.le_of_ble_eq_true rfl⟩) ⟨MP_blind, va_recv hC.2 (p1 hR1.1) (ci := 9) (q0 := 0) rfl rfl, fun U hU hW => ⟨rfl, by rw [hU]; exact hR1, va_K.moved hW.alike hC.2⟩⟩ rfl rfl hl.1 rfl (lv_room (Nat.le_of_ble_eq_true rfl)) dL_law_2087 ⟨hc, hs⟩) hS1 (fun q _ h => a8_sz ho1 h) (fun q h => a8_sz ho1 h) (fun r2 u2 t2 H2 locs2 ht2 hvm2 hr2 hB2 hz2 hk2 hS2 => ?_)
  rw [ht2] at hB2
  have hM2 := hM1.keptA hLG.1 (fun q hq ha => hk2 q hq (a7_a8 ho2 ha))
  have hO2 : at1 D oa (LA cy v1) H2 := hO1.kept (hk2 oa hO1.lt a8_oa)
  refine lv_istore (lv' := [(6, .int r2), (5, .int r), (0, .ref b), (1, .ref (ga g 18 0)), (2, .ref o), (3, .ref oa), (4, .int (nI (4 * i)))]) hx hb dL_law_2090 hl (by decide) rfl (fun ls hl => ?_)
  refine lv_aload_n hx hb dL_law_2092 rfl (lv_at hl 4 rfl) ?_
  refine va_calli (va_runV (As := []) (rest := []) hC.1 (qX8_thrown l D cy o ad (fX8_ofSuit S (xs (4 * i + 1)) (xs (4 * i + 2))).2.2 (fX8_ofSuit S (xs (4 * i + 1)) (xs (4 * i + 2))).2.1) (cwV 0 hts gL_law_X8_thrown rfl rfl rfl (by decide +kernel) ⟨Nat.le_of_ble_eq_true rfl, Nat.le_of_ble_eq_true rfl⟩) ⟨MP_blind, va_recv hC.2 (p1 hB2.1) (ci := 9) (q0 := 0) rfl rfl, fun U hU hW => ⟨rfl, by rw [hU]; exact hB2, va_K.moved hW.alike hC.2⟩⟩ rfl rfl hl.1 rfl (lv_room (Nat.le_of_ble_eq_true rfl)) dL_law_2093 ⟨hc, hs⟩) hS2 (fun q _ h => h.elim) (fun q h => h.elim) (fun r3 u3 t3 H3 locs3 ht3 hvm3 hr3 _ hz3 hk3 hS3 => ?_)
  have hM3 := hM2.keep (fun q hq => hk3 q hq (fun h => h))
  have hB3 := hB2.keep (fun q hq => hk3 q hq (fun h => h))
  have hO3 : at1 D oa (LA cy v1) H3 := hO2.kept (hk3 oa hO2.lt (fun h => h))
  have hW3 : LW s D cy o ad oa e0 (ga g 18 0) H3 locs3 := lc_fin (x8 := (fX8_ofSuit S (xs (4 * i + 1)) (xs (4 * i + 2)))) (x7 := (fX7_ofSuit S (xs (4 * i + 1)) (xs (4 * i + 2)))) hS3 (Nat.lt_of_lt_of_le hz (Nat.le_trans hz1 (Nat.le_trans hz2 hz3))) hkp h1 hLG hM3 hB3 hO3
  have fin : W p l e room_1 s m #[Value.ref b] below meth c H3 locs3 (cells + 6) (slots + 326) Q (F0 m 2120 ls []) := by
    refine lv_goto (tgt := 2383) hx hb dL_law_2120 (by decide) ?_
    exact kk H3 locs3 ls hW3 (lv_sub hl [2, 3, 4, 5, 6] rfl)
  refine lv_iload hx hb dL_law_2096 (lv_at hl 1 rfl) ?_
  refine lv_icmp_eq (tgt := 2103) hx hb dL_law_2098 (by decide) (fun c1 => ?_) (fun c1 => absurd (hr3.trans (h1.1.trans hr1.symm)) c1)
  refine lv_iload hx hb dL_law_2103 (lv_at hl 1 rfl) ?_
  refine lv_if_ne (tgt := 2120) hx hb dL_law_2105 (by decide) (fun _ => fin) (fun c2 => ?_)
  have hz0 : (fX7_ofSuit S (xs (4 * i + 1)) (xs (4 * i + 2))).2.1 = 0 := mp3_z (hr1.symm.trans c2)
  have e1 := hv1 hz0
  have e2 := h1.2.1 hz0
  refine lv_aload_n hx hb dL_law_2108 rfl (lv_at hl 5 rfl) ?_
  refine lv_iconst (v := 0) hx hb dL_law_2109 (by decide) ?_
  refine lc_lald hx hb hC.2 hO3 dL_law_2110 ?_
  refine lv_iload hx hb dL_law_2111 (lv_at hl 0 rfl) ?_
  refine lv_i2l hx hb dL_law_2113 rfl ?_
  refine W.lcmp hx hb dL_law_2114 ?_
  exact lv_if_eq (tgt := 2120) hx hb dL_law_2115 (by decide) (fun _ => fin) (fun c3 => absurd (lc_cmp (by rw [e1, hr2, e2])) c3)
set_option maxHeartbeats 4000000 in
set_option maxRecDepth 100000 in
theorem lc_ofClaim {p : Program} {l : Launch} {e : Env} {s : State} {m : MethodId} {below : List Frame} {meth : Method} {c : Code} {H : Heap} {locs : List Loc} {cells slots : Nat} {Q : State → Prop} {ls : Array Slot} {D : va_G} {cy : Nat → ClassId} {o oa e0 mi b L x0 : Nat} {ad : Nat → Nat} {xs : Nat → Int32} (C : LC p l s m c D cy o ad oa e0 mi b L xs) {i : Nat} (hi : 4 * i + 3 < L) (hW : LW s D cy o ad oa e0 x0 H locs) (hl : lv_has ls 7 [(0, .ref b), (1, .ref x0), (2, .ref o), (3, .ref oa), (4, .int (nI (4 * i)))]) (hc : cells + 6 ≤ 601024) (hs : slots + 326 ≤ 7293033)
    (kk : ∀ (H1 : Heap) (locs1 : List Loc) (ls1 : Array Slot), LW s D cy o ad oa e0 x0 H1 locs1 → lv_has ls1 7 [(0, .ref b), (1, .ref x0), (2, .ref o), (3, .ref oa), (4, .int (nI (4 * i)))] → W p l e room_1 s m #[Value.ref b] below meth c H1 locs1 (cells + 6) (slots + 326) Q (F0 m 2383 ls1 [])) : W p l e room_1 s m #[Value.ref b] below meth c H locs cells slots Q (F0 m 2123 ls []) := by
  obtain ⟨hS, hz, g, S, th, v, hI, ⟨hL, hG, hT, -⟩, h18, hM, hR, hO⟩ := hW
  subst h18
  obtain ⟨hC, hX, hfl, hJ, ⟨ho1, ho2⟩, hML⟩ := id C
  have hx := hC.1.1
  have hb := hC.1.2.1
  have hts := hC.1.2.2.2.2
  have hV : CV e0 g S := ⟨hG, hT, hI.m, hI.k⟩
  have h1 := one_ofClaim S hI.m (xs (4 * i + 1)) (xs (4 * i + 2))
  have hkp := kp_ofClaim hI (xs (4 * i + 1)) (xs (4 * i + 2))
  refine lv_aload_n hx hb dL_law_2123 rfl (lv_at hl 1 rfl) ?_
  refine lv_aload_n hx hb dL_law_2124 rfl (lv_at hl 0 rfl) ?_
  refine lv_iload hx hb dL_law_2125 (lv_at hl 4 rfl) ?_
  refine lv_iconst (v := 1) hx hb dL_law_2127 (by decide) ?_
  refine lv_iadd hx hb dL_law_2128 ?_
  refine lc_sld hx hb hX hS 1 (by decide) (by omega) dL_law_2129 ?_
  refine lv_aload_n hx hb dL_law_2130 rfl (lv_at hl 0 rfl) ?_
  refine lv_iload hx hb dL_law_2131 (lv_at hl 4 rfl) ?_
  refine lv_iconst (v := 2) hx hb dL_law_2133 (by decide) ?_
  refine lv_iadd hx hb dL_law_2134 ?_
  refine lc_sld hx hb hX hS 2 (by decide) (by omega) dL_law_2135 ?_
  refine lv_aload_n hx hb dL_law_2136 rfl (lv_at hl 3 rfl) ?_
  refine vx_calli (vx_runSX (As := [.ref (ga g 18 0), .int (xs (4 * i + 1)), .int (xs (4 * i + 2)), .ref oa]) (rest := []) hC.1 (qL_ofClaim l hfl (A7 s.heap.size o oa) D cy g hL S e0 mi (oa + 1) oa (fun q h => a7_new h) (a7_oa ho2) hV hI.z hI.n (xs (4 * i + 1)) (xs (4 * i + 2))) (vx_cwSW 4 hts gL_law_L_ofClaim rfl rfl rfl (by decide +kernel) ⟨Nat.le_of_ble_eq_true rfl, Nat.le_of_ble_eq_true rfl⟩) ⟨LP_blind, fun U hU hW => ⟨rfl, lc_LP C hS hz hM hO hU hW⟩⟩ rfl rfl hl.1 rfl (lv_room (Nat.le_of_ble_eq_true rfl)) dL_law_2137 ⟨hc, hs⟩) hS (fun q _ h => h.elim (a7_sz ho1 ho2) (fun h => by rw [h]; omega)) (fun q h => h.elim (a7_sz ho1 ho2) (fun h => by rw [h]; omega)) (fun q _ h => h.elim) (fun E ce q9 u t H1 locs1 ht hvm hp => False.elim hp) (fun r g1 t H1 locs1 ht hvm hp hB hz1 hk1 hS1 => ?_)
  obtain ⟨hr1, hLG⟩ := hp
  obtain ⟨hM1, v1, hO1, hv1⟩ := hB
  rw [ht] at hM1 hO1
  have hR1 := hR.keptA hML (fun q hq ha => hk1 q hq (a8_a7 ha))
  refine lv_istore (lv' := [(5, .int r), (0, .ref b), (1, .ref (ga g 18 0)), (2, .ref o), (3, .ref oa), (4, .int (nI (4 * i)))]) hx hb dL_law_2140 hl (by decide) rfl (fun ls hl => ?_)
  refine lv_aload_n hx hb dL_law_2142 rfl (lv_at hl 3 rfl) ?_
  refine lv_aload_n hx hb dL_law_2143 rfl (lv_at hl 1 rfl) ?_
  refine lv_iload hx hb dL_law_2144 (lv_at hl 5 rfl) ?_
  refine lv_iconst (v := 1) hx hb dL_law_2146 (by decide) ?_
  refine lv_iadd hx hb dL_law_2147 ?_
  refine lc_sld hx hb hX hS1 1 (by decide) (by omega) dL_law_2148 ?_
  refine lv_aload_n hx hb dL_law_2149 rfl (lv_at hl 1 rfl) ?_
  refine lv_iload hx hb dL_law_2150 (lv_at hl 5 rfl) ?_
  refine lv_iconst (v := 2) hx hb dL_law_2152 (by decide) ?_
  refine lv_iadd hx hb dL_law_2153 ?_
  refine lc_sld hx hb hX hS1 2 (by decide) (by omega) dL_law_2154 ?_
  refine va_calli (va_runV (As := [.int (xs (4 * i + 1)), .int (xs (4 * i + 2))]) (rest := []) hC.1 (qX8_ofClaim l (A8 o oa) D cy o ad hML S th hI.m (xs (4 * i + 1)) (xs (4 * i + 2))) (cwV 2 hts gL_law_X8_ofClaim rfl rfl rfl (by decide +kernel) ⟨Nat.le_of_ble_eq_true rfl, Nat.le_of_ble_eq_true rfl⟩) ⟨MP_blind, va_recv hC.2 (p1 hR1.1) (ci := 9) (q0 := 0) rfl rfl, fun U hU hW => ⟨rfl, by rw [hU]; exact hR1, va_K.moved hW.alike hC.2⟩⟩ rfl rfl hl.1 rfl (lv_room (Nat.le_of_ble_eq_true rfl)) dL_law_2155 ⟨hc, hs⟩) hS1 (fun q _ h => a8_sz ho1 h) (fun q h => a8_sz ho1 h) (fun r2 u2 t2 H2 locs2 ht2 hvm2 hr2 hB2 hz2 hk2 hS2 => ?_)
  rw [ht2] at hB2
  have hM2 := hM1.keptA hLG.1 (fun q hq ha => hk2 q hq (a7_a8 ho2 ha))
  have hO2 : at1 D oa (LA cy v1) H2 := hO1.kept (hk2 oa hO1.lt a8_oa)
  refine lv_istore (lv' := [(6, .int r2), (5, .int r), (0, .ref b), (1, .ref (ga g 18 0)), (2, .ref o), (3, .ref oa), (4, .int (nI (4 * i)))]) hx hb dL_law_2158 hl (by decide) rfl (fun ls hl => ?_)
  refine lv_aload_n hx hb dL_law_2160 rfl (lv_at hl 4 rfl) ?_
  refine va_calli (va_runV (As := []) (rest := []) hC.1 (qX8_thrown l D cy o ad (fX8_ofClaim S (xs (4 * i + 1)) (xs (4 * i + 2))).2.2 (fX8_ofClaim S (xs (4 * i + 1)) (xs (4 * i + 2))).2.1) (cwV 0 hts gL_law_X8_thrown rfl rfl rfl (by decide +kernel) ⟨Nat.le_of_ble_eq_true rfl, Nat.le_of_ble_eq_true rfl⟩) ⟨MP_blind, va_recv hC.2 (p1 hB2.1) (ci := 9) (q0 := 0) rfl rfl, fun U hU hW => ⟨rfl, by rw [hU]; exact hB2, va_K.moved hW.alike hC.2⟩⟩ rfl rfl hl.1 rfl (lv_room (Nat.le_of_ble_eq_true rfl)) dL_law_2161 ⟨hc, hs⟩) hS2 (fun q _ h => h.elim) (fun q h => h.elim) (fun r3 u3 t3 H3 locs3 ht3 hvm3 hr3 _ hz3 hk3 hS3 => ?_)
  have hM3 := hM2.keep (fun q hq => hk3 q hq (fun h => h))
  have hB3 := hB2.keep (fun q hq => hk3 q hq (fun h => h))
  have hO3 : at1 D oa (LA cy v1) H3 := hO2.kept (hk3 oa hO2.lt (fun h => h))
  have hW3 : LW s D cy o ad oa e0 (ga g 18 0) H3 locs3 := lc_fin (x8 := (fX8_ofClaim S (xs (4 * i + 1)) (xs (4 * i + 2)))) (x7 := (fX7_ofClaim S (xs (4 * i + 1)) (xs (4 * i + 2)))) hS3 (Nat.lt_of_lt_of_le hz (Nat.le_trans hz1 (Nat.le_trans hz2 hz3))) hkp h1 hLG hM3 hB3 hO3
  have fin : W p l e room_1 s m #[Value.ref b] below meth c H3 locs3 (cells + 6) (slots + 326) Q (F0 m 2188 ls []) := by
    refine lv_goto (tgt := 2383) hx hb dL_law_2188 (by decide) ?_
    exact kk H3 locs3 ls hW3 (lv_sub hl [2, 3, 4, 5, 6] rfl)
  refine lv_iload hx hb dL_law_2164 (lv_at hl 1 rfl) ?_
  refine lv_icmp_eq (tgt := 2171) hx hb dL_law_2166 (by decide) (fun c1 => ?_) (fun c1 => absurd (hr3.trans (h1.1.trans hr1.symm)) c1)
  refine lv_iload hx hb dL_law_2171 (lv_at hl 1 rfl) ?_
  refine lv_if_ne (tgt := 2188) hx hb dL_law_2173 (by decide) (fun _ => fin) (fun c2 => ?_)
  have hz0 : (fX7_ofClaim S (xs (4 * i + 1)) (xs (4 * i + 2))).2.1 = 0 := mp3_z (hr1.symm.trans c2)
  have e1 := hv1 hz0
  have e2 := h1.2.1 hz0
  refine lv_aload_n hx hb dL_law_2176 rfl (lv_at hl 5 rfl) ?_
  refine lv_iconst (v := 0) hx hb dL_law_2177 (by decide) ?_
  refine lc_lald hx hb hC.2 hO3 dL_law_2178 ?_
  refine lv_iload hx hb dL_law_2179 (lv_at hl 0 rfl) ?_
  refine lv_i2l hx hb dL_law_2181 rfl ?_
  refine W.lcmp hx hb dL_law_2182 ?_
  exact lv_if_eq (tgt := 2188) hx hb dL_law_2183 (by decide) (fun _ => fin) (fun c3 => absurd (lc_cmp (by rw [e1, hr2, e2])) c3)
set_option maxHeartbeats 4000000 in
set_option maxRecDepth 100000 in
theorem lc_got {p : Program} {l : Launch} {e : Env} {s : State} {m : MethodId} {below : List Frame} {meth : Method} {c : Code} {H : Heap} {locs : List Loc} {cells slots : Nat} {Q : State → Prop} {ls : Array Slot} {D : va_G} {cy : Nat → ClassId} {o oa e0 mi b L x0 : Nat} {ad : Nat → Nat} {xs : Nat → Int32} (C : LC p l s m c D cy o ad oa e0 mi b L xs) {i : Nat} (hi : 4 * i + 3 < L) (hW : LW s D cy o ad oa e0 x0 H locs) (hl : lv_has ls 7 [(0, .ref b), (1, .ref x0), (2, .ref o), (3, .ref oa), (4, .int (nI (4 * i)))]) (hc : cells + 6 ≤ 601024) (hs : slots + 326 ≤ 7293033)
    (kk : ∀ (H1 : Heap) (locs1 : List Loc) (ls1 : Array Slot), LW s D cy o ad oa e0 x0 H1 locs1 → lv_has ls1 7 [(0, .ref b), (1, .ref x0), (2, .ref o), (3, .ref oa), (4, .int (nI (4 * i)))] → W p l e room_1 s m #[Value.ref b] below meth c H1 locs1 (cells + 6) (slots + 326) Q (F0 m 2383 ls1 [])) : W p l e room_1 s m #[Value.ref b] below meth c H locs cells slots Q (F0 m 2191 ls []) := by
  obtain ⟨hS, hz, g, S, th, v, hI, ⟨hL, hG, hT, -⟩, h18, hM, hR, hO⟩ := hW
  subst h18
  obtain ⟨hC, hX, hfl, hJ, ⟨ho1, ho2⟩, hML⟩ := id C
  have hx := hC.1.1
  have hb := hC.1.2.1
  have hts := hC.1.2.2.2.2
  have hV : CV e0 g S := ⟨hG, hT, hI.m, hI.k⟩
  have h1 := one_got S hI.m (xs (4 * i + 1)) (xs (4 * i + 2))
  have hkp := kp_got hI (xs (4 * i + 1)) (xs (4 * i + 2))
  refine lv_aload_n hx hb dL_law_2191 rfl (lv_at hl 1 rfl) ?_
  refine lv_aload_n hx hb dL_law_2192 rfl (lv_at hl 0 rfl) ?_
  refine lv_iload hx hb dL_law_2193 (lv_at hl 4 rfl) ?_
  refine lv_iconst (v := 1) hx hb dL_law_2195 (by decide) ?_
  refine lv_iadd hx hb dL_law_2196 ?_
  refine lc_sld hx hb hX hS 1 (by decide) (by omega) dL_law_2197 ?_
  refine lv_aload_n hx hb dL_law_2198 rfl (lv_at hl 0 rfl) ?_
  refine lv_iload hx hb dL_law_2199 (lv_at hl 4 rfl) ?_
  refine lv_iconst (v := 2) hx hb dL_law_2201 (by decide) ?_
  refine lv_iadd hx hb dL_law_2202 ?_
  refine lc_sld hx hb hX hS 2 (by decide) (by omega) dL_law_2203 ?_
  refine lv_aload_n hx hb dL_law_2204 rfl (lv_at hl 3 rfl) ?_
  refine vx_calli (vx_runSX (As := [.ref (ga g 18 0), .int (xs (4 * i + 1)), .int (xs (4 * i + 2)), .ref oa]) (rest := []) hC.1 (qL_got l hfl (A7 s.heap.size o oa) D cy g hL S e0 mi (oa + 1) oa (fun q h => a7_new h) (a7_oa ho2) hV hI.z hI.n (xs (4 * i + 1)) (xs (4 * i + 2))) (vx_cwSW 4 hts gL_law_L_got rfl rfl rfl (by decide +kernel) ⟨Nat.le_of_ble_eq_true rfl, Nat.le_of_ble_eq_true rfl⟩) ⟨LP_blind, fun U hU hW => ⟨rfl, lc_LP C hS hz hM hO hU hW⟩⟩ rfl rfl hl.1 rfl (lv_room (Nat.le_of_ble_eq_true rfl)) dL_law_2205 ⟨hc, hs⟩) hS (fun q _ h => h.elim (a7_sz ho1 ho2) (fun h => by rw [h]; omega)) (fun q h => h.elim (a7_sz ho1 ho2) (fun h => by rw [h]; omega)) (fun q _ h => h.elim) (fun E ce q9 u t H1 locs1 ht hvm hp => False.elim hp) (fun r g1 t H1 locs1 ht hvm hp hB hz1 hk1 hS1 => ?_)
  obtain ⟨hr1, hLG⟩ := hp
  obtain ⟨hM1, v1, hO1, hv1⟩ := hB
  rw [ht] at hM1 hO1
  have hR1 := hR.keptA hML (fun q hq ha => hk1 q hq (a8_a7 ha))
  refine lv_istore (lv' := [(5, .int r), (0, .ref b), (1, .ref (ga g 18 0)), (2, .ref o), (3, .ref oa), (4, .int (nI (4 * i)))]) hx hb dL_law_2208 hl (by decide) rfl (fun ls hl => ?_)
  refine lv_aload_n hx hb dL_law_2210 rfl (lv_at hl 3 rfl) ?_
  refine lv_aload_n hx hb dL_law_2211 rfl (lv_at hl 1 rfl) ?_
  refine lv_iload hx hb dL_law_2212 (lv_at hl 5 rfl) ?_
  refine lv_iconst (v := 1) hx hb dL_law_2214 (by decide) ?_
  refine lv_iadd hx hb dL_law_2215 ?_
  refine lc_sld hx hb hX hS1 1 (by decide) (by omega) dL_law_2216 ?_
  refine lv_aload_n hx hb dL_law_2217 rfl (lv_at hl 1 rfl) ?_
  refine lv_iload hx hb dL_law_2218 (lv_at hl 5 rfl) ?_
  refine lv_iconst (v := 2) hx hb dL_law_2220 (by decide) ?_
  refine lv_iadd hx hb dL_law_2221 ?_
  refine lc_sld hx hb hX hS1 2 (by decide) (by omega) dL_law_2222 ?_
  refine va_calli (va_runV (As := [.int (xs (4 * i + 1)), .int (xs (4 * i + 2))]) (rest := []) hC.1 (qX8_got l (A8 o oa) D cy o ad hML S th hI.m (xs (4 * i + 1)) (xs (4 * i + 2))) (cwV 2 hts gL_law_X8_got rfl rfl rfl (by decide +kernel) ⟨Nat.le_of_ble_eq_true rfl, Nat.le_of_ble_eq_true rfl⟩) ⟨MP_blind, va_recv hC.2 (p1 hR1.1) (ci := 9) (q0 := 0) rfl rfl, fun U hU hW => ⟨rfl, by rw [hU]; exact hR1, va_K.moved hW.alike hC.2⟩⟩ rfl rfl hl.1 rfl (lv_room (Nat.le_of_ble_eq_true rfl)) dL_law_2223 ⟨hc, hs⟩) hS1 (fun q _ h => a8_sz ho1 h) (fun q h => a8_sz ho1 h) (fun r2 u2 t2 H2 locs2 ht2 hvm2 hr2 hB2 hz2 hk2 hS2 => ?_)
  rw [ht2] at hB2
  have hM2 := hM1.keptA hLG.1 (fun q hq ha => hk2 q hq (a7_a8 ho2 ha))
  have hO2 : at1 D oa (LA cy v1) H2 := hO1.kept (hk2 oa hO1.lt a8_oa)
  refine lv_istore (lv' := [(6, .int r2), (5, .int r), (0, .ref b), (1, .ref (ga g 18 0)), (2, .ref o), (3, .ref oa), (4, .int (nI (4 * i)))]) hx hb dL_law_2226 hl (by decide) rfl (fun ls hl => ?_)
  refine lv_aload_n hx hb dL_law_2228 rfl (lv_at hl 4 rfl) ?_
  refine va_calli (va_runV (As := []) (rest := []) hC.1 (qX8_thrown l D cy o ad (fX8_got S (xs (4 * i + 1)) (xs (4 * i + 2))).2.2 (fX8_got S (xs (4 * i + 1)) (xs (4 * i + 2))).2.1) (cwV 0 hts gL_law_X8_thrown rfl rfl rfl (by decide +kernel) ⟨Nat.le_of_ble_eq_true rfl, Nat.le_of_ble_eq_true rfl⟩) ⟨MP_blind, va_recv hC.2 (p1 hB2.1) (ci := 9) (q0 := 0) rfl rfl, fun U hU hW => ⟨rfl, by rw [hU]; exact hB2, va_K.moved hW.alike hC.2⟩⟩ rfl rfl hl.1 rfl (lv_room (Nat.le_of_ble_eq_true rfl)) dL_law_2229 ⟨hc, hs⟩) hS2 (fun q _ h => h.elim) (fun q h => h.elim) (fun r3 u3 t3 H3 locs3 ht3 hvm3 hr3 _ hz3 hk3 hS3 => ?_)
  have hM3 := hM2.keep (fun q hq => hk3 q hq (fun h => h))
  have hB3 := hB2.keep (fun q hq => hk3 q hq (fun h => h))
  have hO3 : at1 D oa (LA cy v1) H3 := hO2.kept (hk3 oa hO2.lt (fun h => h))
  have hW3 : LW s D cy o ad oa e0 (ga g 18 0) H3 locs3 := lc_fin (x8 := (fX8_got S (xs (4 * i + 1)) (xs (4 * i + 2)))) (x7 := (fX7_got S (xs (4 * i + 1)) (xs (4 * i + 2)))) hS3 (Nat.lt_of_lt_of_le hz (Nat.le_trans hz1 (Nat.le_trans hz2 hz3))) hkp h1 hLG hM3 hB3 hO3
  have fin : W p l e room_1 s m #[Value.ref b] below meth c H3 locs3 (cells + 6) (slots + 326) Q (F0 m 2256 ls []) := by
    refine lv_goto (tgt := 2383) hx hb dL_law_2256 (by decide) ?_
    exact kk H3 locs3 ls hW3 (lv_sub hl [2, 3, 4, 5, 6] rfl)
  refine lv_iload hx hb dL_law_2232 (lv_at hl 1 rfl) ?_
  refine lv_icmp_eq (tgt := 2239) hx hb dL_law_2234 (by decide) (fun c1 => ?_) (fun c1 => absurd (hr3.trans (h1.1.trans hr1.symm)) c1)
  refine lv_iload hx hb dL_law_2239 (lv_at hl 1 rfl) ?_
  refine lv_if_ne (tgt := 2256) hx hb dL_law_2241 (by decide) (fun _ => fin) (fun c2 => ?_)
  have hz0 : (fX7_got S (xs (4 * i + 1)) (xs (4 * i + 2))).2.1 = 0 := mp3_z (hr1.symm.trans c2)
  have e1 := hv1 hz0
  have e2 := h1.2.1 hz0
  refine lv_aload_n hx hb dL_law_2244 rfl (lv_at hl 5 rfl) ?_
  refine lv_iconst (v := 0) hx hb dL_law_2245 (by decide) ?_
  refine lc_lald hx hb hC.2 hO3 dL_law_2246 ?_
  refine lv_iload hx hb dL_law_2247 (lv_at hl 0 rfl) ?_
  refine lv_i2l hx hb dL_law_2249 rfl ?_
  refine W.lcmp hx hb dL_law_2250 ?_
  exact lv_if_eq (tgt := 2256) hx hb dL_law_2251 (by decide) (fun _ => fin) (fun c3 => absurd (lc_cmp (by rw [e1, hr2, e2])) c3)
set_option maxHeartbeats 4000000 in
set_option maxRecDepth 100000 in
theorem lc_ofFirm {p : Program} {l : Launch} {e : Env} {s : State} {m : MethodId} {below : List Frame} {meth : Method} {c : Code} {H : Heap} {locs : List Loc} {cells slots : Nat} {Q : State → Prop} {ls : Array Slot} {D : va_G} {cy : Nat → ClassId} {o oa e0 mi b L x0 : Nat} {ad : Nat → Nat} {xs : Nat → Int32} (C : LC p l s m c D cy o ad oa e0 mi b L xs) {i : Nat} (hi : 4 * i + 3 < L) (hW : LW s D cy o ad oa e0 x0 H locs) (hl : lv_has ls 7 [(0, .ref b), (1, .ref x0), (2, .ref o), (3, .ref oa), (4, .int (nI (4 * i)))]) (hc : cells + 6 ≤ 601024) (hs : slots + 326 ≤ 7293033)
    (kk : ∀ (H1 : Heap) (locs1 : List Loc) (ls1 : Array Slot), LW s D cy o ad oa e0 x0 H1 locs1 → lv_has ls1 7 [(0, .ref b), (1, .ref x0), (2, .ref o), (3, .ref oa), (4, .int (nI (4 * i)))] → W p l e room_1 s m #[Value.ref b] below meth c H1 locs1 (cells + 6) (slots + 326) Q (F0 m 2383 ls1 [])) : W p l e room_1 s m #[Value.ref b] below meth c H locs cells slots Q (F0 m 2259 ls []) := by
  obtain ⟨hS, hz, g, S, th, v, hI, ⟨hL, hG, hT, -⟩, h18, hM, hR, hO⟩ := hW
  subst h18
  obtain ⟨hC, hX, hfl, hJ, ⟨ho1, ho2⟩, hML⟩ := id C
  have hx := hC.1.1
  have hb := hC.1.2.1
  have hts := hC.1.2.2.2.2
  have hV : CV e0 g S := ⟨hG, hT, hI.m, hI.k⟩
  have h1 := one_ofFirm S hI.m (xs (4 * i + 1)) (xs (4 * i + 2))
  have hkp := kp_ofFirm hI (xs (4 * i + 1)) (xs (4 * i + 2))
  refine lv_aload_n hx hb dL_law_2259 rfl (lv_at hl 1 rfl) ?_
  refine lv_aload_n hx hb dL_law_2260 rfl (lv_at hl 0 rfl) ?_
  refine lv_iload hx hb dL_law_2261 (lv_at hl 4 rfl) ?_
  refine lv_iconst (v := 1) hx hb dL_law_2263 (by decide) ?_
  refine lv_iadd hx hb dL_law_2264 ?_
  refine lc_sld hx hb hX hS 1 (by decide) (by omega) dL_law_2265 ?_
  refine lv_aload_n hx hb dL_law_2266 rfl (lv_at hl 0 rfl) ?_
  refine lv_iload hx hb dL_law_2267 (lv_at hl 4 rfl) ?_
  refine lv_iconst (v := 2) hx hb dL_law_2269 (by decide) ?_
  refine lv_iadd hx hb dL_law_2270 ?_
  refine lc_sld hx hb hX hS 2 (by decide) (by omega) dL_law_2271 ?_
  refine lv_aload_n hx hb dL_law_2272 rfl (lv_at hl 3 rfl) ?_
  refine vx_calli (vx_runSX (As := [.ref (ga g 18 0), .int (xs (4 * i + 1)), .int (xs (4 * i + 2)), .ref oa]) (rest := []) hC.1 (qL_ofFirm l hfl (A7 s.heap.size o oa) D cy g hL S e0 mi (oa + 1) oa (fun q h => a7_new h) (a7_oa ho2) hV hI.z hI.n (xs (4 * i + 1)) (xs (4 * i + 2))) (vx_cwSW 4 hts gL_law_L_ofFirm rfl rfl rfl (by decide +kernel) ⟨Nat.le_of_ble_eq_true rfl, Nat.le_of_ble_eq_true rfl⟩) ⟨LP_blind, fun U hU hW => ⟨rfl, lc_LP C hS hz hM hO hU hW⟩⟩ rfl rfl hl.1 rfl (lv_room (Nat.le_of_ble_eq_true rfl)) dL_law_2273 ⟨hc, hs⟩) hS (fun q _ h => h.elim (a7_sz ho1 ho2) (fun h => by rw [h]; omega)) (fun q h => h.elim (a7_sz ho1 ho2) (fun h => by rw [h]; omega)) (fun q _ h => h.elim) (fun E ce q9 u t H1 locs1 ht hvm hp => False.elim hp) (fun r g1 t H1 locs1 ht hvm hp hB hz1 hk1 hS1 => ?_)
  obtain ⟨hr1, hLG⟩ := hp
  obtain ⟨hM1, v1, hO1, hv1⟩ := hB
  rw [ht] at hM1 hO1
  have hR1 := hR.keptA hML (fun q hq ha => hk1 q hq (a8_a7 ha))
  refine lv_istore (lv' := [(5, .int r), (0, .ref b), (1, .ref (ga g 18 0)), (2, .ref o), (3, .ref oa), (4, .int (nI (4 * i)))]) hx hb dL_law_2276 hl (by decide) rfl (fun ls hl => ?_)
  refine lv_aload_n hx hb dL_law_2278 rfl (lv_at hl 3 rfl) ?_
  refine lv_aload_n hx hb dL_law_2279 rfl (lv_at hl 1 rfl) ?_
  refine lv_iload hx hb dL_law_2280 (lv_at hl 5 rfl) ?_
  refine lv_iconst (v := 1) hx hb dL_law_2282 (by decide) ?_
  refine lv_iadd hx hb dL_law_2283 ?_
  refine lc_sld hx hb hX hS1 1 (by decide) (by omega) dL_law_2284 ?_
  refine lv_aload_n hx hb dL_law_2285 rfl (lv_at hl 1 rfl) ?_
  refine lv_iload hx hb dL_law_2286 (lv_at hl 5 rfl) ?_
  refine lv_iconst (v := 2) hx hb dL_law_2288 (by decide) ?_
  refine lv_iadd hx hb dL_law_2289 ?_
  refine lc_sld hx hb hX hS1 2 (by decide) (by omega) dL_law_2290 ?_
  refine va_calli (va_runV (As := [.int (xs (4 * i + 1)), .int (xs (4 * i + 2))]) (rest := []) hC.1 (qX8_ofFirm l (A8 o oa) D cy o ad hML S th hI.m (xs (4 * i + 1)) (xs (4 * i + 2))) (cwV 2 hts gL_law_X8_ofFirm rfl rfl rfl (by decide +kernel) ⟨Nat.le_of_ble_eq_true rfl, Nat.le_of_ble_eq_true rfl⟩) ⟨MP_blind, va_recv hC.2 (p1 hR1.1) (ci := 9) (q0 := 0) rfl rfl, fun U hU hW => ⟨rfl, by rw [hU]; exact hR1, va_K.moved hW.alike hC.2⟩⟩ rfl rfl hl.1 rfl (lv_room (Nat.le_of_ble_eq_true rfl)) dL_law_2291 ⟨hc, hs⟩) hS1 (fun q _ h => a8_sz ho1 h) (fun q h => a8_sz ho1 h) (fun r2 u2 t2 H2 locs2 ht2 hvm2 hr2 hB2 hz2 hk2 hS2 => ?_)
  rw [ht2] at hB2
  have hM2 := hM1.keptA hLG.1 (fun q hq ha => hk2 q hq (a7_a8 ho2 ha))
  have hO2 : at1 D oa (LA cy v1) H2 := hO1.kept (hk2 oa hO1.lt a8_oa)
  refine lv_istore (lv' := [(6, .int r2), (5, .int r), (0, .ref b), (1, .ref (ga g 18 0)), (2, .ref o), (3, .ref oa), (4, .int (nI (4 * i)))]) hx hb dL_law_2294 hl (by decide) rfl (fun ls hl => ?_)
  refine lv_aload_n hx hb dL_law_2296 rfl (lv_at hl 4 rfl) ?_
  refine va_calli (va_runV (As := []) (rest := []) hC.1 (qX8_thrown l D cy o ad (fX8_ofFirm S (xs (4 * i + 1)) (xs (4 * i + 2))).2.2 (fX8_ofFirm S (xs (4 * i + 1)) (xs (4 * i + 2))).2.1) (cwV 0 hts gL_law_X8_thrown rfl rfl rfl (by decide +kernel) ⟨Nat.le_of_ble_eq_true rfl, Nat.le_of_ble_eq_true rfl⟩) ⟨MP_blind, va_recv hC.2 (p1 hB2.1) (ci := 9) (q0 := 0) rfl rfl, fun U hU hW => ⟨rfl, by rw [hU]; exact hB2, va_K.moved hW.alike hC.2⟩⟩ rfl rfl hl.1 rfl (lv_room (Nat.le_of_ble_eq_true rfl)) dL_law_2297 ⟨hc, hs⟩) hS2 (fun q _ h => h.elim) (fun q h => h.elim) (fun r3 u3 t3 H3 locs3 ht3 hvm3 hr3 _ hz3 hk3 hS3 => ?_)
  have hM3 := hM2.keep (fun q hq => hk3 q hq (fun h => h))
  have hB3 := hB2.keep (fun q hq => hk3 q hq (fun h => h))
  have hO3 : at1 D oa (LA cy v1) H3 := hO2.kept (hk3 oa hO2.lt (fun h => h))
  have hW3 : LW s D cy o ad oa e0 (ga g 18 0) H3 locs3 := lc_fin (x8 := (fX8_ofFirm S (xs (4 * i + 1)) (xs (4 * i + 2)))) (x7 := (fX7_ofFirm S (xs (4 * i + 1)) (xs (4 * i + 2)))) hS3 (Nat.lt_of_lt_of_le hz (Nat.le_trans hz1 (Nat.le_trans hz2 hz3))) hkp h1 hLG hM3 hB3 hO3
  have fin : W p l e room_1 s m #[Value.ref b] below meth c H3 locs3 (cells + 6) (slots + 326) Q (F0 m 2324 ls []) := by
    refine lv_goto (tgt := 2383) hx hb dL_law_2324 (by decide) ?_
    exact kk H3 locs3 ls hW3 (lv_sub hl [2, 3, 4, 5, 6] rfl)
  refine lv_iload hx hb dL_law_2300 (lv_at hl 1 rfl) ?_
  refine lv_icmp_eq (tgt := 2307) hx hb dL_law_2302 (by decide) (fun c1 => ?_) (fun c1 => absurd (hr3.trans (h1.1.trans hr1.symm)) c1)
  refine lv_iload hx hb dL_law_2307 (lv_at hl 1 rfl) ?_
  refine lv_if_ne (tgt := 2324) hx hb dL_law_2309 (by decide) (fun _ => fin) (fun c2 => ?_)
  have hz0 : (fX7_ofFirm S (xs (4 * i + 1)) (xs (4 * i + 2))).2.1 = 0 := mp3_z (hr1.symm.trans c2)
  have e1 := hv1 hz0
  have e2 := h1.2.1 hz0
  refine lv_aload_n hx hb dL_law_2312 rfl (lv_at hl 5 rfl) ?_
  refine lv_iconst (v := 0) hx hb dL_law_2313 (by decide) ?_
  refine lc_lald hx hb hC.2 hO3 dL_law_2314 ?_
  refine lv_iload hx hb dL_law_2315 (lv_at hl 0 rfl) ?_
  refine lv_i2l hx hb dL_law_2317 rfl ?_
  refine W.lcmp hx hb dL_law_2318 ?_
  exact lv_if_eq (tgt := 2324) hx hb dL_law_2319 (by decide) (fun _ => fin) (fun c3 => absurd (lc_cmp (by rw [e1, hr2, e2])) c3)
set_option maxHeartbeats 4000000 in
set_option maxRecDepth 100000 in
theorem lc_all {p : Program} {l : Launch} {e : Env} {s : State} {m : MethodId} {below : List Frame} {meth : Method} {c : Code} {H : Heap} {locs : List Loc} {cells slots : Nat} {Q : State → Prop} {ls : Array Slot} {D : va_G} {cy : Nat → ClassId} {o oa e0 mi b L x0 : Nat} {ad : Nat → Nat} {xs : Nat → Int32} (C : LC p l s m c D cy o ad oa e0 mi b L xs) {i : Nat} (hi : 4 * i + 3 < L) (hW : LW s D cy o ad oa e0 x0 H locs) (hl : lv_has ls 7 [(0, .ref b), (1, .ref x0), (2, .ref o), (3, .ref oa), (4, .int (nI (4 * i)))]) (hc : cells + 6 ≤ 601024) (hs : slots + 326 ≤ 7293033)
    (kk : ∀ (H1 : Heap) (locs1 : List Loc) (ls1 : Array Slot), LW s D cy o ad oa e0 x0 H1 locs1 → lv_has ls1 7 [(0, .ref b), (1, .ref x0), (2, .ref o), (3, .ref oa), (4, .int (nI (4 * i)))] → W p l e room_1 s m #[Value.ref b] below meth c H1 locs1 (cells + 6) (slots + 326) Q (F0 m 2383 ls1 [])) : W p l e room_1 s m #[Value.ref b] below meth c H locs cells slots Q (F0 m 2327 ls []) := by
  obtain ⟨hS, hz, g, S, th, v, hI, ⟨hL, hG, hT, -⟩, h18, hM, hR, hO⟩ := hW
  subst h18
  obtain ⟨hC, hX, hfl, hJ, ⟨ho1, ho2⟩, hML⟩ := id C
  have hx := hC.1.1
  have hb := hC.1.2.1
  have hts := hC.1.2.2.2.2
  have hV : CV e0 g S := ⟨hG, hT, hI.m, hI.k⟩
  have h1 := one_all S hI.m (xs (4 * i + 1))
  have hkp := kp_all hI (xs (4 * i + 1))
  refine lv_aload_n hx hb dL_law_2327 rfl (lv_at hl 1 rfl) ?_
  refine lv_aload_n hx hb dL_law_2328 rfl (lv_at hl 0 rfl) ?_
  refine lv_iload hx hb dL_law_2329 (lv_at hl 4 rfl) ?_
  refine lv_iconst (v := 1) hx hb dL_law_2331 (by decide) ?_
  refine lv_iadd hx hb dL_law_2332 ?_
  refine lc_sld hx hb hX hS 1 (by decide) (by omega) dL_law_2333 ?_
  refine lv_aload_n hx hb dL_law_2334 rfl (lv_at hl 3 rfl) ?_
  refine vx_calli (vx_runSX (As := [.ref (ga g 18 0), .int (xs (4 * i + 1)), .ref oa]) (rest := []) hC.1 (qL_all l hfl (A7 s.heap.size o oa) D cy g hL S e0 mi (oa + 1) oa (fun q h => a7_new h) (a7_oa ho2) hV hI.z hI.n (xs (4 * i + 1))) (vx_cwSW 3 hts gL_law_L_all rfl rfl rfl (by decide +kernel) ⟨Nat.le_of_ble_eq_true rfl, Nat.le_of_ble_eq_true rfl⟩) ⟨LP_blind, fun U hU hW => ⟨rfl, lc_LP C hS hz hM hO hU hW⟩⟩ rfl rfl hl.1 rfl (lv_room (Nat.le_of_ble_eq_true rfl)) dL_law_2335 ⟨hc, hs⟩) hS (fun q _ h => h.elim (a7_sz ho1 ho2) (fun h => by rw [h]; omega)) (fun q h => h.elim (a7_sz ho1 ho2) (fun h => by rw [h]; omega)) (fun q _ h => h.elim) (fun E ce q9 u t H1 locs1 ht hvm hp => False.elim hp) (fun r g1 t H1 locs1 ht hvm hp hB hz1 hk1 hS1 => ?_)
  obtain ⟨hr1, hLG⟩ := hp
  obtain ⟨hM1, v1, hO1, hv1⟩ := hB
  rw [ht] at hM1 hO1
  have hR1 := hR.keptA hML (fun q hq ha => hk1 q hq (a8_a7 ha))
  refine lv_istore (lv' := [(5, .int r), (0, .ref b), (1, .ref (ga g 18 0)), (2, .ref o), (3, .ref oa), (4, .int (nI (4 * i)))]) hx hb dL_law_2338 hl (by decide) rfl (fun ls hl => ?_)
  refine lv_aload_n hx hb dL_law_2340 rfl (lv_at hl 3 rfl) ?_
  refine lv_aload_n hx hb dL_law_2341 rfl (lv_at hl 1 rfl) ?_
  refine lv_iload hx hb dL_law_2342 (lv_at hl 5 rfl) ?_
  refine lv_iconst (v := 1) hx hb dL_law_2344 (by decide) ?_
  refine lv_iadd hx hb dL_law_2345 ?_
  refine lc_sld hx hb hX hS1 1 (by decide) (by omega) dL_law_2346 ?_
  refine va_calli (va_runV (As := [.int (xs (4 * i + 1))]) (rest := []) hC.1 (qX8_all l (A8 o oa) D cy o ad hML S th hI.m (xs (4 * i + 1))) (cwV 1 hts gL_law_X8_all rfl rfl rfl (by decide +kernel) ⟨Nat.le_of_ble_eq_true rfl, Nat.le_of_ble_eq_true rfl⟩) ⟨MP_blind, va_recv hC.2 (p1 hR1.1) (ci := 9) (q0 := 0) rfl rfl, fun U hU hW => ⟨rfl, by rw [hU]; exact hR1, va_K.moved hW.alike hC.2⟩⟩ rfl rfl hl.1 rfl (lv_room (Nat.le_of_ble_eq_true rfl)) dL_law_2347 ⟨hc, hs⟩) hS1 (fun q _ h => a8_sz ho1 h) (fun q h => a8_sz ho1 h) (fun r2 u2 t2 H2 locs2 ht2 hvm2 hr2 hB2 hz2 hk2 hS2 => ?_)
  rw [ht2] at hB2
  have hM2 := hM1.keptA hLG.1 (fun q hq ha => hk2 q hq (a7_a8 ho2 ha))
  have hO2 : at1 D oa (LA cy v1) H2 := hO1.kept (hk2 oa hO1.lt a8_oa)
  refine lv_istore (lv' := [(6, .int r2), (5, .int r), (0, .ref b), (1, .ref (ga g 18 0)), (2, .ref o), (3, .ref oa), (4, .int (nI (4 * i)))]) hx hb dL_law_2350 hl (by decide) rfl (fun ls hl => ?_)
  refine lv_aload_n hx hb dL_law_2352 rfl (lv_at hl 4 rfl) ?_
  refine va_calli (va_runV (As := []) (rest := []) hC.1 (qX8_thrown l D cy o ad (fX8_all S (xs (4 * i + 1))).2.2 (fX8_all S (xs (4 * i + 1))).2.1) (cwV 0 hts gL_law_X8_thrown rfl rfl rfl (by decide +kernel) ⟨Nat.le_of_ble_eq_true rfl, Nat.le_of_ble_eq_true rfl⟩) ⟨MP_blind, va_recv hC.2 (p1 hB2.1) (ci := 9) (q0 := 0) rfl rfl, fun U hU hW => ⟨rfl, by rw [hU]; exact hB2, va_K.moved hW.alike hC.2⟩⟩ rfl rfl hl.1 rfl (lv_room (Nat.le_of_ble_eq_true rfl)) dL_law_2353 ⟨hc, hs⟩) hS2 (fun q _ h => h.elim) (fun q h => h.elim) (fun r3 u3 t3 H3 locs3 ht3 hvm3 hr3 _ hz3 hk3 hS3 => ?_)
  have hM3 := hM2.keep (fun q hq => hk3 q hq (fun h => h))
  have hB3 := hB2.keep (fun q hq => hk3 q hq (fun h => h))
  have hO3 : at1 D oa (LA cy v1) H3 := hO2.kept (hk3 oa hO2.lt (fun h => h))
  have hW3 : LW s D cy o ad oa e0 (ga g 18 0) H3 locs3 := lc_fin (x8 := (fX8_all S (xs (4 * i + 1)))) (x7 := (fX7_all S (xs (4 * i + 1)))) hS3 (Nat.lt_of_lt_of_le hz (Nat.le_trans hz1 (Nat.le_trans hz2 hz3))) hkp h1 hLG hM3 hB3 hO3
  have fin : W p l e room_1 s m #[Value.ref b] below meth c H3 locs3 (cells + 6) (slots + 326) Q (F0 m 2380 ls []) := by
    refine lv_goto (tgt := 2383) hx hb dL_law_2380 (by decide) ?_
    exact kk H3 locs3 ls hW3 (lv_sub hl [2, 3, 4, 5, 6] rfl)
  refine lv_iload hx hb dL_law_2356 (lv_at hl 1 rfl) ?_
  refine lv_icmp_eq (tgt := 2363) hx hb dL_law_2358 (by decide) (fun c1 => ?_) (fun c1 => absurd (hr3.trans (h1.1.trans hr1.symm)) c1)
  refine lv_iload hx hb dL_law_2363 (lv_at hl 1 rfl) ?_
  refine lv_if_ne (tgt := 2380) hx hb dL_law_2365 (by decide) (fun _ => fin) (fun c2 => ?_)
  have hz0 : (fX7_all S (xs (4 * i + 1))).2.1 = 0 := mp3_z (hr1.symm.trans c2)
  have e1 := hv1 hz0
  have e2 := h1.2.1 hz0
  refine lv_aload_n hx hb dL_law_2368 rfl (lv_at hl 5 rfl) ?_
  refine lv_iconst (v := 0) hx hb dL_law_2369 (by decide) ?_
  refine lc_lald hx hb hC.2 hO3 dL_law_2370 ?_
  refine lv_iload hx hb dL_law_2371 (lv_at hl 0 rfl) ?_
  refine lv_i2l hx hb dL_law_2373 rfl ?_
  refine W.lcmp hx hb dL_law_2374 ?_
  exact lv_if_eq (tgt := 2380) hx hb dL_law_2375 (by decide) (fun _ => fin) (fun c3 => absurd (lc_cmp (by rw [e1, hr2, e2])) c3)
