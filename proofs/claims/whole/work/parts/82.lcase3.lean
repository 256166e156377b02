/-! the law's cases, walked -/
set_option maxHeartbeats 4000000 in
set_option maxRecDepth 100000 in
theorem lc_tell {p : Program} {l : Launch} {e : Env} {s : State} {m : MethodId} {below : List Frame} {meth : Method} {c : Code} {H : Heap} {locs : List Loc} {cells slots : Nat} {Q : State → Prop} {ls : Array Slot} {D : va_G} {cy : Nat → ClassId} {o oa e0 mi b L x0 : Nat} {ad : Nat → Nat} {xs : Nat → Int32} (C : LC p l s m c D cy o ad oa e0 mi b L xs) {i : Nat} (hi : 4 * i + 3 < L) (hW : LW s D cy o ad oa e0 x0 H locs) (hl : lv_has ls 7 [(0, .ref b), (1, .ref x0), (2, .ref o), (3, .ref oa), (4, .int (nI (4 * i)))]) (hc : cells + 6 ≤ 601024) (hs : slots + 326 ≤ 7293033)
    (kk : ∀ (H1 : Heap) (locs1 : List Loc) (ls1 : Array Slot), LW s D cy o ad oa e0 x0 H1 locs1 → lv_has ls1 7 [(0, .ref b), (1, .ref x0), (2, .ref o), (3, .ref oa), (4, .int (nI (4 * i)))] → W p l e room_1 s m #[Value.ref b] below meth c H1 locs1 (cells + 6) (slots + 326) Q (F0 m 2383 ls1 [])) : W p l e room_1 s m #[Value.ref b] below meth c H locs cells slots Q (F0 m 1409 ls []) := by
  obtain ⟨hS, hz, g, S, th, v, hI, ⟨hL, hG, hT, -⟩, h18, hM, hR, hO⟩ := hW
  subst h18
  obtain ⟨hC, hX, hfl, hJ, ⟨ho1, ho2⟩, hML⟩ := id C
  have hx := hC.1.1
  have hb := hC.1.2.1
  have hts := hC.1.2.2.2.2
  have hV : CV e0 g S := ⟨hG, hT, hI.m, hI.k⟩
  have h1 := one_tell S hI.m hI.o.o hI.t hI.td (xs (4 * i + 1)) (xs (4 * i + 2))
  have hkp := kp_tell hI (xs (4 * i + 1)) (xs (4 * i + 2))
  refine lv_aload_n hx hb dL_law_1409 rfl (lv_at hl 1 rfl) ?_
  refine lv_aload_n hx hb dL_law_1410 rfl (lv_at hl 0 rfl) ?_
  refine lv_iload hx hb dL_law_1411 (lv_at hl 4 rfl) ?_
  refine lv_iconst (v := 1) hx hb dL_law_1413 (by decide) ?_
  refine lv_iadd hx hb dL_law_1414 ?_
  refine lc_sld hx hb hX hS 1 (by decide) (by omega) dL_law_1415 ?_
  refine lv_aload_n hx hb dL_law_1416 rfl (lv_at hl 0 rfl) ?_
  refine lv_iload hx hb dL_law_1417 (lv_at hl 4 rfl) ?_
  refine lv_iconst (v := 2) hx hb dL_law_1419 (by decide) ?_
  refine lv_iadd hx hb dL_law_1420 ?_
  refine lc_sld hx hb hX hS 2 (by decide) (by omega) dL_law_1421 ?_
  refine lv_aload_n hx hb dL_law_1422 rfl (lv_at hl 3 rfl) ?_
  refine vx_calli (vx_runSX (As := [.ref (ga g 18 0), .int (xs (4 * i + 1)), .int (xs (4 * i + 2)), .ref oa]) (rest := []) hC.1 (qL_tell l hfl (A7 s.heap.size o oa) D cy g hL S e0 mi (oa + 1) oa (fun q h => a7_new h) (a7_oa ho2) hV hI.z hI.n (xs (4 * i + 1)) (xs (4 * i + 2))) (vx_cwSW 4 hts gL_law_L_tell rfl rfl rfl (by decide +kernel) ⟨Nat.le_of_ble_eq_true rfl, Nat.le_of_ble_eq_true rfl⟩) ⟨LP_blind, fun U hU hW => ⟨rfl, lc_LP C hS hz hM hO hU hW⟩⟩ rfl rfl hl.1 rfl (lv_room (Nat.le_of_ble_eq_true rfl)) dL_law_1423 ⟨hc, hs⟩) hS (fun q _ h => h.elim (a7_sz ho1 ho2) (fun h => by rw [h]; omega)) (fun q h => h.elim (a7_sz ho1 ho2) (fun h => by rw [h]; omega)) (fun q _ h => h.elim) (fun E ce q9 u t H1 locs1 ht hvm hp => False.elim hp) (fun r g1 t H1 locs1 ht hvm hp hB hz1 hk1 hS1 => ?_)
  obtain ⟨hr1, hLG⟩ := hp
  obtain ⟨hM1, v1, hO1, hv1⟩ := hB
  rw [ht] at hM1 hO1
  have hR1 := hR.keptA hML (fun q hq ha => hk1 q hq (a8_a7 ha))
  refine lv_istore (lv' := [(5, .int r), (0, .ref b), (1, .ref (ga g 18 0)), (2, .ref o), (3, .ref oa), (4, .int (nI (4 * i)))]) hx hb dL_law_1426 hl (by decide) rfl (fun ls hl => ?_)
  refine lv_aload_n hx hb dL_law_1428 rfl (lv_at hl 3 rfl) ?_
  refine lv_aload_n hx hb dL_law_1429 rfl (lv_at hl 1 rfl) ?_
  refine lv_iload hx hb dL_law_1430 (lv_at hl 5 rfl) ?_
  refine lv_iconst (v := 1) hx hb dL_law_1432 (by decide) ?_
  refine lv_iadd hx hb dL_law_1433 ?_
  refine lc_sld hx hb hX hS1 1 (by decide) (by omega) dL_law_1434 ?_
  refine lv_aload_n hx hb dL_law_1435 rfl (lv_at hl 1 rfl) ?_
  refine lv_iload hx hb dL_law_1436 (lv_at hl 5 rfl) ?_
  refine lv_iconst (v := 2) hx hb dL_law_1438 (by decide) ?_
  refine lv_iadd hx hb dL_law_1439 ?_
  refine lc_sld hx hb hX hS1 2 (by decide) (by omega) dL_law_1440 ?_
  refine va_calli (va_runV (As := [.int (xs (4 * i + 1)), .int (xs (4 * i + 2))]) (rest := []) hC.1 (qX8_tell l (A8 o oa) D cy o ad hML S th hI.m (xs (4 * i + 1)) (xs (4 * i + 2))) (cwV 2 hts gL_law_X8_tell rfl rfl rfl (by decide +kernel) ⟨Nat.le_of_ble_eq_true rfl, Nat.le_of_ble_eq_true rfl⟩) ⟨MP_blind, va_recv hC.2 (p1 hR1.1) (ci := 9) (q0 := 0) rfl rfl, fun U hU hW => ⟨rfl, by rw [hU]; exact hR1, va_K.moved hW.alike hC.2⟩⟩ rfl rfl hl.1 rfl (lv_room (Nat.le_of_ble_eq_true rfl)) dL_law_1441 ⟨hc, hs⟩) hS1 (fun q _ h => a8_sz ho1 h) (fun q h => a8_sz ho1 h) (fun r2 u2 t2 H2 locs2 ht2 hvm2 hr2 hB2 hz2 hk2 hS2 => ?_)
  rw [ht2] at hB2
  have hM2 := hM1.keptA hLG.1 (fun q hq ha => hk2 q hq (a7_a8 ho2 ha))
  have hO2 : at1 D oa (LA cy v1) H2 := hO1.kept (hk2 oa hO1.lt a8_oa)
  refine lv_istore (lv' := [(6, .int r2), (5, .int r), (0, .ref b), (1, .ref (ga g 18 0)), (2, .ref o), (3, .ref oa), (4, .int (nI (4 * i)))]) hx hb dL_law_1444 hl (by decide) rfl (fun ls hl => ?_)
  refine lv_aload_n hx hb dL_law_1446 rfl (lv_at hl 4 rfl) ?_
  refine va_calli (va_runV (As := []) (rest := []) hC.1 (qX8_thrown l D cy o ad (fX8_tell S (xs (4 * i + 1)) (xs (4 * i + 2))).2.2 (fX8_tell S (xs (4 * i + 1)) (xs (4 * i + 2))).2.1) (cwV 0 hts gL_law_X8_thrown rfl rfl rfl (by decide +kernel) ⟨Nat.le_of_ble_eq_true rfl, Nat.le_of_ble_eq_true rfl⟩) ⟨MP_blind, va_recv hC.2 (p1 hB2.1) (ci := 9) (q0 := 0) rfl rfl, fun U hU hW => ⟨rfl, by rw [hU]; exact hB2, va_K.moved hW.alike hC.2⟩⟩ rfl rfl hl.1 rfl (lv_room (Nat.le_of_ble_eq_true rfl)) dL_law_1447 ⟨hc, hs⟩) hS2 (fun q _ h => h.elim) (fun q h => h.elim) (fun r3 u3 t3 H3 locs3 ht3 hvm3 hr3 _ hz3 hk3 hS3 => ?_)
  have hM3 := hM2.keep (fun q hq => hk3 q hq (fun h => h))
  have hB3 := hB2.keep (fun q hq => hk3 q hq (fun h => h))
  have hO3 : at1 D oa (LA cy v1) H3 := hO2.kept (hk3 oa hO2.lt (fun h => h))
  have hW3 : LW s D cy o ad oa e0 (ga g 18 0) H3 locs3 := lc_fin (x8 := (fX8_tell S (xs (4 * i + 1)) (xs (4 * i + 2)))) (x7 := (fX7_tell S (xs (4 * i + 1)) (xs (4 * i + 2)))) hS3 (Nat.lt_of_lt_of_le hz (Nat.le_trans hz1 (Nat.le_trans hz2 hz3))) hkp h1 hLG hM3 hB3 hO3
  have fin : W p l e room_1 s m #[Value.ref b] below meth c H3 locs3 (cells + 6) (slots + 326) Q (F0 m 1474 ls []) := by
    refine lv_goto (tgt := 2383) hx hb dL_law_1474 (by decide) ?_
    exact kk H3 locs3 ls hW3 (lv_sub hl [2, 3, 4, 5, 6] rfl)
  refine lv_iload hx hb dL_law_1450 (lv_at hl 1 rfl) ?_
  refine lv_icmp_eq (tgt := 1457) hx hb dL_law_1452 (by decide) (fun c1 => ?_) (fun c1 => absurd (hr3.trans (h1.1.trans hr1.symm)) c1)
  refine lv_iload hx hb dL_law_1457 (lv_at hl 1 rfl) ?_
  refine lv_if_ne (tgt := 1474) hx hb dL_law_1459 (by decide) (fun _ => fin) (fun c2 => ?_)
  have hz0 : (fX7_tell S (xs (4 * i + 1)) (xs (4 * i + 2))).2.1 = 0 := mp3_z (hr1.symm.trans c2)
  have e1 := hv1 hz0
  have e2 := h1.2.1 hz0
  refine lv_aload_n hx hb dL_law_1462 rfl (lv_at hl 5 rfl) ?_
  refine lv_iconst (v := 0) hx hb dL_law_1463 (by decide) ?_
  refine lc_lald hx hb hC.2 hO3 dL_law_1464 ?_
  refine lv_iload hx hb dL_law_1465 (lv_at hl 0 rfl) ?_
  refine lv_i2l hx hb dL_law_1467 rfl ?_
  refine W.lcmp hx hb dL_law_1468 ?_
  exact lv_if_eq (tgt := 1474) hx hb dL_law_1469 (by decide) (fun _ => fin) (fun c3 => absurd (lc_cmp (by rw [e1, hr2, e2])) c3)
set_option maxHeartbeats 4000000 in
set_option maxRecDepth 100000 in
theorem lc_fire {p : Program} {l : Launch} {e : Env} {s : State} {m : MethodId} {below : List Frame} {meth : Method} {c : Code} {H : Heap} {locs : List Loc} {cells slots : Nat} {Q : State → Prop} {ls : Array Slot} {D : va_G} {cy : Nat → ClassId} {o oa e0 mi b L x0 : Nat} {ad : Nat → Nat} {xs : Nat → Int32} (C : LC p l s m c D cy o ad oa e0 mi b L xs) {i : Nat} (hi : 4 * i + 3 < L) (hW : LW s D cy o ad oa e0 x0 H locs) (hl : lv_has ls 7 [(0, .ref b), (1, .ref x0), (2, .ref o), (3, .ref oa), (4, .int (nI (4 * i)))]) (hc : cells + 6 ≤ 601024) (hs : slots + 326 ≤ 7293033)
    (kk : ∀ (H1 : Heap) (locs1 : List Loc) (ls1 : Array Slot), LW s D cy o ad oa e0 x0 H1 locs1 → lv_has ls1 7 [(0, .ref b), (1, .ref x0), (2, .ref o), (3, .ref oa), (4, .int (nI (4 * i)))] → W p l e room_1 s m #[Value.ref b] below meth c H1 locs1 (cells + 6) (slots + 326) Q (F0 m 2383 ls1 [])) : W p l e room_1 s m #[Value.ref b] below meth c H locs cells slots Q (F0 m 1477 ls []) := by
  obtain ⟨hS, hz, g, S, th, v, hI, ⟨hL, hG, hT, -⟩, h18, hM, hR, hO⟩ := hW
  subst h18
  obtain ⟨hC, hX, hfl, hJ, ⟨ho1, ho2⟩, hML⟩ := id C
  have hx := hC.1.1
  have hb := hC.1.2.1
  have hts := hC.1.2.2.2.2
  have hV : CV e0 g S := ⟨hG, hT, hI.m, hI.k⟩
  have h1 := one_fire S hI.m hI.o.o hI.t hI.td (xs (4 * i + 1)) (xs (4 * i + 2))
  have hkp := kp_fire hI (xs (4 * i + 1)) (xs (4 * i + 2))
  refine lv_aload_n hx hb dL_law_1477 rfl (lv_at hl 1 rfl) ?_
  refine lv_aload_n hx hb dL_law_1478 rfl (lv_at hl 0 rfl) ?_
  refine lv_iload hx hb dL_law_1479 (lv_at hl 4 rfl) ?_
  refine lv_iconst (v := 1) hx hb dL_law_1481 (by decide) ?_
  refine lv_iadd hx hb dL_law_1482 ?_
  refine lc_sld hx hb hX hS 1 (by decide) (by omega) dL_law_1483 ?_
  refine lv_aload_n hx hb dL_law_1484 rfl (lv_at hl 0 rfl) ?_
  refine lv_iload hx hb dL_law_1485 (lv_at hl 4 rfl) ?_
  refine lv_iconst (v := 2) hx hb dL_law_1487 (by decide) ?_
  refine lv_iadd hx hb dL_law_1488 ?_
  refine lc_sld hx hb hX hS 2 (by decide) (by omega) dL_law_1489 ?_
  refine lv_aload_n hx hb dL_law_1490 rfl (lv_at hl 3 rfl) ?_
  refine vx_calli (vx_runSX (As := [.ref (ga g 18 0), .int (xs (4 * i + 1)), .int (xs (4 * i + 2)), .ref oa]) (rest := []) hC.1 (qL_fire l hfl (A7 s.heap.size o oa) D cy g hL S e0 mi (oa + 1) oa (fun q h => a7_new h) (a7_oa ho2) hV hI.z hI.n (xs (4 * i + 1)) (xs (4 * i + 2))) (vx_cwSW 4 hts gL_law_L_fire rfl rfl rfl (by decide +kernel) ⟨Nat.le_of_ble_eq_true rfl, Nat.le_of_ble_eq_true rfl⟩) ⟨LP_blind, fun U hU hW => ⟨rfl, lc_LP C hS hz hM hO hU hW⟩⟩ rfl rfl hl.1 rfl (lv_room (Nat.le_of_ble_eq_true rfl)) dL_law_1491 ⟨hc, hs⟩) hS (fun q _ h => h.elim (a7_sz ho1 ho2) (fun h => by rw [h]; omega)) (fun q h => h.elim (a7_sz ho1 ho2) (fun h => by rw [h]; omega)) (fun q _ h => h.elim) (fun E ce q9 u t H1 locs1 ht hvm hp => False.elim hp) (fun r g1 t H1 locs1 ht hvm hp hB hz1 hk1 hS1 => ?_)
  obtain ⟨hr1, hLG⟩ := hp
  obtain ⟨hM1, v1, hO1, hv1⟩ := hB
  rw [ht] at hM1 hO1
  have hR1 := hR.keptA hML (fun q hq ha => hk1 q hq (a8_a7 ha))
  refine lv_istore (lv' := [(5, .int r), (0, .ref b), (1, .ref (ga g 18 0)), (2, .ref o), (3, .ref oa), (4, .int (nI (4 * i)))]) hx hb dL_law_1494 hl (by decide) rfl (fun ls hl => ?_)
  refine lv_aload_n hx hb dL_law_1496 rfl (lv_at hl 3 rfl) ?_
  refine lv_aload_n hx hb dL_law_1497 rfl (lv_at hl 1 rfl) ?_
  refine lv_iload hx hb dL_law_1498 (lv_at hl 5 rfl) ?_
  refine lv_iconst (v := 1) hx hb dL_law_1500 (by decide) ?_
  refine lv_iadd hx hb dL_law_1501 ?_
  refine lc_sld hx hb hX hS1 1 (by decide) (by omega) dL_law_1502 ?_
  refine lv_aload_n hx hb dL_law_1503 rfl (lv_at hl 1 rfl) ?_
  refine lv_iload hx hb dL_law_1504 (lv_at hl 5 rfl) ?_
  refine lv_iconst (v := 2) hx hb dL_law_1506 (by decide) ?_
  refine lv_iadd hx hb dL_law_1507 ?_
  refine lc_sld hx hb hX hS1 2 (by decide) (by omega) dL_law_1508 ?_
  refine va_calli (va_runV (As := [.int (xs (4 * i + 1)), .int (xs (4 * i + 2))]) (rest := []) hC.1 (qX8_fire l (A8 o oa) D cy o ad hML S th hI.m (xs (4 * i + 1)) (xs (4 * i + 2))) (cwV 2 hts gL_law_X8_fire rfl rfl rfl (by decide +kernel) ⟨Nat.le_of_ble_eq_true rfl, Nat.le_of_ble_eq_true rfl⟩) ⟨MP_blind, va_recv hC.2 (p1 hR1.1) (ci := 9) (q0 := 0) rfl rfl, fun U hU hW => ⟨rfl, by rw [hU]; exact hR1, va_K.moved hW.alike hC.2⟩⟩ rfl rfl hl.1 rfl (lv_room (Nat.le_of_ble_eq_true rfl)) dL_law_1509 ⟨hc, hs⟩) hS1 (fun q _ h => a8_sz ho1 h) (fun q h => a8_sz ho1 h) (fun r2 u2 t2 H2 locs2 ht2 hvm2 hr2 hB2 hz2 hk2 hS2 => ?_)
  rw [ht2] at hB2
  have hM2 := hM1.keptA hLG.1 (fun q hq ha => hk2 q hq (a7_a8 ho2 ha))
  have hO2 : at1 D oa (LA cy v1) H2 := hO1.kept (hk2 oa hO1.lt a8_oa)
  refine lv_istore (lv' := [(6, .int r2), (5, .int r), (0, .ref b), (1, .ref (ga g 18 0)), (2, .ref o), (3, .ref oa), (4, .int (nI (4 * i)))]) hx hb dL_law_1512 hl (by decide) rfl (fun ls hl => ?_)
  refine lv_aload_n hx hb dL_law_1514 rfl (lv_at hl 4 rfl) ?_
  refine va_calli (va_runV (As := []) (rest := []) hC.1 (qX8_thrown l D cy o ad (fX8_fire S (xs (4 * i + 1)) (xs (4 * i + 2))).2.2 (fX8_fire S (xs (4 * i + 1)) (xs (4 * i + 2))).2.1) (cwV 0 hts gL_law_X8_thrown rfl rfl rfl (by decide +kernel) ⟨Nat.le_of_ble_eq_true rfl, Nat.le_of_ble_eq_true rfl⟩) ⟨MP_blind, va_recv hC.2 (p1 hB2.1) (ci := 9) (q0 := 0) rfl rfl, fun U hU hW => ⟨rfl, by rw [hU]; exact hB2, va_K.moved hW.alike hC.2⟩⟩ rfl rfl hl.1 rfl (lv_room (Nat.le_of_ble_eq_true rfl)) dL_law_1515 ⟨hc, hs⟩) hS2 (fun q _ h => h.elim) (fun q h => h.elim) (fun r3 u3 t3 H3 locs3 ht3 hvm3 hr3 _ hz3 hk3 hS3 => ?_)
  have hM3 := hM2.keep (fun q hq => hk3 q hq (fun h => h))
  have hB3 := hB2.keep (fun q hq => hk3 q hq (fun h => h))
  have hO3 : at1 D oa (LA cy v1) H3 := hO2.kept (hk3 oa hO2.lt (fun h => h))
  have hW3 : LW s D cy o ad oa e0 (ga g 18 0) H3 locs3 := lc_fin (x8 := (fX8_fire S (xs (4 * i + 1)) (xs (4 * i + 2)))) (x7 := (fX7_fire S (xs (4 * i + 1)) (xs (4 * i + 2)))) hS3 (Nat.lt_of_lt_of_le hz (Nat.le_trans hz1 (Nat.le_trans hz2 hz3))) hkp h1 hLG hM3 hB3 hO3
  have fin : W p l e room_1 s m #[Value.ref b] below meth c H3 locs3 (cells + 6) (slots + 326) Q (F0 m 1549 ls []) := by
    refine lv_goto (tgt := 2383) hx hb dL_law_1549 (by decide) ?_
    exact kk H3 locs3 ls hW3 (lv_sub hl [2, 3, 4, 5, 6] rfl)
  refine lv_iload hx hb dL_law_1518 (lv_at hl 1 rfl) ?_
  refine lv_icmp_eq (tgt := 1525) hx hb dL_law_1520 (by decide) (fun c1 => ?_) (fun c1 => absurd (hr3.trans (h1.1.trans hr1.symm)) c1)
  refine lv_iload hx hb dL_law_1525 (lv_at hl 1 rfl) ?_
  refine lv_if_ne (tgt := 1549) hx hb dL_law_1527 (by decide) (fun _ => fin) (fun c2 => ?_)
  have hz0 : (fX7_fire S (xs (4 * i + 1)) (xs (4 * i + 2))).2.1 = 0 := mp13_z (hr1.symm.trans c2)
  have e1 := hv1 hz0
  have e2 := h1.2.1 hz0
  refine lv_aload_n hx hb dL_law_1530 rfl (lv_at hl 5 rfl) ?_
  refine lv_iconst (v := 0) hx hb dL_law_1531 (by decide) ?_
  refine lc_lald hx hb hC.2 hO3 dL_law_1532 ?_
  refine lv_iload hx hb dL_law_1533 (lv_at hl 0 rfl) ?_
  refine lv_if_eq (tgt := 1542) hx hb dL_law_1535 (by decide) (fun c4 => ?_) (fun c4 => ?_)
  · refine lv_lconst (v := 0) hx hb dL_law_1542 rfl ?_
    refine W.lcmp hx hb dL_law_1543 ?_
    exact lv_if_eq (tgt := 1549) hx hb dL_law_1544 (by decide) (fun _ => fin) (fun c3 => absurd (lc_cmp (by rw [e1, ← e2, ← hr2, if_pos c4])) c3)
  · refine lv_lconst (v := 1) hx hb dL_law_1538 rfl ?_
    refine lv_goto (tgt := 1543) hx hb dL_law_1539 (by decide) ?_
    refine W.lcmp hx hb dL_law_1543 ?_
    exact lv_if_eq (tgt := 1549) hx hb dL_law_1544 (by decide) (fun _ => fin) (fun c3 => absurd (lc_cmp (by rw [e1, ← e2, ← hr2, if_neg c4])) c3)
set_option maxHeartbeats 4000000 in
set_option maxRecDepth 100000 in
theorem lc_award {p : Program} {l : Launch} {e : Env} {s : State} {m : MethodId} {below : List Frame} {meth : Method} {c : Code} {H : Heap} {locs : List Loc} {cells slots : Nat} {Q : State → Prop} {ls : Array Slot} {D : va_G} {cy : Nat → ClassId} {o oa e0 mi b L x0 : Nat} {ad : Nat → Nat} {xs : Nat → Int32} (C : LC p l s m c D cy o ad oa e0 mi b L xs) {i : Nat} (hi : 4 * i + 3 < L) (hW : LW s D cy o ad oa e0 x0 H locs) (hl : lv_has ls 7 [(0, .ref b), (1, .ref x0), (2, .ref o), (3, .ref oa), (4, .int (nI (4 * i)))]) (hc : cells + 6 ≤ 601024) (hs : slots + 326 ≤ 7293033)
    (kk : ∀ (H1 : Heap) (locs1 : List Loc) (ls1 : Array Slot), LW s D cy o ad oa e0 x0 H1 locs1 → lv_has ls1 7 [(0, .ref b), (1, .ref x0), (2, .ref o), (3, .ref oa), (4, .int (nI (4 * i)))] → W p l e room_1 s m #[Value.ref b] below meth c H1 locs1 (cells + 6) (slots + 326) Q (F0 m 2383 ls1 [])) : W p l e room_1 s m #[Value.ref b] below meth c H locs cells slots Q (F0 m 1552 ls []) := by
  obtain ⟨hS, hz, g, S, th, v, hI, ⟨hL, hG, hT, -⟩, h18, hM, hR, hO⟩ := hW
  subst h18
  obtain ⟨hC, hX, hfl, hJ, ⟨ho1, ho2⟩, hML⟩ := id C
  have hx := hC.1.1
  have hb := hC.1.2.1
  have hts := hC.1.2.2.2.2
  have hV : CV e0 g S := ⟨hG, hT, hI.m, hI.k⟩
  have h1 := one_award S hI.m hI.a (xs (4 * i + 1)) (xs (4 * i + 2))
  have hkp := kp_award hI (xs (4 * i + 1)) (xs (4 * i + 2))
  refine lv_aload_n hx hb dL_law_1552 rfl (lv_at hl 1 rfl) ?_
  refine lv_aload_n hx hb dL_law_1553 rfl (lv_at hl 0 rfl) ?_
  refine lv_iload hx hb dL_law_1554 (lv_at hl 4 rfl) ?_
  refine lv_iconst (v := 1) hx hb dL_law_1556 (by decide) ?_
  refine lv_iadd hx hb dL_law_1557 ?_
  refine lc_sld hx hb hX hS 1 (by decide) (by omega) dL_law_1558 ?_
  refine lv_aload_n hx hb dL_law_1559 rfl (lv_at hl 0 rfl) ?_
  refine lv_iload hx hb dL_law_1560 (lv_at hl 4 rfl) ?_
  refine lv_iconst (v := 2) hx hb dL_law_1562 (by decide) ?_
  refine lv_iadd hx hb dL_law_1563 ?_
  refine lc_sld hx hb hX hS 2 (by decide) (by omega) dL_law_1564 ?_
  refine lv_aload_n hx hb dL_law_1565 rfl (lv_at hl 3 rfl) ?_
  refine vx_calli (vx_runSX (As := [.ref (ga g 18 0), .int (xs (4 * i + 1)), .int (xs (4 * i + 2)), .ref oa]) (rest := []) hC.1 (qL_award l hfl (A7 s.heap.size o oa) D cy g hL S e0 mi (oa + 1) oa (fun q h => a7_new h) (a7_oa ho2) hV hI.z hI.n (xs (4 * i + 1)) (xs (4 * i + 2))) (vx_cwSW 4 hts gL_law_L_award rfl rfl rfl (by decide +kernel) ⟨Nat.le_of_ble_eq_true rfl, Nat.le_of_ble_eq_true rfl⟩) ⟨LP_blind, fun U hU hW => ⟨rfl, lc_LP C hS hz hM hO hU hW⟩⟩ rfl rfl hl.1 rfl (lv_room (Nat.le_of_ble_eq_true rfl)) dL_law_1566 ⟨hc, hs⟩) hS (fun q _ h => h.elim (a7_sz ho1 ho2) (fun h => by rw [h]; omega)) (fun q h => h.elim (a7_sz ho1 ho2) (fun h => by rw [h]; omega)) (fun q _ h => h.elim) (fun E ce q9 u t H1 locs1 ht hvm hp => False.elim hp) (fun r g1 t H1 locs1 ht hvm hp hB hz1 hk1 hS1 => ?_)
  obtain ⟨hr1, hLG⟩ := hp
  obtain ⟨hM1, v1, hO1, hv1⟩ := hB
  rw [ht] at hM1 hO1
  have hR1 := hR.keptA hML (fun q hq ha => hk1 q hq (a8_a7 ha))
  refine lv_istore (lv' := [(5, .int r), (0, .ref b), (1, .ref (ga g 18 0)), (2, .ref o), (3, .ref oa), (4, .int (nI (4 * i)))]) hx hb dL_law_1569 hl (by decide) rfl (fun ls hl => ?_)
  refine lv_aload_n hx hb dL_law_1571 rfl (lv_at hl 3 rfl) ?_
  refine lv_aload_n hx hb dL_law_1572 rfl (lv_at hl 1 rfl) ?_
  refine lv_iload hx hb dL_law_1573 (lv_at hl 5 rfl) ?_
  refine lv_iconst (v := 1) hx hb dL_law_1575 (by decide) ?_
  refine lv_iadd hx hb dL_law_1576 ?_
  refine lc_sld hx hb hX hS1 1 (by decide) (by omega) dL_law_1577 ?_
  refine lv_aload_n hx hb dL_law_1578 rfl (lv_at hl 1 rfl) ?_
  refine lv_iload hx hb dL_law_1579 (lv_at hl 5 rfl) ?_
  refine lv_iconst (v := 2) hx hb dL_law_1581 (by decide) ?_
  refine lv_iadd hx hb dL_law_1582 ?_
  refine lc_sld hx hb hX hS1 2 (by decide) (by omega) dL_law_1583 ?_
  refine va_calli (va_runV (As := [.int (xs (4 * i + 1)), .int (xs (4 * i + 2))]) (rest := []) hC.1 (qX8_award l (A8 o oa) D cy o ad hML S th hI.m (xs (4 * i + 1)) (xs (4 * i + 2))) (cwV 2 hts gL_law_X8_award rfl rfl rfl (by decide +kernel) ⟨Nat.le_of_ble_eq_true rfl, Nat.le_of_ble_eq_true rfl⟩) ⟨MP_blind, va_recv hC.2 (p1 hR1.1) (ci := 9) (q0 := 0) rfl rfl, fun U hU hW => ⟨rfl, by rw [hU]; exact hR1, va_K.moved hW.alike hC.2⟩⟩ rfl rfl hl.1 rfl (lv_room (Nat.le_of_ble_eq_true rfl)) dL_law_1584 ⟨hc, hs⟩) hS1 (fun q _ h => a8_sz ho1 h) (fun q h => a8_sz ho1 h) (fun r2 u2 t2 H2 locs2 ht2 hvm2 hr2 hB2 hz2 hk2 hS2 => ?_)
  rw [ht2] at hB2
  have hM2 := hM1.keptA hLG.1 (fun q hq ha => hk2 q hq (a7_a8 ho2 ha))
  have hO2 : at1 D oa (LA cy v1) H2 := hO1.kept (hk2 oa hO1.lt a8_oa)
  refine lv_istore (lv' := [(6, .int r2), (5, .int r), (0, .ref b), (1, .ref (ga g 18 0)), (2, .ref o), (3, .ref oa), (4, .int (nI (4 * i)))]) hx hb dL_law_1587 hl (by decide) rfl (fun ls hl => ?_)
  refine lv_aload_n hx hb dL_law_1589 rfl (lv_at hl 4 rfl) ?_
  refine va_calli (va_runV (As := []) (rest := []) hC.1 (qX8_thrown l D cy o ad (fX8_award S (xs (4 * i + 1)) (xs (4 * i + 2))).2.2 (fX8_award S (xs (4 * i + 1)) (xs (4 * i + 2))).2.1) (cwV 0 hts gL_law_X8_thrown rfl rfl rfl (by decide +kernel) ⟨Nat.le_of_ble_eq_true rfl, Nat.le_of_ble_eq_true rfl⟩) ⟨MP_blind, va_recv hC.2 (p1 hB2.1) (ci := 9) (q0 := 0) rfl rfl, fun U hU hW => ⟨rfl, by rw [hU]; exact hB2, va_K.moved hW.alike hC.2⟩⟩ rfl rfl hl.1 rfl (lv_room (Nat.le_of_ble_eq_true rfl)) dL_law_1590 ⟨hc, hs⟩) hS2 (fun q _ h => h.elim) (fun q h => h.elim) (fun r3 u3 t3 H3 locs3 ht3 hvm3 hr3 _ hz3 hk3 hS3 => ?_)
  have hM3 := hM2.keep (fun q hq => hk3 q hq (fun h => h))
  have hB3 := hB2.keep (fun q hq => hk3 q hq (fun h => h))
  have hO3 : at1 D oa (LA cy v1) H3 := hO2.kept (hk3 oa hO2.lt (fun h => h))
  have hW3 : LW s D cy o ad oa e0 (ga g 18 0) H3 locs3 := lc_fin (x8 := (fX8_award S (xs (4 * i + 1)) (xs (4 * i + 2)))) (x7 := (fX7_award S (xs (4 * i + 1)) (xs (4 * i + 2)))) hS3 (Nat.lt_of_lt_of_le hz (Nat.le_trans hz1 (Nat.le_trans hz2 hz3))) hkp h1 hLG hM3 hB3 hO3
  have fin : W p l e room_1 s m #[Value.ref b] below meth c H3 locs3 (cells + 6) (slots + 326) Q (F0 m 1617 ls []) := by
    refine lv_goto (tgt := 2383) hx hb dL_law_1617 (by decide) ?_
    exact kk H3 locs3 ls hW3 (lv_sub hl [2, 3, 4, 5, 6] rfl)
  refine lv_iload hx hb dL_law_1593 (lv_at hl 1 rfl) ?_
  refine lv_icmp_eq (tgt := 1600) hx hb dL_law_1595 (by decide) (fun c1 => ?_) (fun c1 => absurd (hr3.trans (h1.1.trans hr1.symm)) c1)
  refine lv_iload hx hb dL_law_1600 (lv_at hl 1 rfl) ?_
  refine lv_if_ne (tgt := 1617) hx hb dL_law_1602 (by decide) (fun _ => fin) (fun c2 => ?_)
  have hz0 : (fX7_award S (xs (4 * i + 1)) (xs (4 * i + 2))).2.1 = 0 := mp13_z (hr1.symm.trans c2)
  have e1 := hv1 hz0
  have e2 := h1.2.1 hz0
  refine lv_aload_n hx hb dL_law_1605 rfl (lv_at hl 5 rfl) ?_
  refine lv_iconst (v := 0) hx hb dL_law_1606 (by decide) ?_
  refine lc_lald hx hb hC.2 hO3 dL_law_1607 ?_
  refine lv_iload hx hb dL_law_1608 (lv_at hl 0 rfl) ?_
  refine lv_i2l hx hb dL_law_1610 rfl ?_
  refine W.lcmp hx hb dL_law_1611 ?_
  exact lv_if_eq (tgt := 1617) hx hb dL_law_1612 (by decide) (fun _ => fin) (fun c3 => absurd (lc_cmp (by rw [e1, hr2, e2])) c3)
set_option maxHeartbeats 4000000 in
set_option maxRecDepth 100000 in
theorem lc_pass {p : Program} {l : Launch} {e : Env} {s : State} {m : MethodId} {below : List Frame} {meth : Method} {c : Code} {H : Heap} {locs : List Loc} {cells slots : Nat} {Q : State → Prop} {ls : Array Slot} {D : va_G} {cy : Nat → ClassId} {o oa e0 mi b L x0 : Nat} {ad : Nat → Nat} {xs : Nat → Int32} (C : LC p l s m c D cy o ad oa e0 mi b L xs) {i : Nat} (hi : 4 * i + 3 < L) (hW : LW s D cy o ad oa e0 x0 H locs) (hl : lv_has ls 7 [(0, .ref b), (1, .ref x0), (2, .ref o), (3, .ref oa), (4, .int (nI (4 * i)))]) (hc : cells + 6 ≤ 601024) (hs : slots + 326 ≤ 7293033)
    (kk : ∀ (H1 : Heap) (locs1 : List Loc) (ls1 : Array Slot), LW s D cy o ad oa e0 x0 H1 locs1 → lv_has ls1 7 [(0, .ref b), (1, .ref x0), (2, .ref o), (3, .ref oa), (4, .int (nI (4 * i)))] → W p l e room_1 s m #[Value.ref b] below meth c H1 locs1 (cells + 6) (slots + 326) Q (F0 m 2383 ls1 [])) : W p l e room_1 s m #[Value.ref b] below meth c H locs cells slots Q (F0 m 1620 ls []) := by
  obtain ⟨hS, hz, g, S, th, v, hI, ⟨hL, hG, hT, -⟩, h18, hM, hR, hO⟩ := hW
  subst h18
  obtain ⟨hC, hX, hfl, hJ, ⟨ho1, ho2⟩, hML⟩ := id C
  have hx := hC.1.1
  have hb := hC.1.2.1
  have hts := hC.1.2.2.2.2
  have hV : CV e0 g S := ⟨hG, hT, hI.m, hI.k⟩
  have h1 := one_pass S hI.m (xs (4 * i + 1))
  have hkp := kp_pass hI (xs (4 * i + 1))
  refine lv_aload_n hx hb dL_law_1620 rfl (lv_at hl 1 rfl) ?_
  refine lv_aload_n hx hb dL_law_1621 rfl (lv_at hl 0 rfl) ?_
  refine lv_iload hx hb dL_law_1622 (lv_at hl 4 rfl) ?_
  refine lv_iconst (v := 1) hx hb dL_law_1624 (by decide) ?_
  refine lv_iadd hx hb dL_law_1625 ?_
  refine lc_sld hx hb hX hS 1 (by decide) (by omega) dL_law_1626 ?_
  refine lv_aload_n hx hb dL_law_1627 rfl (lv_at hl 3 rfl) ?_
  refine vx_calli (vx_runSX (As := [.ref (ga g 18 0), .int (xs (4 * i + 1)), .ref oa]) (rest := []) hC.1 (qL_pass l hfl (A7 s.heap.size o oa) D cy g hL S e0 mi (oa + 1) oa (fun q h => a7_new h) (a7_oa ho2) hV hI.z hI.n (xs (4 * i + 1))) (vx_cwSW 3 hts gL_law_L_pass rfl rfl rfl (by decide +kernel) ⟨Nat.le_of_ble_eq_true rfl, Nat.le_of_ble_eq_true rfl⟩) ⟨LP_blind, fun U hU hW => ⟨rfl, lc_LP C hS hz hM hO hU hW⟩⟩ rfl rfl hl.1 rfl (lv_room (Nat.le_of_ble_eq_true rfl)) dL_law_1628 ⟨hc, hs⟩) hS (fun q _ h => h.elim (a7_sz ho1 ho2) (fun h => by rw [h]; omega)) (fun q h => h.elim (a7_sz ho1 ho2) (fun h => by rw [h]; omega)) (fun q _ h => h.elim) (fun E ce q9 u t H1 locs1 ht hvm hp => False.elim hp) (fun r g1 t H1 locs1 ht hvm hp hB hz1 hk1 hS1 => ?_)
  obtain ⟨hr1, hLG⟩ := hp
  obtain ⟨hM1, v1, hO1, hv1⟩ := hB
  rw [ht] at hM1 hO1
  have hR1 := hR.keptA hML (fun q hq ha => hk1 q hq (a8_a7 ha))
  refine lv_istore (lv' := [(5, .int r), (0, .ref b), (1, .ref (ga g 18 0)), (2, .ref o), (3, .ref oa), (4, .int (nI (4 * i)))]) hx hb dL_law_1631 hl (by decide) rfl (fun ls hl => ?_)
  refine lv_aload_n hx hb dL_law_1633 rfl (lv_at hl 3 rfl) ?_
  refine lv_aload_n hx hb dL_law_1634 rfl (lv_at hl 1 rfl) ?_
  refine lv_iload hx hb dL_law_1635 (lv_at hl 5 rfl) ?_
  refine lv_iconst (v := 1) hx hb dL_law_1637 (by decide) ?_
  refine lv_iadd hx hb dL_law_1638 ?_
  refine lc_sld hx hb hX hS1 1 (by decide) (by omega) dL_law_1639 ?_
  refine va_calli (va_runV (As := [.int (xs (4 * i + 1))]) (rest := []) hC.1 (qX8_pass l (A8 o oa) D cy o ad hML S th hI.m (xs (4 * i + 1))) (cwV 1 hts gL_law_X8_pass rfl rfl rfl (by decide +kernel) ⟨Nat.le_of_ble_eq_true rfl, Nat.le_of_ble_eq_true rfl⟩) ⟨MP_blind, va_recv hC.2 (p1 hR1.1) (ci := 9) (q0 := 0) rfl rfl, fun U hU hW => ⟨rfl, by rw [hU]; exact hR1, va_K.moved hW.alike hC.2⟩⟩ rfl rfl hl.1 rfl (lv_room (Nat.le_of_ble_eq_true rfl)) dL_law_1640 ⟨hc, hs⟩) hS1 (fun q _ h => a8_sz ho1 h) (fun q h => a8_sz ho1 h) (fun r2 u2 t2 H2 locs2 ht2 hvm2 hr2 hB2 hz2 hk2 hS2 => ?_)
  rw [ht2] at hB2
  have hM2 := hM1.keptA hLG.1 (fun q hq ha => hk2 q hq (a7_a8 ho2 ha))
  have hO2 : at1 D oa (LA cy v1) H2 := hO1.kept (hk2 oa hO1.lt a8_oa)
  refine lv_istore (lv' := [(6, .int r2), (5, .int r), (0, .ref b), (1, .ref (ga g 18 0)), (2, .ref o), (3, .ref oa), (4, .int (nI (4 * i)))]) hx hb dL_law_1643 hl (by decide) rfl (fun ls hl => ?_)
  refine lv_aload_n hx hb dL_law_1645 rfl (lv_at hl 4 rfl) ?_
  refine va_calli (va_runV (As := []) (rest := []) hC.1 (qX8_thrown l D cy o ad (fX8_pass S (xs (4 * i + 1))).2.2 (fX8_pass S (xs (4 * i + 1))).2.1) (cwV 0 hts gL_law_X8_thrown rfl rfl rfl (by decide +kernel) ⟨Nat.le_of_ble_eq_true rfl, Nat.le_of_ble_eq_true rfl⟩) ⟨MP_blind, va_recv hC.2 (p1 hB2.1) (ci := 9) (q0 := 0) rfl rfl, fun U hU hW => ⟨rfl, by rw [hU]; exact hB2, va_K.moved hW.alike hC.2⟩⟩ rfl rfl hl.1 rfl (lv_room (Nat.le_of_ble_eq_true rfl)) dL_law_1646 ⟨hc, hs⟩) hS2 (fun q _ h => h.elim) (fun q h => h.elim) (fun r3 u3 t3 H3 locs3 ht3 hvm3 hr3 _ hz3 hk3 hS3 => ?_)
  have hM3 := hM2.keep (fun q hq => hk3 q hq (fun h => h))
  have hB3 := hB2.keep (fun q hq => hk3 q hq (fun h => h))
  have hO3 : at1 D oa (LA cy v1) H3 := hO2.kept (hk3 oa hO2.lt (fun h => h))
  have hW3 : LW s D cy o ad oa e0 (ga g 18 0) H3 locs3 := lc_fin (x8 := (fX8_pass S (xs (4 * i + 1)))) (x7 := (fX7_pass S (xs (4 * i + 1)))) hS3 (Nat.lt_of_lt_of_le hz (Nat.le_trans hz1 (Nat.le_trans hz2 hz3))) hkp h1 hLG hM3 hB3 hO3
  have fin : W p l e room_1 s m #[Value.ref b] below meth c H3 locs3 (cells + 6) (slots + 326) Q (F0 m 1673 ls []) := by
    refine lv_goto (tgt := 2383) hx hb dL_law_1673 (by decide) ?_
    exact kk H3 locs3 ls hW3 (lv_sub hl [2, 3, 4, 5, 6] rfl)
  refine lv_iload hx hb dL_law_1649 (lv_at hl 1 rfl) ?_
  refine lv_icmp_eq (tgt := 1656) hx hb dL_law_1651 (by decide) (fun c1 => ?_) (fun c1 => absurd (hr3.trans (h1.1.trans hr1.symm)) c1)
  refine lv_iload hx hb dL_law_1656 (lv_at hl 1 rfl) ?_
  refine lv_if_ne (tgt := 1673) hx hb dL_law_1658 (by decide) (fun _ => fin) (fun c2 => ?_)
  have hz0 : (fX7_pass S (xs (4 * i + 1))).2.1 = 0 := mp23_z (hr1.symm.trans c2)
  have e1 := hv1 hz0
  have e2 := h1.2.1 hz0
  refine lv_aload_n hx hb dL_law_1661 rfl (lv_at hl 5 rfl) ?_
  refine lv_iconst (v := 0) hx hb dL_law_1662 (by decide) ?_
  refine lc_lald hx hb hC.2 hO3 dL_law_1663 ?_
  refine lv_iload hx hb dL_law_1664 (lv_at hl 0 rfl) ?_
  refine lv_i2l hx hb dL_law_1666 rfl ?_
  refine W.lcmp hx hb dL_law_1667 ?_
  exact lv_if_eq (tgt := 1673) hx hb dL_law_1668 (by decide) (fun _ => fin) (fun c3 => absurd (lc_cmp (by rw [e1, hr2, e2])) c3)
set_option maxHeartbeats 4000000 in
set_option maxRecDepth 100000 in
theorem lc_covers {p : Program} {l : Launch} {e : Env} {s : State} {m : MethodId} {below : List Frame} {meth : Method} {c : Code} {H : Heap} {locs : List Loc} {cells slots : Nat} {Q : State → Prop} {ls : Array Slot} {D : va_G} {cy : Nat → ClassId} {o oa e0 mi b L x0 : Nat} {ad : Nat → Nat} {xs : Nat → Int32} (C : LC p l s m c D cy o ad oa e0 mi b L xs) {i : Nat} (hi : 4 * i + 3 < L) (hW : LW s D cy o ad oa e0 x0 H locs) (hl : lv_has ls 7 [(0, .ref b), (1, .ref x0), (2, .ref o), (3, .ref oa), (4, .int (nI (4 * i)))]) (hc : cells + 6 ≤ 601024) (hs : slots + 326 ≤ 7293033)
    (kk : ∀ (H1 : Heap) (locs1 : List Loc) (ls1 : Array Slot), LW s D cy o ad oa e0 x0 H1 locs1 → lv_has ls1 7 [(0, .ref b), (1, .ref x0), (2, .ref o), (3, .ref oa), (4, .int (nI (4 * i)))] → W p l e room_1 s m #[Value.ref b] below meth c H1 locs1 (cells + 6) (slots + 326) Q (F0 m 2383 ls1 [])) : W p l e room_1 s m #[Value.ref b] below meth c H locs cells slots Q (F0 m 1676 ls []) := by
  obtain ⟨hS, hz, g, S, th, v, hI, ⟨hL, hG, hT, -⟩, h18, hM, hR, hO⟩ := hW
  subst h18
  obtain ⟨hC, hX, hfl, hJ, ⟨ho1, ho2⟩, hML⟩ := id C
  have hx := hC.1.1
  have hb := hC.1.2.1
  have hts := hC.1.2.2.2.2
  have hV : CV e0 g S := ⟨hG, hT, hI.m, hI.k⟩
  have h1 := one_covers S hI.m hI.p hI.s (xs (4 * i + 1)) (xs (4 * i + 2))
  have hkp := kp_covers hI (xs (4 * i + 1)) (xs (4 * i + 2))
  refine lv_aload_n hx hb dL_law_1676 rfl (lv_at hl 1 rfl) ?_
  refine lv_aload_n hx hb dL_law_1677 rfl (lv_at hl 0 rfl) ?_
  refine lv_iload hx hb dL_law_1678 (lv_at hl 4 rfl) ?_
  refine lv_iconst (v := 1) hx hb dL_law_1680 (by decide) ?_
  refine lv_iadd hx hb dL_law_1681 ?_
  refine lc_sld hx hb hX hS 1 (by decide) (by omega) dL_law_1682 ?_
  refine lv_aload_n hx hb dL_law_1683 rfl (lv_at hl 0 rfl) ?_
  refine lv_iload hx hb dL_law_1684 (lv_at hl 4 rfl) ?_
  refine lv_iconst (v := 2) hx hb dL_law_1686 (by decide) ?_
  refine lv_iadd hx hb dL_law_1687 ?_
  refine lc_sld hx hb hX hS 2 (by decide) (by omega) dL_law_1688 ?_
  refine lv_aload_n hx hb dL_law_1689 rfl (lv_at hl 3 rfl) ?_
  refine vx_calli (vx_runSX (As := [.ref (ga g 18 0), .int (xs (4 * i + 1)), .int (xs (4 * i + 2)), .ref oa]) (rest := []) hC.1 (qL_covers l hfl (A7 s.heap.size o oa) D cy g hL S e0 mi (oa + 1) oa (fun q h => a7_new h) (a7_oa ho2) hV hI.z hI.n (xs (4 * i + 1)) (xs (4 * i + 2))) (vx_cwSW 4 hts gL_law_L_covers rfl rfl rfl (by decide +kernel) ⟨Nat.le_of_ble_eq_true rfl, Nat.le_of_ble_eq_true rfl⟩) ⟨LP_blind, fun U hU hW => ⟨rfl, lc_LP C hS hz hM hO hU hW⟩⟩ rfl rfl hl.1 rfl (lv_room (Nat.le_of_ble_eq_true rfl)) dL_law_1690 ⟨hc, hs⟩) hS (fun q _ h => h.elim (a7_sz ho1 ho2) (fun h => by rw [h]; omega)) (fun q h => h.elim (a7_sz ho1 ho2) (fun h => by rw [h]; omega)) (fun q _ h => h.elim) (fun E ce q9 u t H1 locs1 ht hvm hp => False.elim hp) (fun r g1 t H1 locs1 ht hvm hp hB hz1 hk1 hS1 => ?_)
  obtain ⟨hr1, hLG⟩ := hp
  obtain ⟨hM1, v1, hO1, hv1⟩ := hB
  rw [ht] at hM1 hO1
  have hR1 := hR.keptA hML (fun q hq ha => hk1 q hq (a8_a7 ha))
  refine lv_istore (lv' := [(5, .int r), (0, .ref b), (1, .ref (ga g 18 0)), (2, .ref o), (3, .ref oa), (4, .int (nI (4 * i)))]) hx hb dL_law_1693 hl (by decide) rfl (fun ls hl => ?_)
  refine lv_aload_n hx hb dL_law_1695 rfl (lv_at hl 3 rfl) ?_
  refine lv_aload_n hx hb dL_law_1696 rfl (lv_at hl 1 rfl) ?_
  refine lv_iload hx hb dL_law_1697 (lv_at hl 5 rfl) ?_
  refine lv_iconst (v := 1) hx hb dL_law_1699 (by decide) ?_
  refine lv_iadd hx hb dL_law_1700 ?_
  refine lc_sld hx hb hX hS1 1 (by decide) (by omega) dL_law_1701 ?_
  refine lv_aload_n hx hb dL_law_1702 rfl (lv_at hl 1 rfl) ?_
  refine lv_iload hx hb dL_law_1703 (lv_at hl 5 rfl) ?_
  refine lv_iconst (v := 2) hx hb dL_law_1705 (by decide) ?_
  refine lv_iadd hx hb dL_law_1706 ?_
  refine lc_sld hx hb hX hS1 2 (by decide) (by omega) dL_law_1707 ?_
  refine va_calli (va_runV (As := [.int (xs (4 * i + 1)), .int (xs (4 * i + 2))]) (rest := []) hC.1 (qX8_covers l (A8 o oa) D cy o ad hML S th hI.m (xs (4 * i + 1)) (xs (4 * i + 2))) (cwV 2 hts gL_law_X8_covers rfl rfl rfl (by decide +kernel) ⟨Nat.le_of_ble_eq_true rfl, Nat.le_of_ble_eq_true rfl⟩) ⟨MP_blind, va_recv hC.2 (p1 hR1.1) (ci := 9) (q0 := 0) rfl rfl, fun U hU hW => ⟨rfl, by rw [hU]; exact hR1, va_K.moved hW.alike hC.2⟩⟩ rfl rfl hl.1 rfl (lv_room (Nat.le_of_ble_eq_true rfl)) dL_law_1708 ⟨hc, hs⟩) hS1 (fun q _ h => a8_sz ho1 h) (fun q h => a8_sz ho1 h) (fun r2 u2 t2 H2 locs2 ht2 hvm2 hr2 hB2 hz2 hk2 hS2 => ?_)
  rw [ht2] at hB2
  have hM2 := hM1.keptA hLG.1 (fun q hq ha => hk2 q hq (a7_a8 ho2 ha))
  have hO2 : at1 D oa (LA cy v1) H2 := hO1.kept (hk2 oa hO1.lt a8_oa)
  refine lv_istore (lv' := [(6, .int r2), (5, .int r), (0, .ref b), (1, .ref (ga g 18 0)), (2, .ref o), (3, .ref oa), (4, .int (nI (4 * i)))]) hx hb dL_law_1711 hl (by decide) rfl (fun ls hl => ?_)
  refine lv_aload_n hx hb dL_law_1713 rfl (lv_at hl 4 rfl) ?_
  refine va_calli (va_runV (As := []) (rest := []) hC.1 (qX8_thrown l D cy o ad (fX8_covers S (xs (4 * i + 1)) (xs (4 * i + 2))).2.2 (fX8_covers S (xs (4 * i + 1)) (xs (4 * i + 2))).2.1) (cwV 0 hts gL_law_X8_thrown rfl rfl rfl (by decide +kernel) ⟨Nat.le_of_ble_eq_true rfl, Nat.le_of_ble_eq_true rfl⟩) ⟨MP_blind, va_recv hC.2 (p1 hB2.1) (ci := 9) (q0 := 0) rfl rfl, fun U hU hW => ⟨rfl, by rw [hU]; exact hB2, va_K.moved hW.alike hC.2⟩⟩ rfl rfl hl.1 rfl (lv_room (Nat.le_of_ble_eq_true rfl)) dL_law_1714 ⟨hc, hs⟩) hS2 (fun q _ h => h.elim) (fun q h => h.elim) (fun r3 u3 t3 H3 locs3 ht3 hvm3 hr3 _ hz3 hk3 hS3 => ?_)
  have hM3 := hM2.keep (fun q hq => hk3 q hq (fun h => h))
  have hB3 := hB2.keep (fun q hq => hk3 q hq (fun h => h))
  have hO3 : at1 D oa (LA cy v1) H3 := hO2.kept (hk3 oa hO2.lt (fun h => h))
  have hW3 : LW s D cy o ad oa e0 (ga g 18 0) H3 locs3 := lc_fin (x8 := (fX8_covers S (xs (4 * i + 1)) (xs (4 * i + 2)))) (x7 := (fX7_covers S (xs (4 * i + 1)) (xs (4 * i + 2)))) hS3 (Nat.lt_of_lt_of_le hz (Nat.le_trans hz1 (Nat.le_trans hz2 hz3))) hkp h1 hLG hM3 hB3 hO3
  have fin : W p l e room_1 s m #[Value.ref b] below meth c H3 locs3 (cells + 6) (slots + 326) Q (F0 m 1741 ls []) := by
    refine lv_goto (tgt := 2383) hx hb dL_law_1741 (by decide) ?_
    exact kk H3 locs3 ls hW3 (lv_sub hl [2, 3, 4, 5, 6] rfl)
  refine lv_iload hx hb dL_law_1717 (lv_at hl 1 rfl) ?_
  refine lv_icmp_eq (tgt := 1724) hx hb dL_law_1719 (by decide) (fun c1 => ?_) (fun c1 => absurd (hr3.trans (h1.1.trans hr1.symm)) c1)
  refine lv_iload hx hb dL_law_1724 (lv_at hl 1 rfl) ?_
  refine lv_if_ne (tgt := 1741) hx hb dL_law_1726 (by decide) (fun _ => fin) (fun c2 => ?_)
  have hz0 : (fX7_covers S (xs (4 * i + 1)) (xs (4 * i + 2))).2.1 = 0 := mp3_z (hr1.symm.trans c2)
  have e1 := hv1 hz0
  have e2 := h1.2.1 hz0
  refine lv_aload_n hx hb dL_law_1729 rfl (lv_at hl 5 rfl) ?_
  refine lv_iconst (v := 0) hx hb dL_law_1730 (by decide) ?_
  refine lc_lald hx hb hC.2 hO3 dL_law_1731 ?_
  refine lv_iload hx hb dL_law_1732 (lv_at hl 0 rfl) ?_
  refine lv_i2l hx hb dL_law_1734 rfl ?_
  refine W.lcmp hx hb dL_law_1735 ?_
  exact lv_if_eq (tgt := 1741) hx hb dL_law_1736 (by decide) (fun _ => fin) (fun c3 => absurd (lc_cmp (by rw [e1, hr2, e2])) c3)
set_option maxHeartbeats 4000000 in
set_option maxRecDepth 100000 in
theorem lc_bars {p : Program} {l : Launch} {e : Env} {s : State} {m : MethodId} {below : List Frame} {meth : Method} {c : Code} {H : Heap} {locs : List Loc} {cells slots : Nat} {Q : State → Prop} {ls : Array Slot} {D : va_G} {cy : Nat → ClassId} {o oa e0 mi b L x0 : Nat} {ad : Nat → Nat} {xs : Nat → Int32} (C : LC p l s m c D cy o ad oa e0 mi b L xs) {i : Nat} (hi : 4 * i + 3 < L) (hW : LW s D cy o ad oa e0 x0 H locs) (hl : lv_has ls 7 [(0, .ref b), (1, .ref x0), (2, .ref o), (3, .ref oa), (4, .int (nI (4 * i)))]) (hc : cells + 6 ≤ 601024) (hs : slots + 326 ≤ 7293033)
    (kk : ∀ (H1 : Heap) (locs1 : List Loc) (ls1 : Array Slot), LW s D cy o ad oa e0 x0 H1 locs1 → lv_has ls1 7 [(0, .ref b), (1, .ref x0), (2, .ref o), (3, .ref oa), (4, .int (nI (4 * i)))] → W p l e room_1 s m #[Value.ref b] below meth c H1 locs1 (cells + 6) (slots + 326) Q (F0 m 2383 ls1 [])) : W p l e room_1 s m #[Value.ref b] below meth c H locs cells slots Q (F0 m 1744 ls []) := by
  obtain ⟨hS, hz, g, S, th, v, hI, ⟨hL, hG, hT, -⟩, h18, hM, hR, hO⟩ := hW
  subst h18
  obtain ⟨hC, hX, hfl, hJ, ⟨ho1, ho2⟩, hML⟩ := id C
  have hx := hC.1.1
  have hb := hC.1.2.1
  have hts := hC.1.2.2.2.2
  have hV : CV e0 g S := ⟨hG, hT, hI.m, hI.k⟩
  have h1 := one_bars S hI.m hI.p hI.s (xs (4 * i + 1)) (xs (4 * i + 2))
  have hkp := kp_bars hI (xs (4 * i + 1)) (xs (4 * i + 2))
  refine lv_aload_n hx hb dL_law_1744 rfl (lv_at hl 1 rfl) ?_
  refine lv_aload_n hx hb dL_law_1745 rfl (lv_at hl 0 rfl) ?_
  refine lv_iload hx hb dL_law_1746 (lv_at hl 4 rfl) ?_
  refine lv_iconst (v := 1) hx hb dL_law_1748 (by decide) ?_
  refine lv_iadd hx hb dL_law_1749 ?_
  refine lc_sld hx hb hX hS 1 (by decide) (by omega) dL_law_1750 ?_
  refine lv_aload_n hx hb dL_law_1751 rfl (lv_at hl 0 rfl) ?_
  refine lv_iload hx hb dL_law_1752 (lv_at hl 4 rfl) ?_
  refine lv_iconst (v := 2) hx hb dL_law_1754 (by decide) ?_
  refine lv_iadd hx hb dL_law_1755 ?_
  refine lc_sld hx hb hX hS 2 (by decide) (by omega) dL_law_1756 ?_
  refine lv_aload_n hx hb dL_law_1757 rfl (lv_at hl 3 rfl) ?_
  refine vx_calli (vx_runSX (As := [.ref (ga g 18 0), .int (xs (4 * i + 1)), .int (xs (4 * i + 2)), .ref oa]) (rest := []) hC.1 (qL_bars l hfl (A7 s.heap.size o oa) D cy g hL S e0 mi (oa + 1) oa (fun q h => a7_new h) (a7_oa ho2) hV hI.z hI.n (xs (4 * i + 1)) (xs (4 * i + 2))) (vx_cwSW 4 hts gL_law_L_bars rfl rfl rfl (by decide +kernel) ⟨Nat.le_of_ble_eq_true rfl, Nat.le_of_ble_eq_true rfl⟩) ⟨LP_blind, fun U hU hW => ⟨rfl, lc_LP C hS hz hM hO hU hW⟩⟩ rfl rfl hl.1 rfl (lv_room (Nat.le_of_ble_eq_true rfl)) dL_law_1758 ⟨hc, hs⟩) hS (fun q _ h => h.elim (a7_sz ho1 ho2) (fun h => by rw [h]; omega)) (fun q h => h.elim (a7_sz ho1 ho2) (fun h => by rw [h]; omega)) (fun q _ h => h.elim) (fun E ce q9 u t H1 locs1 ht hvm hp => False.elim hp) (fun r g1 t H1 locs1 ht hvm hp hB hz1 hk1 hS1 => ?_)
  obtain ⟨hr1, hLG⟩ := hp
  obtain ⟨hM1, v1, hO1, hv1⟩ := hB
  rw [ht] at hM1 hO1
  have hR1 := hR.keptA hML (fun q hq ha => hk1 q hq (a8_a7 ha))
  refine lv_istore (lv' := [(5, .int r), (0, .ref b), (1, .ref (ga g 18 0)), (2, .ref o), (3, .ref oa), (4, .int (nI (4 * i)))]) hx hb dL_law_1761 hl (by decide) rfl (fun ls hl => ?_)
  refine lv_aload_n hx hb dL_law_1763 rfl (lv_at hl 3 rfl) ?_
  refine lv_aload_n hx hb dL_law_1764 rfl (lv_at hl 1 rfl) ?_
  refine lv_iload hx hb dL_law_1765 (lv_at hl 5 rfl) ?_
  refine lv_iconst (v := 1) hx hb dL_law_1767 (by decide) ?_
  refine lv_iadd hx hb dL_law_1768 ?_
  refine lc_sld hx hb hX hS1 1 (by decide) (by omega) dL_law_1769 ?_
  refine lv_aload_n hx hb dL_law_1770 rfl (lv_at hl 1 rfl) ?_
  refine lv_iload hx hb dL_law_1771 (lv_at hl 5 rfl) ?_
  refine lv_iconst (v := 2) hx hb dL_law_1773 (by decide) ?_
  refine lv_iadd hx hb dL_law_1774 ?_
  refine lc_sld hx hb hX hS1 2 (by decide) (by omega) dL_law_1775 ?_
  refine va_calli (va_runV (As := [.int (xs (4 * i + 1)), .int (xs (4 * i + 2))]) (rest := []) hC.1 (qX8_bars l (A8 o oa) D cy o ad hML S th hI.m (xs (4 * i + 1)) (xs (4 * i + 2))) (cwV 2 hts gL_law_X8_bars rfl rfl rfl (by decide +kernel) ⟨Nat.le_of_ble_eq_true rfl, Nat.le_of_ble_eq_true rfl⟩) ⟨MP_blind, va_recv hC.2 (p1 hR1.1) (ci := 9) (q0 := 0) rfl rfl, fun U hU hW => ⟨rfl, by rw [hU]; exact hR1, va_K.moved hW.alike hC.2⟩⟩ rfl rfl hl.1 rfl (lv_room (Nat.le_of_ble_eq_true rfl)) dL_law_1776 ⟨hc, hs⟩) hS1 (fun q _ h => a8_sz ho1 h) (fun q h => a8_sz ho1 h) (fun r2 u2 t2 H2 locs2 ht2 hvm2 hr2 hB2 hz2 hk2 hS2 => ?_)
  rw [ht2] at hB2
  have hM2 := hM1.keptA hLG.1 (fun q hq ha => hk2 q hq (a7_a8 ho2 ha))
  have hO2 : at1 D oa (LA cy v1) H2 := hO1.kept (hk2 oa hO1.lt a8_oa)
  refine lv_istore (lv' := [(6, .int r2), (5, .int r), (0, .ref b), (1, .ref (ga g 18 0)), (2, .ref o), (3, .ref oa), (4, .int (nI (4 * i)))]) hx hb dL_law_1779 hl (by decide) rfl (fun ls hl => ?_)
  refine lv_aload_n hx hb dL_law_1781 rfl (lv_at hl 4 rfl) ?_
  refine va_calli (va_runV (As := []) (rest := []) hC.1 (qX8_thrown l D cy o ad (fX8_bars S (xs (4 * i + 1)) (xs (4 * i + 2))).2.2 (fX8_bars S (xs (4 * i + 1)) (xs (4 * i + 2))).2.1) (cwV 0 hts gL_law_X8_thrown rfl rfl rfl (by decide +kernel) ⟨Nat.le_of_ble_eq_true rfl, Nat.le_of_ble_eq_true rfl⟩) ⟨MP_blind, va_recv hC.2 (p1 hB2.1) (ci := 9) (q0 := 0) rfl rfl, fun U hU hW => ⟨rfl, by rw [hU]; exact hB2, va_K.moved hW.alike hC.2⟩⟩ rfl rfl hl.1 rfl (lv_room (Nat.le_of_ble_eq_true rfl)) dL_law_1782 ⟨hc, hs⟩) hS2 (fun q _ h => h.elim) (fun q h => h.elim) (fun r3 u3 t3 H3 locs3 ht3 hvm3 hr3 _ hz3 hk3 hS3 => ?_)
  have hM3 := hM2.keep (fun q hq => hk3 q hq (fun h => h))
  have hB3 := hB2.keep (fun q hq => hk3 q hq (fun h => h))
  have hO3 : at1 D oa (LA cy v1) H3 := hO2.kept (hk3 oa hO2.lt (fun h => h))
  have hW3 : LW s D cy o ad oa e0 (ga g 18 0) H3 locs3 := lc_fin (x8 := (fX8_bars S (xs (4 * i + 1)) (xs (4 * i + 2)))) (x7 := (fX7_bars S (xs (4 * i + 1)) (xs (4 * i + 2)))) hS3 (Nat.lt_of_lt_of_le hz (Nat.le_trans hz1 (Nat.le_trans hz2 hz3))) hkp h1 hLG hM3 hB3 hO3
  have fin : W p l e room_1 s m #[Value.ref b] below meth c H3 locs3 (cells + 6) (slots + 326) Q (F0 m 1809 ls []) := by
    refine lv_goto (tgt := 2383) hx hb dL_law_1809 (by decide) ?_
    exact kk H3 locs3 ls hW3 (lv_sub hl [2, 3, 4, 5, 6] rfl)
  refine lv_iload hx hb dL_law_1785 (lv_at hl 1 rfl) ?_
  refine lv_icmp_eq (tgt := 1792) hx hb dL_law_1787 (by decide) (fun c1 => ?_) (fun c1 => absurd (hr3.trans (h1.1.trans hr1.symm)) c1)
  refine lv_iload hx hb dL_law_1792 (lv_at hl 1 rfl) ?_
  refine lv_if_ne (tgt := 1809) hx hb dL_law_1794 (by decide) (fun _ => fin) (fun c2 => ?_)
  have hz0 : (fX7_bars S (xs (4 * i + 1)) (xs (4 * i + 2))).2.1 = 0 := mp3_z (hr1.symm.trans c2)
  have e1 := hv1 hz0
  have e2 := h1.2.1 hz0
  refine lv_aload_n hx hb dL_law_1797 rfl (lv_at hl 5 rfl) ?_
  refine lv_iconst (v := 0) hx hb dL_law_1798 (by decide) ?_
  refine lc_lald hx hb hC.2 hO3 dL_law_1799 ?_
  refine lv_iload hx hb dL_law_1800 (lv_at hl 0 rfl) ?_
  refine lv_i2l hx hb dL_law_1802 rfl ?_
  refine W.lcmp hx hb dL_law_1803 ?_
  exact lv_if_eq (tgt := 1809) hx hb dL_law_1804 (by decide) (fun _ => fin) (fun c3 => absurd (lc_cmp (by rw [e1, hr2, e2])) c3)
set_option maxHeartbeats 4000000 in
set_option maxRecDepth 100000 in
theorem lc_first {p : Program} {l : Launch} {e : Env} {s : State} {m : MethodId} {below : List Frame} {meth : Method} {c : Code} {H : Heap} {locs : List Loc} {cells slots : Nat} {Q : State → Prop} {ls : Array Slot} {D : va_G} {cy : Nat → ClassId} {o oa e0 mi b L x0 : Nat} {ad : Nat → Nat} {xs : Nat → Int32} (C : LC p l s m c D cy o ad oa e0 mi b L xs) {i : Nat} (hi : 4 * i + 3 < L) (hW : LW s D cy o ad oa e0 x0 H locs) (hl : lv_has ls 7 [(0, .ref b), (1, .ref x0), (2, .ref o), (3, .ref oa), (4, .int (nI (4 * i)))]) (hc : cells + 6 ≤ 601024) (hs : slots + 326 ≤ 7293033)
    (kk : ∀ (H1 : Heap) (locs1 : List Loc) (ls1 : Array Slot), LW s D cy o ad oa e0 x0 H1 locs1 → lv_has ls1 7 [(0, .ref b), (1, .ref x0), (2, .ref o), (3, .ref oa), (4, .int (nI (4 * i)))] → W p l e room_1 s m #[Value.ref b] below meth c H1 locs1 (cells + 6) (slots + 326) Q (F0 m 2383 ls1 [])) : W p l e room_1 s m #[Value.ref b] below meth c H locs cells slots Q (F0 m 1812 ls []) := by
  obtain ⟨hS, hz, g, S, th, v, hI, ⟨hL, hG, hT, -⟩, h18, hM, hR, hO⟩ := hW
  subst h18
  obtain ⟨hC, hX, hfl, hJ, ⟨ho1, ho2⟩, hML⟩ := id C
  have hx := hC.1.1
  have hb := hC.1.2.1
  have hts := hC.1.2.2.2.2
  have hV : CV e0 g S := ⟨hG, hT, hI.m, hI.k⟩
  have h1 := one_first S hI.m hI.p hI.s (xs (4 * i + 1))
  have hkp := kp_first hI (xs (4 * i + 1))
  refine lv_aload_n hx hb dL_law_1812 rfl (lv_at hl 1 rfl) ?_
  refine lv_aload_n hx hb dL_law_1813 rfl (lv_at hl 0 rfl) ?_
  refine lv_iload hx hb dL_law_1814 (lv_at hl 4 rfl) ?_
  refine lv_iconst (v := 1) hx hb dL_law_1816 (by decide) ?_
  refine lv_iadd hx hb dL_law_1817 ?_
  refine lc_sld hx hb hX hS 1 (by decide) (by omega) dL_law_1818 ?_
  refine lv_aload_n hx hb dL_law_1819 rfl (lv_at hl 3 rfl) ?_
  refine vx_calli (vx_runSX (As := [.ref (ga g 18 0), .int (xs (4 * i + 1)), .ref oa]) (rest := []) hC.1 (qL_first l hfl (A7 s.heap.size o oa) D cy g hL S e0 mi (oa + 1) oa (fun q h => a7_new h) (a7_oa ho2) hV hI.z hI.n (xs (4 * i + 1))) (vx_cwSW 3 hts gL_law_L_first rfl rfl rfl (by decide +kernel) ⟨Nat.le_of_ble_eq_true rfl, Nat.le_of_ble_eq_true rfl⟩) ⟨LP_blind, fun U hU hW => ⟨rfl, lc_LP C hS hz hM hO hU hW⟩⟩ rfl rfl hl.1 rfl (lv_room (Nat.le_of_ble_eq_true rfl)) dL_law_1820 ⟨hc, hs⟩) hS (fun q _ h => h.elim (a7_sz ho1 ho2) (fun h => by rw [h]; omega)) (fun q h => h.elim (a7_sz ho1 ho2) (fun h => by rw [h]; omega)) (fun q _ h => h.elim) (fun E ce q9 u t H1 locs1 ht hvm hp => False.elim hp) (fun r g1 t H1 locs1 ht hvm hp hB hz1 hk1 hS1 => ?_)
  obtain ⟨hr1, hLG⟩ := hp
  obtain ⟨hM1, v1, hO1, hv1⟩ := hB
  rw [ht] at hM1 hO1
  have hR1 := hR.keptA hML (fun q hq ha => hk1 q hq (a8_a7 ha))
  refine lv_istore (lv' := [(5, .int r), (0, .ref b), (1, .ref (ga g 18 0)), (2, .ref o), (3, .ref oa), (4, .int (nI (4 * i)))]) hx hb dL_law_1823 hl (by decide) rfl (fun ls hl => ?_)
  refine lv_aload_n hx hb dL_law_1825 rfl (lv_at hl 3 rfl) ?_
  refine lv_aload_n hx hb dL_law_1826 rfl (lv_at hl 1 rfl) ?_
  refine lv_iload hx hb dL_law_1827 (lv_at hl 5 rfl) ?_
  refine lv_iconst (v := 1) hx hb dL_law_1829 (by decide) ?_
  refine lv_iadd hx hb dL_law_1830 ?_
  refine lc_sld hx hb hX hS1 1 (by decide) (by omega) dL_law_1831 ?_
  refine va_calli (va_runV (As := [.int (xs (4 * i + 1))]) (rest := []) hC.1 (qX8_first l (A8 o oa) D cy o ad hML S th hI.m (xs (4 * i + 1))) (cwV 1 hts gL_law_X8_first rfl rfl rfl (by decide +kernel) ⟨Nat.le_of_ble_eq_true rfl, Nat.le_of_ble_eq_true rfl⟩) ⟨MP_blind, va_recv hC.2 (p1 hR1.1) (ci := 9) (q0 := 0) rfl rfl, fun U hU hW => ⟨rfl, by rw [hU]; exact hR1, va_K.moved hW.alike hC.2⟩⟩ rfl rfl hl.1 rfl (lv_room (Nat.le_of_ble_eq_true rfl)) dL_law_1832 ⟨hc, hs⟩) hS1 (fun q _ h => a8_sz ho1 h) (fun q h => a8_sz ho1 h) (fun r2 u2 t2 H2 locs2 ht2 hvm2 hr2 hB2 hz2 hk2 hS2 => ?_)
  rw [ht2] at hB2
  have hM2 := hM1.keptA hLG.1 (fun q hq ha => hk2 q hq (a7_a8 ho2 ha))
  have hO2 : at1 D oa (LA cy v1) H2 := hO1.kept (hk2 oa hO1.lt a8_oa)
  refine lv_istore (lv' := [(6, .int r2), (5, .int r), (0, .ref b), (1, .ref (ga g 18 0)), (2, .ref o), (3, .ref oa), (4, .int (nI (4 * i)))]) hx hb dL_law_1835 hl (by decide) rfl (fun ls hl => ?_)
  refine lv_aload_n hx hb dL_law_1837 rfl (lv_at hl 4 rfl) ?_
  refine va_calli (va_runV (As := []) (rest := []) hC.1 (qX8_thrown l D cy o ad (fX8_first S (xs (4 * i + 1))).2.2 (fX8_first S (xs (4 * i + 1))).2.1) (cwV 0 hts gL_law_X8_thrown rfl rfl rfl (by decide +kernel) ⟨Nat.le_of_ble_eq_true rfl, Nat.le_of_ble_eq_true rfl⟩) ⟨MP_blind, va_recv hC.2 (p1 hB2.1) (ci := 9) (q0 := 0) rfl rfl, fun U hU hW => ⟨rfl, by rw [hU]; exact hB2, va_K.moved hW.alike hC.2⟩⟩ rfl rfl hl.1 rfl (lv_room (Nat.le_of_ble_eq_true rfl)) dL_law_1838 ⟨hc, hs⟩) hS2 (fun q _ h => h.elim) (fun q h => h.elim) (fun r3 u3 t3 H3 locs3 ht3 hvm3 hr3 _ hz3 hk3 hS3 => ?_)
  have hM3 := hM2.keep (fun q hq => hk3 q hq (fun h => h))
  have hB3 := hB2.keep (fun q hq => hk3 q hq (fun h => h))
  have hO3 : at1 D oa (LA cy v1) H3 := hO2.kept (hk3 oa hO2.lt (fun h => h))
  have hW3 : LW s D cy o ad oa e0 (ga g 18 0) H3 locs3 := lc_fin (x8 := (fX8_first S (xs (4 * i + 1)))) (x7 := (fX7_first S (xs (4 * i + 1)))) hS3 (Nat.lt_of_lt_of_le hz (Nat.le_trans hz1 (Nat.le_trans hz2 hz3))) hkp h1 hLG hM3 hB3 hO3
  have fin : W p l e room_1 s m #[Value.ref b] below meth c H3 locs3 (cells + 6) (slots + 326) Q (F0 m 1865 ls []) := by
    refine lv_goto (tgt := 2383) hx hb dL_law_1865 (by decide) ?_
    exact kk H3 locs3 ls hW3 (lv_sub hl [2, 3, 4, 5, 6] rfl)
  refine lv_iload hx hb dL_law_1841 (lv_at hl 1 rfl) ?_
  refine lv_icmp_eq (tgt := 1848) hx hb dL_law_1843 (by decide) (fun c1 => ?_) (fun c1 => absurd (hr3.trans (h1.1.trans hr1.symm)) c1)
  refine lv_iload hx hb dL_law_1848 (lv_at hl 1 rfl) ?_
  refine lv_if_ne (tgt := 1865) hx hb dL_law_1850 (by decide) (fun _ => fin) (fun c2 => ?_)
  have hz0 : (fX7_first S (xs (4 * i + 1))).2.1 = 0 := mp3_z (hr1.symm.trans c2)
  have e1 := hv1 hz0
  have e2 := h1.2.1 hz0
  refine lv_aload_n hx hb dL_law_1853 rfl (lv_at hl 5 rfl) ?_
  refine lv_iconst (v := 0) hx hb dL_law_1854 (by decide) ?_
  refine lc_lald hx hb hC.2 hO3 dL_law_1855 ?_
  refine lv_iload hx hb dL_law_1856 (lv_at hl 0 rfl) ?_
  refine lv_i2l hx hb dL_law_1858 rfl ?_
  refine W.lcmp hx hb dL_law_1859 ?_
  exact lv_if_eq (tgt := 1865) hx hb dL_law_1860 (by decide) (fun _ => fin) (fun c3 => absurd (lc_cmp (by rw [e1, hr2, e2])) c3)
set_option maxHeartbeats 4000000 in
set_option maxRecDepth 100000 in
theorem lc_firstAnew {p : Program} {l : Launch} {e : Env} {s : State} {m : MethodId} {below : List Frame} {meth : Method} {c : Code} {H : Heap} {locs : List Loc} {cells slots : Nat} {Q : State → Prop} {ls : Array Slot} {D : va_G} {cy : Nat → ClassId} {o oa e0 mi b L x0 : Nat} {ad : Nat → Nat} {xs : Nat → Int32} (C : LC p l s m c D cy o ad oa e0 mi b L xs) {i : Nat} (hi : 4 * i + 3 < L) (hW : LW s D cy o ad oa e0 x0 H locs) (hl : lv_has ls 7 [(0, .ref b), (1, .ref x0), (2, .ref o), (3, .ref oa), (4, .int (nI (4 * i)))]) (hc : cells + 6 ≤ 601024) (hs : slots + 326 ≤ 7293033)
    (kk : ∀ (H1 : Heap) (locs1 : List Loc) (ls1 : Array Slot), LW s D cy o ad oa e0 x0 H1 locs1 → lv_has ls1 7 [(0, .ref b), (1, .ref x0), (2, .ref o), (3, .ref oa), (4, .int (nI (4 * i)))] → W p l e room_1 s m #[Value.ref b] below meth c H1 locs1 (cells + 6) (slots + 326) Q (F0 m 2383 ls1 [])) : W p l e room_1 s m #[Value.ref b] below meth c H locs cells slots Q (F0 m 1868 ls []) := by
  obtain ⟨hS, hz, g, S, th, v, hI, ⟨hL, hG, hT, -⟩, h18, hM, hR, hO⟩ := hW
  subst h18
  obtain ⟨hC, hX, hfl, hJ, ⟨ho1, ho2⟩, hML⟩ := id C
  have hx := hC.1.1
  have hb := hC.1.2.1
  have hts := hC.1.2.2.2.2
  have hV : CV e0 g S := ⟨hG, hT, hI.m, hI.k⟩
  have h1 := one_firstAnew S hI.m hI.p hI.s hI.pd.p (xs (4 * i + 1))
  have hkp := kp_firstAnew hI (xs (4 * i + 1))
  refine lv_aload_n hx hb dL_law_1868 rfl (lv_at hl 1 rfl) ?_
  refine lv_aload_n hx hb dL_law_1869 rfl (lv_at hl 0 rfl) ?_
  refine lv_iload hx hb dL_law_1870 (lv_at hl 4 rfl) ?_
  refine lv_iconst (v := 1) hx hb dL_law_1872 (by decide) ?_
  refine lv_iadd hx hb dL_law_1873 ?_
  refine lc_sld hx hb hX hS 1 (by decide) (by omega) dL_law_1874 ?_
  refine lv_aload_n hx hb dL_law_1875 rfl (lv_at hl 3 rfl) ?_
  refine vx_calli (vx_runSX (As := [.ref (ga g 18 0), .int (xs (4 * i + 1)), .ref oa]) (rest := []) hC.1 (qL_firstAnew l hfl (A7 s.heap.size o oa) D cy g hL S e0 mi (oa + 1) oa (fun q h => a7_new h) (a7_oa ho2) hV hI.z hI.n (xs (4 * i + 1))) (vx_cwSW 3 hts gL_law_L_firstAnew rfl rfl rfl (by decide +kernel) ⟨Nat.le_of_ble_eq_true rfl, Nat.le_of_ble_eq_true rfl⟩) ⟨LP_blind, fun U hU hW => ⟨rfl, lc_LP C hS hz hM hO hU hW⟩⟩ rfl rfl hl.1 rfl (lv_room (Nat.le_of_ble_eq_true rfl)) dL_law_1876 ⟨hc, hs⟩) hS (fun q _ h => h.elim (a7_sz ho1 ho2) (fun h => by rw [h]; omega)) (fun q h => h.elim (a7_sz ho1 ho2) (fun h => by rw [h]; omega)) (fun q _ h => h.elim) (fun E ce q9 u t H1 locs1 ht hvm hp => False.elim hp) (fun r g1 t H1 locs1 ht hvm hp hB hz1 hk1 hS1 => ?_)
  obtain ⟨hr1, hLG⟩ := hp
  obtain ⟨hM1, v1, hO1, hv1⟩ := hB
  rw [ht] at hM1 hO1
  have hR1 := hR.keptA hML (fun q hq ha => hk1 q hq (a8_a7 ha))
  refine lv_istore (lv' := [(5, .int r), (0, .ref b), (1, .ref (ga g 18 0)), (2, .ref o), (3, .ref oa), (4, .int (nI (4 * i)))]) hx hb dL_law_1879 hl (by decide) rfl (fun ls hl => ?_)
  refine lv_aload_n hx hb dL_law_1881 rfl (lv_at hl 3 rfl) ?_
  refine lv_aload_n hx hb dL_law_1882 rfl (lv_at hl 1 rfl) ?_
  refine lv_iload hx hb dL_law_1883 (lv_at hl 5 rfl) ?_
  refine lv_iconst (v := 1) hx hb dL_law_1885 (by decide) ?_
  refine lv_iadd hx hb dL_law_1886 ?_
  refine lc_sld hx hb hX hS1 1 (by decide) (by omega) dL_law_1887 ?_
  refine va_calli (va_runV (As := [.int (xs (4 * i + 1))]) (rest := []) hC.1 (qX8_firstAnew l (A8 o oa) D cy o ad hML S th hI.m (xs (4 * i + 1))) (cwV 1 hts gL_law_X8_firstAnew rfl rfl rfl (by decide +kernel) ⟨Nat.le_of_ble_eq_true rfl, Nat.le_of_ble_eq_true rfl⟩) ⟨MP_blind, va_recv hC.2 (p1 hR1.1) (ci := 9) (q0 := 0) rfl rfl, fun U hU hW => ⟨rfl, by rw [hU]; exact hR1, va_K.moved hW.alike hC.2⟩⟩ rfl rfl hl.1 rfl (lv_room (Nat.le_of_ble_eq_true rfl)) dL_law_1888 ⟨hc, hs⟩) hS1 (fun q _ h => a8_sz ho1 h) (fun q h => a8_sz ho1 h) (fun r2 u2 t2 H2 locs2 ht2 hvm2 hr2 hB2 hz2 hk2 hS2 => ?_)
  rw [ht2] at hB2
  have hM2 := hM1.keptA hLG.1 (fun q hq ha => hk2 q hq (a7_a8 ho2 ha))
  have hO2 : at1 D oa (LA cy v1) H2 := hO1.kept (hk2 oa hO1.lt a8_oa)
  refine lv_istore (lv' := [(6, .int r2), (5, .int r), (0, .ref b), (1, .ref (ga g 18 0)), (2, .ref o), (3, .ref oa), (4, .int (nI (4 * i)))]) hx hb dL_law_1891 hl (by decide) rfl (fun ls hl => ?_)
  refine lv_aload_n hx hb dL_law_1893 rfl (lv_at hl 4 rfl) ?_
  refine va_calli (va_runV (As := []) (rest := []) hC.1 (qX8_thrown l D cy o ad (fX8_firstAnew S (xs (4 * i + 1))).2.2 (fX8_firstAnew S (xs (4 * i + 1))).2.1) (cwV 0 hts gL_law_X8_thrown rfl rfl rfl (by decide +kernel) ⟨Nat.le_of_ble_eq_true rfl, Nat.le_of_ble_eq_true rfl⟩) ⟨MP_blind, va_recv hC.2 (p1 hB2.1) (ci := 9) (q0 := 0) rfl rfl, fun U hU hW => ⟨rfl, by rw [hU]; exact hB2, va_K.moved hW.alike hC.2⟩⟩ rfl rfl hl.1 rfl (lv_room (Nat.le_of_ble_eq_true rfl)) dL_law_1894 ⟨hc, hs⟩) hS2 (fun q _ h => h.elim) (fun q h => h.elim) (fun r3 u3 t3 H3 locs3 ht3 hvm3 hr3 _ hz3 hk3 hS3 => ?_)
  have hM3 := hM2.keep (fun q hq => hk3 q hq (fun h => h))
  have hB3 := hB2.keep (fun q hq => hk3 q hq (fun h => h))
  have hO3 : at1 D oa (LA cy v1) H3 := hO2.kept (hk3 oa hO2.lt (fun h => h))
  have hW3 : LW s D cy o ad oa e0 (ga g 18 0) H3 locs3 := lc_fin (x8 := (fX8_firstAnew S (xs (4 * i + 1)))) (x7 := (fX7_firstAnew S (xs (4 * i + 1)))) hS3 (Nat.lt_of_lt_of_le hz (Nat.le_trans hz1 (Nat.le_trans hz2 hz3))) hkp h1 hLG hM3 hB3 hO3
  have fin : W p l e room_1 s m #[Value.ref b] below meth c H3 locs3 (cells + 6) (slots + 326) Q (F0 m 1921 ls []) := by
    refine lv_goto (tgt := 2383) hx hb dL_law_1921 (by decide) ?_
    exact kk H3 locs3 ls hW3 (lv_sub hl [2, 3, 4, 5, 6] rfl)
  refine lv_iload hx hb dL_law_1897 (lv_at hl 1 rfl) ?_
  refine lv_icmp_eq (tgt := 1904) hx hb dL_law_1899 (by decide) (fun c1 => ?_) (fun c1 => absurd (hr3.trans (h1.1.trans hr1.symm)) c1)
  refine lv_iload hx hb dL_law_1904 (lv_at hl 1 rfl) ?_
  refine lv_if_ne (tgt := 1921) hx hb dL_law_1906 (by decide) (fun _ => fin) (fun c2 => ?_)
  have hz0 : (fX7_firstAnew S (xs (4 * i + 1))).2.1 = 0 := mp3_z (hr1.symm.trans c2)
  have e1 := hv1 hz0
  have e2 := h1.2.1 hz0
  refine lv_aload_n hx hb dL_law_1909 rfl (lv_at hl 5 rfl) ?_
  refine lv_iconst (v := 0) hx hb dL_law_1910 (by decide) ?_
  refine lc_lald hx hb hC.2 hO3 dL_law_1911 ?_
  refine lv_iload hx hb dL_law_1912 (lv_at hl 0 rfl) ?_
  refine lv_i2l hx hb dL_law_1914 rfl ?_
  refine W.lcmp hx hb dL_law_1915 ?_
  exact lv_if_eq (tgt := 1921) hx hb dL_law_1916 (by decide) (fun _ => fin) (fun c3 => absurd (lc_cmp (by rw [e1, hr2, e2])) c3)
