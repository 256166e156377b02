/-! the law's cases, walked -/
set_option maxHeartbeats 4000000 in
set_option maxRecDepth 100000 in
theorem lc_fund {p : Program} {l : Launch} {e : Env} {s : State} {m : MethodId} {below : List Frame} {meth : Method} {c : Code} {H : Heap} {locs : List Loc} {cells slots : Nat} {Q : State → Prop} {ls : Array Slot} {D : va_G} {cy : Nat → ClassId} {o oa e0 mi b L x0 : Nat} {ad : Nat → Nat} {xs : Nat → Int32} (C : LC p l s m c D cy o ad oa e0 mi b L xs) {i : Nat} (hi : 4 * i + 3 < L) (hW : LW s D cy o ad oa e0 x0 H locs) (hl : lv_has ls 7 [(0, .ref b), (1, .ref x0), (2, .ref o), (3, .ref oa), (4, .int (nI (4 * i)))]) (hc : cells + 6 ≤ 601024) (hs : slots + 326 ≤ 7293033)
    (kk : ∀ (H1 : Heap) (locs1 : List Loc) (ls1 : Array Slot), LW s D cy o ad oa e0 x0 H1 locs1 → lv_has ls1 7 [(0, .ref b), (1, .ref x0), (2, .ref o), (3, .ref oa), (4, .int (nI (4 * i)))] → W p l e room_1 s m #[Value.ref b] below meth c H1 locs1 (cells + 6) (slots + 326) Q (F0 m 2383 ls1 [])) : W p l e room_1 s m #[Value.ref b] below meth c H locs cells slots Q (F0 m 184 ls []) := by
  obtain ⟨hS, hz, g, S, th, v, hI, ⟨hL, hG, hT, -⟩, h18, hM, hR, hO⟩ := hW
  subst h18
  obtain ⟨hC, hX, hfl, hJ, ⟨ho1, ho2⟩, hML⟩ := id C
  have hx := hC.1.1
  have hb := hC.1.2.1
  have hts := hC.1.2.2.2.2
  have hV : CV e0 g S := ⟨hG, hT, hI.m, hI.k⟩
  have h1 := one_fund S  (xs (4 * i + 1)) (xs (4 * i + 2))
  have hkp := kp_fund hI (xs (4 * i + 1)) (xs (4 * i + 2))
  refine lv_aload_n hx hb dL_law_184 rfl (lv_at hl 1 rfl) ?_
  refine lv_aload_n hx hb dL_law_185 rfl (lv_at hl 0 rfl) ?_
  refine lv_iload hx hb dL_law_186 (lv_at hl 4 rfl) ?_
  refine lv_iconst (v := 1) hx hb dL_law_188 (by decide) ?_
  refine lv_iadd hx hb dL_law_189 ?_
  refine lc_sld hx hb hX hS 1 (by decide) (by omega) dL_law_190 ?_
  refine lv_aload_n hx hb dL_law_191 rfl (lv_at hl 0 rfl) ?_
  refine lv_iload hx hb dL_law_192 (lv_at hl 4 rfl) ?_
  refine lv_iconst (v := 2) hx hb dL_law_194 (by decide) ?_
  refine lv_iadd hx hb dL_law_195 ?_
  refine lc_sld hx hb hX hS 2 (by decide) (by omega) dL_law_196 ?_
  refine lv_aload_n hx hb dL_law_197 rfl (lv_at hl 3 rfl) ?_
  refine vx_calli (vx_runSX (As := [.ref (ga g 18 0), .int (xs (4 * i + 1)), .int (xs (4 * i + 2)), .ref oa]) (rest := []) hC.1 (qL_fund l hfl (A7 s.heap.size o oa) D cy g hL S e0 mi (oa + 1) oa (fun q h => a7_new h) (a7_oa ho2) hV hI.z hI.n (xs (4 * i + 1)) (xs (4 * i + 2))) (vx_cwSW 4 hts gL_law_L_fund rfl rfl rfl (by decide +kernel) ⟨Nat.le_of_ble_eq_true rfl, Nat.le_of_ble_eq_true rfl⟩) ⟨LP_blind, fun U hU hW => ⟨rfl, lc_LP C hS hz hM hO hU hW⟩⟩ rfl rfl hl.1 rfl (lv_room (Nat.le_of_ble_eq_true rfl)) dL_law_198 ⟨hc, hs⟩) hS (fun q _ h => h.elim (a7_sz ho1 ho2) (fun h => by rw [h]; omega)) (fun q h => h.elim (a7_sz ho1 ho2) (fun h => by rw [h]; omega)) (fun q _ h => h.elim) (fun E ce q9 u t H1 locs1 ht hvm hp => False.elim hp) (fun r g1 t H1 locs1 ht hvm hp hB hz1 hk1 hS1 => ?_)
  obtain ⟨hr1, hLG⟩ := hp
  obtain ⟨hM1, v1, hO1, hv1⟩ := hB
  rw [ht] at hM1 hO1
  have hR1 := hR.keptA hML (fun q hq ha => hk1 q hq (a8_a7 ha))
  refine lv_istore (lv' := [(5, .int r), (0, .ref b), (1, .ref (ga g 18 0)), (2, .ref o), (3, .ref oa), (4, .int (nI (4 * i)))]) hx hb dL_law_201 hl (by decide) rfl (fun ls hl => ?_)
  refine lv_aload_n hx hb dL_law_203 rfl (lv_at hl 3 rfl) ?_
  refine lv_aload_n hx hb dL_law_204 rfl (lv_at hl 1 rfl) ?_
  refine lv_iload hx hb dL_law_205 (lv_at hl 5 rfl) ?_
  refine lv_iconst (v := 1) hx hb dL_law_207 (by decide) ?_
  refine lv_iadd hx hb dL_law_208 ?_
  refine lc_sld hx hb hX hS1 1 (by decide) (by omega) dL_law_209 ?_
  refine lv_aload_n hx hb dL_law_210 rfl (lv_at hl 1 rfl) ?_
  refine lv_iload hx hb dL_law_211 (lv_at hl 5 rfl) ?_
  refine lv_iconst (v := 2) hx hb dL_law_213 (by decide) ?_
  refine lv_iadd hx hb dL_law_214 ?_
  refine lc_sld hx hb hX hS1 2 (by decide) (by omega) dL_law_215 ?_
  refine va_calli (va_runV (As := [.int (xs (4 * i + 1)), .int (xs (4 * i + 2))]) (rest := []) hC.1 (qX8_fund l (A8 o oa) D cy o ad hML S th hI.m (xs (4 * i + 1)) (xs (4 * i + 2))) (cwV 2 hts gL_law_X8_fund rfl rfl rfl (by decide +kernel) ⟨Nat.le_of_ble_eq_true rfl, Nat.le_of_ble_eq_true rfl⟩) ⟨MP_blind, va_recv hC.2 (p1 hR1.1) (ci := 9) (q0 := 0) rfl rfl, fun U hU hW => ⟨rfl, by rw [hU]; exact hR1, va_K.moved hW.alike hC.2⟩⟩ rfl rfl hl.1 rfl (lv_room (Nat.le_of_ble_eq_true rfl)) dL_law_216 ⟨hc, hs⟩) hS1 (fun q _ h => a8_sz ho1 h) (fun q h => a8_sz ho1 h) (fun r2 u2 t2 H2 locs2 ht2 hvm2 hr2 hB2 hz2 hk2 hS2 => ?_)
  rw [ht2] at hB2
  have hM2 := hM1.keptA hLG.1 (fun q hq ha => hk2 q hq (a7_a8 ho2 ha))
  have hO2 : at1 D oa (LA cy v1) H2 := hO1.kept (hk2 oa hO1.lt a8_oa)
  refine lv_istore (lv' := [(6, .int r2), (5, .int r), (0, .ref b), (1, .ref (ga g 18 0)), (2, .ref o), (3, .ref oa), (4, .int (nI (4 * i)))]) hx hb dL_law_219 hl (by decide) rfl (fun ls hl => ?_)
  refine lv_aload_n hx hb dL_law_221 rfl (lv_at hl 4 rfl) ?_
  refine va_calli (va_runV (As := []) (rest := []) hC.1 (qX8_thrown l D cy o ad (fX8_fund S (xs (4 * i + 1)) (xs (4 * i + 2))).2.2 (fX8_fund S (xs (4 * i + 1)) (xs (4 * i + 2))).2.1) (cwV 0 hts gL_law_X8_thrown rfl rfl rfl (by decide +kernel) ⟨Nat.le_of_ble_eq_true rfl, Nat.le_of_ble_eq_true rfl⟩) ⟨MP_blind, va_recv hC.2 (p1 hB2.1) (ci := 9) (q0 := 0) rfl rfl, fun U hU hW => ⟨rfl, by rw [hU]; exact hB2, va_K.moved hW.alike hC.2⟩⟩ rfl rfl hl.1 rfl (lv_room (Nat.le_of_ble_eq_true rfl)) dL_law_222 ⟨hc, hs⟩) hS2 (fun q _ h => h.elim) (fun q h => h.elim) (fun r3 u3 t3 H3 locs3 ht3 hvm3 hr3 _ hz3 hk3 hS3 => ?_)
  have hM3 := hM2.keep (fun q hq => hk3 q hq (fun h => h))
  have hB3 := hB2.keep (fun q hq => hk3 q hq (fun h => h))
  have hO3 : at1 D oa (LA cy v1) H3 := hO2.kept (hk3 oa hO2.lt (fun h => h))
  have hW3 : LW s D cy o ad oa e0 (ga g 18 0) H3 locs3 := lc_fin (x8 := (fX8_fund S (xs (4 * i + 1)) (xs (4 * i + 2)))) (x7 := (fX7_fund S (xs (4 * i + 1)) (xs (4 * i + 2)))) hS3 (Nat.lt_of_lt_of_le hz (Nat.le_trans hz1 (Nat.le_trans hz2 hz3))) hkp h1 hLG hM3 hB3 hO3
  have fin : W p l e room_1 s m #[Value.ref b] below meth c H3 locs3 (cells + 6) (slots + 326) Q (F0 m 249 ls []) := by
    refine lv_goto (tgt := 2383) hx hb dL_law_249 (by decide) ?_
    exact kk H3 locs3 ls hW3 (lv_sub hl [2, 3, 4, 5, 6] rfl)
  refine lv_iload hx hb dL_law_225 (lv_at hl 1 rfl) ?_
  refine lv_icmp_eq (tgt := 232) hx hb dL_law_227 (by decide) (fun c1 => ?_) (fun c1 => absurd (hr3.trans (h1.1.trans hr1.symm)) c1)
  refine lv_iload hx hb dL_law_232 (lv_at hl 1 rfl) ?_
  refine lv_if_ne (tgt := 249) hx hb dL_law_234 (by decide) (fun _ => fin) (fun c2 => ?_)
  have hz0 : (fX7_fund S (xs (4 * i + 1)) (xs (4 * i + 2))).2.1 = 0 := mp3_z (hr1.symm.trans c2)
  have e1 := hv1 hz0
  have e2 := h1.2.1 hz0
  refine lv_aload_n hx hb dL_law_237 rfl (lv_at hl 5 rfl) ?_
  refine lv_iconst (v := 0) hx hb dL_law_238 (by decide) ?_
  refine lc_lald hx hb hC.2 hO3 dL_law_239 ?_
  refine lv_iload hx hb dL_law_240 (lv_at hl 0 rfl) ?_
  refine lv_i2l hx hb dL_law_242 rfl ?_
  refine W.lcmp hx hb dL_law_243 ?_
  exact lv_if_eq (tgt := 249) hx hb dL_law_244 (by decide) (fun _ => fin) (fun c3 => absurd (lc_cmp (by rw [e1, hr2, e2])) c3)
set_option maxHeartbeats 4000000 in
set_option maxRecDepth 100000 in
theorem lc_scheme {p : Program} {l : Launch} {e : Env} {s : State} {m : MethodId} {below : List Frame} {meth : Method} {c : Code} {H : Heap} {locs : List Loc} {cells slots : Nat} {Q : State → Prop} {ls : Array Slot} {D : va_G} {cy : Nat → ClassId} {o oa e0 mi b L x0 : Nat} {ad : Nat → Nat} {xs : Nat → Int32} (C : LC p l s m c D cy o ad oa e0 mi b L xs) {i : Nat} (hi : 4 * i + 3 < L) (hW : LW s D cy o ad oa e0 x0 H locs) (hl : lv_has ls 7 [(0, .ref b), (1, .ref x0), (2, .ref o), (3, .ref oa), (4, .int (nI (4 * i)))]) (hc : cells + 6 ≤ 601024) (hs : slots + 326 ≤ 7293033)
    (kk : ∀ (H1 : Heap) (locs1 : List Loc) (ls1 : Array Slot), LW s D cy o ad oa e0 x0 H1 locs1 → lv_has ls1 7 [(0, .ref b), (1, .ref x0), (2, .ref o), (3, .ref oa), (4, .int (nI (4 * i)))] → W p l e room_1 s m #[Value.ref b] below meth c H1 locs1 (cells + 6) (slots + 326) Q (F0 m 2383 ls1 [])) : W p l e room_1 s m #[Value.ref b] below meth c H locs cells slots Q (F0 m 252 ls []) := by
  obtain ⟨hS, hz, g, S, th, v, hI, ⟨hL, hG, hT, -⟩, h18, hM, hR, hO⟩ := hW
  subst h18
  obtain ⟨hC, hX, hfl, hJ, ⟨ho1, ho2⟩, hML⟩ := id C
  have hx := hC.1.1
  have hb := hC.1.2.1
  have hts := hC.1.2.2.2.2
  have hV : CV e0 g S := ⟨hG, hT, hI.m, hI.k⟩
  have h1 := one_scheme S hI.m (xs (4 * i + 1)) (xs (4 * i + 2)) (xs (4 * i + 3))
  have hkp := kp_scheme hI (xs (4 * i + 1)) (xs (4 * i + 2)) (xs (4 * i + 3))
  refine lv_aload_n hx hb dL_law_252 rfl (lv_at hl 1 rfl) ?_
  refine lv_aload_n hx hb dL_law_253 rfl (lv_at hl 0 rfl) ?_
  refine lv_iload hx hb dL_law_254 (lv_at hl 4 rfl) ?_
  refine lv_iconst (v := 1) hx hb dL_law_256 (by decide) ?_
  refine lv_iadd hx hb dL_law_257 ?_
  refine lc_sld hx hb hX hS 1 (by decide) (by omega) dL_law_258 ?_
  refine lv_aload_n hx hb dL_law_259 rfl (lv_at hl 0 rfl) ?_
  refine lv_iload hx hb dL_law_260 (lv_at hl 4 rfl) ?_
  refine lv_iconst (v := 2) hx hb dL_law_262 (by decide) ?_
  refine lv_iadd hx hb dL_law_263 ?_
  refine lc_sld hx hb hX hS 2 (by decide) (by omega) dL_law_264 ?_
  refine lv_aload_n hx hb dL_law_265 rfl (lv_at hl 0 rfl) ?_
  refine lv_iload hx hb dL_law_266 (lv_at hl 4 rfl) ?_
  refine lv_iconst (v := 3) hx hb dL_law_268 (by decide) ?_
  refine lv_iadd hx hb dL_law_269 ?_
  refine lc_sld hx hb hX hS 3 (by decide) (by omega) dL_law_270 ?_
  refine lv_aload_n hx hb dL_law_271 rfl (lv_at hl 3 rfl) ?_
  refine vx_calli (vx_runSX (As := [.ref (ga g 18 0), .int (xs (4 * i + 1)), .int (xs (4 * i + 2)), .int (xs (4 * i + 3)), .ref oa]) (rest := []) hC.1 (qL_scheme l hfl (A7 s.heap.size o oa) D cy g hL S e0 mi (oa + 1) oa (fun q h => a7_new h) (a7_oa ho2) hV hI.z hI.n (xs (4 * i + 1)) (xs (4 * i + 2)) (xs (4 * i + 3))) (vx_cwSW 5 hts gL_law_L_scheme rfl rfl rfl (by decide +kernel) ⟨Nat.le_of_ble_eq_true rfl, Nat.le_of_ble_eq_true rfl⟩) ⟨LP_blind, fun U hU hW => ⟨rfl, lc_LP C hS hz hM hO hU hW⟩⟩ rfl rfl hl.1 rfl (lv_room (Nat.le_of_ble_eq_true rfl)) dL_law_272 ⟨hc, hs⟩) hS (fun q _ h => h.elim (a7_sz ho1 ho2) (fun h => by rw [h]; omega)) (fun q h => h.elim (a7_sz ho1 ho2) (fun h => by rw [h]; omega)) (fun q _ h => h.elim) (fun E ce q9 u t H1 locs1 ht hvm hp => False.elim hp) (fun r g1 t H1 locs1 ht hvm hp hB hz1 hk1 hS1 => ?_)
  obtain ⟨hr1, hLG⟩ := hp
  obtain ⟨hM1, v1, hO1, hv1⟩ := hB
  rw [ht] at hM1 hO1
  have hR1 := hR.keptA hML (fun q hq ha => hk1 q hq (a8_a7 ha))
  refine lv_istore (lv' := [(5, .int r), (0, .ref b), (1, .ref (ga g 18 0)), (2, .ref o), (3, .ref oa), (4, .int (nI (4 * i)))]) hx hb dL_law_275 hl (by decide) rfl (fun ls hl => ?_)
  refine lv_aload_n hx hb dL_law_277 rfl (lv_at hl 3 rfl) ?_
  refine lv_aload_n hx hb dL_law_278 rfl (lv_at hl 1 rfl) ?_
  refine lv_iload hx hb dL_law_279 (lv_at hl 5 rfl) ?_
  refine lv_iconst (v := 1) hx hb dL_law_281 (by decide) ?_
  refine lv_iadd hx hb dL_law_282 ?_
  refine lc_sld hx hb hX hS1 1 (by decide) (by omega) dL_law_283 ?_
  refine lv_aload_n hx hb dL_law_284 rfl (lv_at hl 1 rfl) ?_
  refine lv_iload hx hb dL_law_285 (lv_at hl 5 rfl) ?_
  refine lv_iconst (v := 2) hx hb dL_law_287 (by decide) ?_
  refine lv_iadd hx hb dL_law_288 ?_
  refine lc_sld hx hb hX hS1 2 (by decide) (by omega) dL_law_289 ?_
  refine lv_aload_n hx hb dL_law_290 rfl (lv_at hl 1 rfl) ?_
  refine lv_iload hx hb dL_law_291 (lv_at hl 5 rfl) ?_
  refine lv_iconst (v := 3) hx hb dL_law_293 (by decide) ?_
  refine lv_iadd hx hb dL_law_294 ?_
  refine lc_sld hx hb hX hS1 3 (by decide) (by omega) dL_law_295 ?_
  refine va_calli (va_runV (As := [.int (xs (4 * i + 1)), .int (xs (4 * i + 2)), .int (xs (4 * i + 3))]) (rest := []) hC.1 (qX8_scheme l (A8 o oa) D cy o ad hML S th hI.m (xs (4 * i + 1)) (xs (4 * i + 2)) (xs (4 * i + 3))) (cwV 3 hts gL_law_X8_scheme rfl rfl rfl (by decide +kernel) ⟨Nat.le_of_ble_eq_true rfl, Nat.le_of_ble_eq_true rfl⟩) ⟨MP_blind, va_recv hC.2 (p1 hR1.1) (ci := 9) (q0 := 0) rfl rfl, fun U hU hW => ⟨rfl, by rw [hU]; exact hR1, va_K.moved hW.alike hC.2⟩⟩ rfl rfl hl.1 rfl (lv_room (Nat.le_of_ble_eq_true rfl)) dL_law_296 ⟨hc, hs⟩) hS1 (fun q _ h => a8_sz ho1 h) (fun q h => a8_sz ho1 h) (fun r2 u2 t2 H2 locs2 ht2 hvm2 hr2 hB2 hz2 hk2 hS2 => ?_)
  rw [ht2] at hB2
  have hM2 := hM1.keptA hLG.1 (fun q hq ha => hk2 q hq (a7_a8 ho2 ha))
  have hO2 : at1 D oa (LA cy v1) H2 := hO1.kept (hk2 oa hO1.lt a8_oa)
  refine lv_istore (lv' := [(6, .int r2), (5, .int r), (0, .ref b), (1, .ref (ga g 18 0)), (2, .ref o), (3, .ref oa), (4, .int (nI (4 * i)))]) hx hb dL_law_299 hl (by decide) rfl (fun ls hl => ?_)
  refine lv_aload_n hx hb dL_law_301 rfl (lv_at hl 4 rfl) ?_
  refine va_calli (va_runV (As := []) (rest := []) hC.1 (qX8_thrown l D cy o ad (fX8_scheme S (xs (4 * i + 1)) (xs (4 * i + 2)) (xs (4 * i + 3))).2.2 (fX8_scheme S (xs (4 * i + 1)) (xs (4 * i + 2)) (xs (4 * i + 3))).2.1) (cwV 0 hts gL_law_X8_thrown rfl rfl rfl (by decide +kernel) ⟨Nat.le_of_ble_eq_true rfl, Nat.le_of_ble_eq_true rfl⟩) ⟨MP_blind, va_recv hC.2 (p1 hB2.1) (ci := 9) (q0 := 0) rfl rfl, fun U hU hW => ⟨rfl, by rw [hU]; exact hB2, va_K.moved hW.alike hC.2⟩⟩ rfl rfl hl.1 rfl (lv_room (Nat.le_of_ble_eq_true rfl)) dL_law_302 ⟨hc, hs⟩) hS2 (fun q _ h => h.elim) (fun q h => h.elim) (fun r3 u3 t3 H3 locs3 ht3 hvm3 hr3 _ hz3 hk3 hS3 => ?_)
  have hM3 := hM2.keep (fun q hq => hk3 q hq (fun h => h))
  have hB3 := hB2.keep (fun q hq => hk3 q hq (fun h => h))
  have hO3 : at1 D oa (LA cy v1) H3 := hO2.kept (hk3 oa hO2.lt (fun h => h))
  have hW3 : LW s D cy o ad oa e0 (ga g 18 0) H3 locs3 := lc_fin (x8 := (fX8_scheme S (xs (4 * i + 1)) (xs (4 * i + 2)) (xs (4 * i + 3)))) (x7 := (fX7_scheme S (xs (4 * i + 1)) (xs (4 * i + 2)) (xs (4 * i + 3)))) hS3 (Nat.lt_of_lt_of_le hz (Nat.le_trans hz1 (Nat.le_trans hz2 hz3))) hkp h1 hLG hM3 hB3 hO3
  have fin : W p l e room_1 s m #[Value.ref b] below meth c H3 locs3 (cells + 6) (slots + 326) Q (F0 m 329 ls []) := by
    refine lv_goto (tgt := 2383) hx hb dL_law_329 (by decide) ?_
    exact kk H3 locs3 ls hW3 (lv_sub hl [2, 3, 4, 5, 6] rfl)
  refine lv_iload hx hb dL_law_305 (lv_at hl 1 rfl) ?_
  refine lv_icmp_eq (tgt := 312) hx hb dL_law_307 (by decide) (fun c1 => ?_) (fun c1 => absurd (hr3.trans (h1.1.trans hr1.symm)) c1)
  refine lv_iload hx hb dL_law_312 (lv_at hl 1 rfl) ?_
  refine lv_if_ne (tgt := 329) hx hb dL_law_314 (by decide) (fun _ => fin) (fun c2 => ?_)
  have hz0 : (fX7_scheme S (xs (4 * i + 1)) (xs (4 * i + 2)) (xs (4 * i + 3))).2.1 = 0 := mp3_z (hr1.symm.trans c2)
  have e1 := hv1 hz0
  have e2 := h1.2.1 hz0
  refine lv_aload_n hx hb dL_law_317 rfl (lv_at hl 5 rfl) ?_
  refine lv_iconst (v := 0) hx hb dL_law_318 (by decide) ?_
  refine lc_lald hx hb hC.2 hO3 dL_law_319 ?_
  refine lv_iload hx hb dL_law_320 (lv_at hl 0 rfl) ?_
  refine lv_i2l hx hb dL_law_322 rfl ?_
  refine W.lcmp hx hb dL_law_323 ?_
  exact lv_if_eq (tgt := 329) hx hb dL_law_324 (by decide) (fun _ => fin) (fun c3 => absurd (lc_cmp (by rw [e1, hr2, e2])) c3)
set_option maxHeartbeats 4000000 in
set_option maxRecDepth 100000 in
theorem lc_claim {p : Program} {l : Launch} {e : Env} {s : State} {m : MethodId} {below : List Frame} {meth : Method} {c : Code} {H : Heap} {locs : List Loc} {cells slots : Nat} {Q : State → Prop} {ls : Array Slot} {D : va_G} {cy : Nat → ClassId} {o oa e0 mi b L x0 : Nat} {ad : Nat → Nat} {xs : Nat → Int32} (C : LC p l s m c D cy o ad oa e0 mi b L xs) {i : Nat} (hi : 4 * i + 3 < L) (hW : LW s D cy o ad oa e0 x0 H locs) (hl : lv_has ls 7 [(0, .ref b), (1, .ref x0), (2, .ref o), (3, .ref oa), (4, .int (nI (4 * i)))]) (hc : cells + 6 ≤ 601024) (hs : slots + 326 ≤ 7293033)
    (kk : ∀ (H1 : Heap) (locs1 : List Loc) (ls1 : Array Slot), LW s D cy o ad oa e0 x0 H1 locs1 → lv_has ls1 7 [(0, .ref b), (1, .ref x0), (2, .ref o), (3, .ref oa), (4, .int (nI (4 * i)))] → W p l e room_1 s m #[Value.ref b] below meth c H1 locs1 (cells + 6) (slots + 326) Q (F0 m 2383 ls1 [])) : W p l e room_1 s m #[Value.ref b] below meth c H locs cells slots Q (F0 m 332 ls []) := by
  obtain ⟨hS, hz, g, S, th, v, hI, ⟨hL, hG, hT, -⟩, h18, hM, hR, hO⟩ := hW
  subst h18
  obtain ⟨hC, hX, hfl, hJ, ⟨ho1, ho2⟩, hML⟩ := id C
  have hx := hC.1.1
  have hb := hC.1.2.1
  have hts := hC.1.2.2.2.2
  have hV : CV e0 g S := ⟨hG, hT, hI.m, hI.k⟩
  have h1 := one_claim S hI.m (xs (4 * i + 1)) (xs (4 * i + 2))
  have hkp := kp_claim hI (xs (4 * i + 1)) (xs (4 * i + 2))
  refine lv_aload_n hx hb dL_law_332 rfl (lv_at hl 1 rfl) ?_
  refine lv_aload_n hx hb dL_law_333 rfl (lv_at hl 0 rfl) ?_
  refine lv_iload hx hb dL_law_334 (lv_at hl 4 rfl) ?_
  refine lv_iconst (v := 1) hx hb dL_law_336 (by decide) ?_
  refine lv_iadd hx hb dL_law_337 ?_
  refine lc_sld hx hb hX hS 1 (by decide) (by omega) dL_law_338 ?_
  refine lv_aload_n hx hb dL_law_339 rfl (lv_at hl 0 rfl) ?_
  refine lv_iload hx hb dL_law_340 (lv_at hl 4 rfl) ?_
  refine lv_iconst (v := 2) hx hb dL_law_342 (by decide) ?_
  refine lv_iadd hx hb dL_law_343 ?_
  refine lc_sld hx hb hX hS 2 (by decide) (by omega) dL_law_344 ?_
  refine lv_aload_n hx hb dL_law_345 rfl (lv_at hl 3 rfl) ?_
  refine vx_calli (vx_runSX (As := [.ref (ga g 18 0), .int (xs (4 * i + 1)), .int (xs (4 * i + 2)), .ref oa]) (rest := []) hC.1 (qL_claim l hfl (A7 s.heap.size o oa) D cy g hL S e0 mi (oa + 1) oa (fun q h => a7_new h) (a7_oa ho2) hV hI.z hI.n (xs (4 * i + 1)) (xs (4 * i + 2))) (vx_cwSW 4 hts gL_law_L_claim rfl rfl rfl (by decide +kernel) ⟨Nat.le_of_ble_eq_true rfl, Nat.le_of_ble_eq_true rfl⟩) ⟨LP_blind, fun U hU hW => ⟨rfl, lc_LP C hS hz hM hO hU hW⟩⟩ rfl rfl hl.1 rfl (lv_room (Nat.le_of_ble_eq_true rfl)) dL_law_346 ⟨hc, hs⟩) hS (fun q _ h => h.elim (a7_sz ho1 ho2) (fun h => by rw [h]; omega)) (fun q h => h.elim (a7_sz ho1 ho2) (fun h => by rw [h]; omega)) (fun q _ h => h.elim) (fun E ce q9 u t H1 locs1 ht hvm hp => False.elim hp) (fun r g1 t H1 locs1 ht hvm hp hB hz1 hk1 hS1 => ?_)
  obtain ⟨hr1, hLG⟩ := hp
  obtain ⟨hM1, v1, hO1, hv1⟩ := hB
  rw [ht] at hM1 hO1
  have hR1 := hR.keptA hML (fun q hq ha => hk1 q hq (a8_a7 ha))
  refine lv_istore (lv' := [(5, .int r), (0, .ref b), (1, .ref (ga g 18 0)), (2, .ref o), (3, .ref oa), (4, .int (nI (4 * i)))]) hx hb dL_law_349 hl (by decide) rfl (fun ls hl => ?_)
  refine lv_aload_n hx hb dL_law_351 rfl (lv_at hl 3 rfl) ?_
  refine lv_aload_n hx hb dL_law_352 rfl (lv_at hl 1 rfl) ?_
  refine lv_iload hx hb dL_law_353 (lv_at hl 5 rfl) ?_
  refine lv_iconst (v := 1) hx hb dL_law_355 (by decide) ?_
  refine lv_iadd hx hb dL_law_356 ?_
  refine lc_sld hx hb hX hS1 1 (by decide) (by omega) dL_law_357 ?_
  refine lv_aload_n hx hb dL_law_358 rfl (lv_at hl 1 rfl) ?_
  refine lv_iload hx hb dL_law_359 (lv_at hl 5 rfl) ?_
  refine lv_iconst (v := 2) hx hb dL_law_361 (by decide) ?_
  refine lv_iadd hx hb dL_law_362 ?_
  refine lc_sld hx hb hX hS1 2 (by decide) (by omega) dL_law_363 ?_
  refine va_calli (va_runV (As := [.int (xs (4 * i + 1)), .int (xs (4 * i + 2))]) (rest := []) hC.1 (qX8_claim l (A8 o oa) D cy o ad hML S th hI.m (xs (4 * i + 1)) (xs (4 * i + 2))) (cwV 2 hts gL_law_X8_claim rfl rfl rfl (by decide +kernel) ⟨Nat.le_of_ble_eq_true rfl, Nat.le_of_ble_eq_true rfl⟩) ⟨MP_blind, va_recv hC.2 (p1 hR1.1) (ci := 9) (q0 := 0) rfl rfl, fun U hU hW => ⟨rfl, by rw [hU]; exact hR1, va_K.moved hW.alike hC.2⟩⟩ rfl rfl hl.1 rfl (lv_room (Nat.le_of_ble_eq_true rfl)) dL_law_364 ⟨hc, hs⟩) hS1 (fun q _ h => a8_sz ho1 h) (fun q h => a8_sz ho1 h) (fun r2 u2 t2 H2 locs2 ht2 hvm2 hr2 hB2 hz2 hk2 hS2 => ?_)
  rw [ht2] at hB2
  have hM2 := hM1.keptA hLG.1 (fun q hq ha => hk2 q hq (a7_a8 ho2 ha))
  have hO2 : at1 D oa (LA cy v1) H2 := hO1.kept (hk2 oa hO1.lt a8_oa)
  refine lv_istore (lv' := [(6, .int r2), (5, .int r), (0, .ref b), (1, .ref (ga g 18 0)), (2, .ref o), (3, .ref oa), (4, .int (nI (4 * i)))]) hx hb dL_law_367 hl (by decide) rfl (fun ls hl => ?_)
  refine lv_aload_n hx hb dL_law_369 rfl (lv_at hl 4 rfl) ?_
  refine va_calli (va_runV (As := []) (rest := []) hC.1 (qX8_thrown l D cy o ad (fX8_claim S (xs (4 * i + 1)) (xs (4 * i + 2))).2.2 (fX8_claim S (xs (4 * i + 1)) (xs (4 * i + 2))).2.1) (cwV 0 hts gL_law_X8_thrown rfl rfl rfl (by decide +kernel) ⟨Nat.le_of_ble_eq_true rfl, Nat.le_of_ble_eq_true rfl⟩) ⟨MP_blind, va_recv hC.2 (p1 hB2.1) (ci := 9) (q0 := 0) rfl rfl, fun U hU hW => ⟨rfl, by rw [hU]; exact hB2, va_K.moved hW.alike hC.2⟩⟩ rfl rfl hl.1 rfl (lv_room (Nat.le_of_ble_eq_true rfl)) dL_law_370 ⟨hc, hs⟩) hS2 (fun q _ h => h.elim) (fun q h => h.elim) (fun r3 u3 t3 H3 locs3 ht3 hvm3 hr3 _ hz3 hk3 hS3 => ?_)
  have hM3 := hM2.keep (fun q hq => hk3 q hq (fun h => h))
  have hB3 := hB2.keep (fun q hq => hk3 q hq (fun h => h))
  have hO3 : at1 D oa (LA cy v1) H3 := hO2.kept (hk3 oa hO2.lt (fun h => h))
  have hW3 : LW s D cy o ad oa e0 (ga g 18 0) H3 locs3 := lc_fin (x8 := (fX8_claim S (xs (4 * i + 1)) (xs (4 * i + 2)))) (x7 := (fX7_claim S (xs (4 * i + 1)) (xs (4 * i + 2)))) hS3 (Nat.lt_of_lt_of_le hz (Nat.le_trans hz1 (Nat.le_trans hz2 hz3))) hkp h1 hLG hM3 hB3 hO3
  have fin : W p l e room_1 s m #[Value.ref b] below meth c H3 locs3 (cells + 6) (slots + 326) Q (F0 m 397 ls []) := by
    refine lv_goto (tgt := 2383) hx hb dL_law_397 (by decide) ?_
    exact kk H3 locs3 ls hW3 (lv_sub hl [2, 3, 4, 5, 6] rfl)
  refine lv_iload hx hb dL_law_373 (lv_at hl 1 rfl) ?_
  refine lv_icmp_eq (tgt := 380) hx hb dL_law_375 (by decide) (fun c1 => ?_) (fun c1 => absurd (hr3.trans (h1.1.trans hr1.symm)) c1)
  refine lv_iload hx hb dL_law_380 (lv_at hl 1 rfl) ?_
  refine lv_if_ne (tgt := 397) hx hb dL_law_382 (by decide) (fun _ => fin) (fun c2 => ?_)
  have hz0 : (fX7_claim S (xs (4 * i + 1)) (xs (4 * i + 2))).2.1 = 0 := mp3_z (hr1.symm.trans c2)
  have e1 := hv1 hz0
  have e2 := h1.2.1 hz0
  refine lv_aload_n hx hb dL_law_385 rfl (lv_at hl 5 rfl) ?_
  refine lv_iconst (v := 0) hx hb dL_law_386 (by decide) ?_
  refine lc_lald hx hb hC.2 hO3 dL_law_387 ?_
  refine lv_iload hx hb dL_law_388 (lv_at hl 0 rfl) ?_
  refine lv_i2l hx hb dL_law_390 rfl ?_
  refine W.lcmp hx hb dL_law_391 ?_
  exact lv_if_eq (tgt := 397) hx hb dL_law_392 (by decide) (fun _ => fin) (fun c3 => absurd (lc_cmp (by rw [e1, hr2, e2])) c3)
set_option maxHeartbeats 4000000 in
set_option maxRecDepth 100000 in
theorem lc_sample {p : Program} {l : Launch} {e : Env} {s : State} {m : MethodId} {below : List Frame} {meth : Method} {c : Code} {H : Heap} {locs : List Loc} {cells slots : Nat} {Q : State → Prop} {ls : Array Slot} {D : va_G} {cy : Nat → ClassId} {o oa e0 mi b L x0 : Nat} {ad : Nat → Nat} {xs : Nat → Int32} (C : LC p l s m c D cy o ad oa e0 mi b L xs) {i : Nat} (hi : 4 * i + 3 < L) (hW : LW s D cy o ad oa e0 x0 H locs) (hl : lv_has ls 7 [(0, .ref b), (1, .ref x0), (2, .ref o), (3, .ref oa), (4, .int (nI (4 * i)))]) (hc : cells + 6 ≤ 601024) (hs : slots + 326 ≤ 7293033)
    (kk : ∀ (H1 : Heap) (locs1 : List Loc) (ls1 : Array Slot), LW s D cy o ad oa e0 x0 H1 locs1 → lv_has ls1 7 [(0, .ref b), (1, .ref x0), (2, .ref o), (3, .ref oa), (4, .int (nI (4 * i)))] → W p l e room_1 s m #[Value.ref b] below meth c H1 locs1 (cells + 6) (slots + 326) Q (F0 m 2383 ls1 [])) : W p l e room_1 s m #[Value.ref b] below meth c H locs cells slots Q (F0 m 400 ls []) := by
  obtain ⟨hS, hz, g, S, th, v, hI, ⟨hL, hG, hT, -⟩, h18, hM, hR, hO⟩ := hW
  subst h18
  obtain ⟨hC, hX, hfl, hJ, ⟨ho1, ho2⟩, hML⟩ := id C
  have hx := hC.1.1
  have hb := hC.1.2.1
  have hts := hC.1.2.2.2.2
  have hV : CV e0 g S := ⟨hG, hT, hI.m, hI.k⟩
  have h1 := one_sample S hI.m (xs (4 * i + 1)) (xs (4 * i + 2)) (xs (4 * i + 3))
  have hkp := kp_sample hI (xs (4 * i + 1)) (xs (4 * i + 2)) (xs (4 * i + 3))
  refine lv_aload_n hx hb dL_law_400 rfl (lv_at hl 1 rfl) ?_
  refine lv_aload_n hx hb dL_law_401 rfl (lv_at hl 0 rfl) ?_
  refine lv_iload hx hb dL_law_402 (lv_at hl 4 rfl) ?_
  refine lv_iconst (v := 1) hx hb dL_law_404 (by decide) ?_
  refine lv_iadd hx hb dL_law_405 ?_
  refine lc_sld hx hb hX hS 1 (by decide) (by omega) dL_law_406 ?_
  refine lv_aload_n hx hb dL_law_407 rfl (lv_at hl 0 rfl) ?_
  refine lv_iload hx hb dL_law_408 (lv_at hl 4 rfl) ?_
  refine lv_iconst (v := 2) hx hb dL_law_410 (by decide) ?_
  refine lv_iadd hx hb dL_law_411 ?_
  refine lc_sld hx hb hX hS 2 (by decide) (by omega) dL_law_412 ?_
  refine lv_aload_n hx hb dL_law_413 rfl (lv_at hl 0 rfl) ?_
  refine lv_iload hx hb dL_law_414 (lv_at hl 4 rfl) ?_
  refine lv_iconst (v := 3) hx hb dL_law_416 (by decide) ?_
  refine lv_iadd hx hb dL_law_417 ?_
  refine lc_sld hx hb hX hS 3 (by decide) (by omega) dL_law_418 ?_
  refine vx_calli (vx_runSX (As := [.ref (ga g 18 0), .int (xs (4 * i + 1)), .int (xs (4 * i + 2)), .int (xs (4 * i + 3))]) (rest := []) hC.1 (qL_sample l hfl (A7 s.heap.size o oa) D cy g hL S e0 mi (oa + 1) oa (fun q h => a7_new h) (a7_oa ho2) hV hI.z hI.n (xs (4 * i + 1)) (xs (4 * i + 2)) (xs (4 * i + 3))) (vx_cwSW 4 hts gL_law_L_sample rfl rfl rfl (by decide +kernel) ⟨Nat.le_of_ble_eq_true rfl, Nat.le_of_ble_eq_true rfl⟩) ⟨LP_blind, fun U hU hW => ⟨rfl, lc_LP C hS hz hM hO hU hW⟩⟩ rfl rfl hl.1 rfl (lv_room (Nat.le_of_ble_eq_true rfl)) dL_law_419 ⟨hc, hs⟩) hS (fun q _ h => h.elim (a7_sz ho1 ho2) (fun h => by rw [h]; omega)) (fun q h => h.elim (a7_sz ho1 ho2) (fun h => by rw [h]; omega)) (fun q _ h => h.elim) (fun E ce q9 u t H1 locs1 ht hvm hp => False.elim hp) (fun r g1 t H1 locs1 ht hvm hp hB hz1 hk1 hS1 => ?_)
  obtain ⟨hr1, hLG⟩ := hp
  obtain ⟨hM1, v1, hO1⟩ := hB
  rw [ht] at hM1 hO1
  have hR1 := hR.keptA hML (fun q hq ha => hk1 q hq (a8_a7 ha))
  refine lv_istore (lv' := [(5, .int r), (0, .ref b), (1, .ref (ga g 18 0)), (2, .ref o), (3, .ref oa), (4, .int (nI (4 * i)))]) hx hb dL_law_422 hl (by decide) rfl (fun ls hl => ?_)
  refine lv_aload_n hx hb dL_law_424 rfl (lv_at hl 3 rfl) ?_
  refine lv_aload_n hx hb dL_law_425 rfl (lv_at hl 1 rfl) ?_
  refine lv_iload hx hb dL_law_426 (lv_at hl 5 rfl) ?_
  refine lv_iconst (v := 1) hx hb dL_law_428 (by decide) ?_
  refine lv_iadd hx hb dL_law_429 ?_
  refine lc_sld hx hb hX hS1 1 (by decide) (by omega) dL_law_430 ?_
  refine lv_aload_n hx hb dL_law_431 rfl (lv_at hl 1 rfl) ?_
  refine lv_iload hx hb dL_law_432 (lv_at hl 5 rfl) ?_
  refine lv_iconst (v := 2) hx hb dL_law_434 (by decide) ?_
  refine lv_iadd hx hb dL_law_435 ?_
  refine lc_sld hx hb hX hS1 2 (by decide) (by omega) dL_law_436 ?_
  refine lv_aload_n hx hb dL_law_437 rfl (lv_at hl 1 rfl) ?_
  refine lv_iload hx hb dL_law_438 (lv_at hl 5 rfl) ?_
  refine lv_iconst (v := 3) hx hb dL_law_440 (by decide) ?_
  refine lv_iadd hx hb dL_law_441 ?_
  refine lc_sld hx hb hX hS1 3 (by decide) (by omega) dL_law_442 ?_
  refine va_callv (va_runV (As := [.int (xs (4 * i + 1)), .int (xs (4 * i + 2)), .int (xs (4 * i + 3))]) (rest := []) hC.1 (qX8_sample l (A8 o oa) D cy o ad hML S th hI.m (xs (4 * i + 1)) (xs (4 * i + 2)) (xs (4 * i + 3))) (cwV 3 hts gL_law_X8_sample rfl rfl rfl (by decide +kernel) ⟨Nat.le_of_ble_eq_true rfl, Nat.le_of_ble_eq_true rfl⟩) ⟨MP_blind, va_recv hC.2 (p1 hR1.1) (ci := 9) (q0 := 0) rfl rfl, fun U hU hW => ⟨rfl, by rw [hU]; exact hR1, va_K.moved hW.alike hC.2⟩⟩ rfl rfl hl.1 rfl (lv_room (Nat.le_of_ble_eq_true rfl)) dL_law_443 ⟨hc, hs⟩) hS1 (fun q _ h => a8_sz ho1 h) (fun q h => a8_sz ho1 h) (fun u2 t2 H2 locs2 ht2 hvm2 hr2 hB2 hz2 hk2 hS2 => ?_)
  rw [ht2] at hB2
  have hM2 := hM1.keptA hLG.1 (fun q hq ha => hk2 q hq (a7_a8 ho2 ha))
  have hO2 : at1 D oa (LA cy v1) H2 := hO1.kept (hk2 oa hO1.lt a8_oa)
  refine lv_aload_n hx hb dL_law_446 rfl (lv_at hl 3 rfl) ?_
  refine va_calli (va_runV (As := []) (rest := []) hC.1 (qX8_thrown l D cy o ad (fX8_sample S (xs (4 * i + 1)) (xs (4 * i + 2)) (xs (4 * i + 3))).2 (fX8_sample S (xs (4 * i + 1)) (xs (4 * i + 2)) (xs (4 * i + 3))).1) (cwV 0 hts gL_law_X8_thrown rfl rfl rfl (by decide +kernel) ⟨Nat.le_of_ble_eq_true rfl, Nat.le_of_ble_eq_true rfl⟩) ⟨MP_blind, va_recv hC.2 (p1 hB2.1) (ci := 9) (q0 := 0) rfl rfl, fun U hU hW => ⟨rfl, by rw [hU]; exact hB2, va_K.moved hW.alike hC.2⟩⟩ rfl rfl hl.1 rfl (lv_room (Nat.le_of_ble_eq_true rfl)) dL_law_447 ⟨hc, hs⟩) hS2 (fun q _ h => h.elim) (fun q h => h.elim) (fun r3 u3 t3 H3 locs3 ht3 hvm3 hr3 _ hz3 hk3 hS3 => ?_)
  have hM3 := hM2.keep (fun q hq => hk3 q hq (fun h => h))
  have hB3 := hB2.keep (fun q hq => hk3 q hq (fun h => h))
  have hO3 : at1 D oa (LA cy v1) H3 := hO2.kept (hk3 oa hO2.lt (fun h => h))
  have hW3 : LW s D cy o ad oa e0 (ga g 18 0) H3 locs3 := lc_fin (x8 := (0, (fX8_sample S (xs (4 * i + 1)) (xs (4 * i + 2)) (xs (4 * i + 3))).1, (fX8_sample S (xs (4 * i + 1)) (xs (4 * i + 2)) (xs (4 * i + 3))).2)) (x7 := (fX7_sample S (xs (4 * i + 1)) (xs (4 * i + 2)) (xs (4 * i + 3)))) hS3 (Nat.lt_of_lt_of_le hz (Nat.le_trans hz1 (Nat.le_trans hz2 hz3))) hkp h1 hLG hM3 hB3 hO3
  have fin : W p l e room_1 s m #[Value.ref b] below meth c H3 locs3 (cells + 6) (slots + 326) Q (F0 m 457 ls []) := by
    refine lv_goto (tgt := 2383) hx hb dL_law_457 (by decide) ?_
    exact kk H3 locs3 ls hW3 (lv_sub hl [1, 2, 3, 4, 5] rfl)
  refine lv_iload hx hb dL_law_450 (lv_at hl 0 rfl) ?_
  refine lv_icmp_eq (tgt := 457) hx hb dL_law_452 (by decide) (fun c1 => ?_) (fun c1 => absurd (hr3.trans (h1.1.trans hr1.symm)) c1)
  exact fin
set_option maxHeartbeats 4000000 in
set_option maxRecDepth 100000 in
theorem lc_learn {p : Program} {l : Launch} {e : Env} {s : State} {m : MethodId} {below : List Frame} {meth : Method} {c : Code} {H : Heap} {locs : List Loc} {cells slots : Nat} {Q : State → Prop} {ls : Array Slot} {D : va_G} {cy : Nat → ClassId} {o oa e0 mi b L x0 : Nat} {ad : Nat → Nat} {xs : Nat → Int32} (C : LC p l s m c D cy o ad oa e0 mi b L xs) {i : Nat} (hi : 4 * i + 3 < L) (hW : LW s D cy o ad oa e0 x0 H locs) (hl : lv_has ls 7 [(0, .ref b), (1, .ref x0), (2, .ref o), (3, .ref oa), (4, .int (nI (4 * i)))]) (hc : cells + 6 ≤ 601024) (hs : slots + 326 ≤ 7293033)
    (kk : ∀ (H1 : Heap) (locs1 : List Loc) (ls1 : Array Slot), LW s D cy o ad oa e0 x0 H1 locs1 → lv_has ls1 7 [(0, .ref b), (1, .ref x0), (2, .ref o), (3, .ref oa), (4, .int (nI (4 * i)))] → W p l e room_1 s m #[Value.ref b] below meth c H1 locs1 (cells + 6) (slots + 326) Q (F0 m 2383 ls1 [])) : W p l e room_1 s m #[Value.ref b] below meth c H locs cells slots Q (F0 m 460 ls []) := by
  obtain ⟨hS, hz, g, S, th, v, hI, ⟨hL, hG, hT, -⟩, h18, hM, hR, hO⟩ := hW
  subst h18
  obtain ⟨hC, hX, hfl, hJ, ⟨ho1, ho2⟩, hML⟩ := id C
  have hx := hC.1.1
  have hb := hC.1.2.1
  have hts := hC.1.2.2.2.2
  have hV : CV e0 g S := ⟨hG, hT, hI.m, hI.k⟩
  have h1 := one_learn S hI.m hI.b (xs (4 * i + 1)) (xs (4 * i + 2))
  have hkp := kp_learn hI (xs (4 * i + 1)) (xs (4 * i + 2))
  refine lv_aload_n hx hb dL_law_460 rfl (lv_at hl 1 rfl) ?_
  refine lv_aload_n hx hb dL_law_461 rfl (lv_at hl 0 rfl) ?_
  refine lv_iload hx hb dL_law_462 (lv_at hl 4 rfl) ?_
  refine lv_iconst (v := 1) hx hb dL_law_464 (by decide) ?_
  refine lv_iadd hx hb dL_law_465 ?_
  refine lc_sld hx hb hX hS 1 (by decide) (by omega) dL_law_466 ?_
  refine lv_aload_n hx hb dL_law_467 rfl (lv_at hl 0 rfl) ?_
  refine lv_iload hx hb dL_law_468 (lv_at hl 4 rfl) ?_
  refine lv_iconst (v := 2) hx hb dL_law_470 (by decide) ?_
  refine lv_iadd hx hb dL_law_471 ?_
  refine lc_sld hx hb hX hS 2 (by decide) (by omega) dL_law_472 ?_
  refine lv_aload_n hx hb dL_law_473 rfl (lv_at hl 3 rfl) ?_
  refine vx_calli (vx_runSX (As := [.ref (ga g 18 0), .int (xs (4 * i + 1)), .int (xs (4 * i + 2)), .ref oa]) (rest := []) hC.1 (qL_learn l hfl (A7 s.heap.size o oa) D cy g hL S e0 mi (oa + 1) oa (fun q h => a7_new h) (a7_oa ho2) hV hI.z hI.n (xs (4 * i + 1)) (xs (4 * i + 2))) (vx_cwSW 4 hts gL_law_L_learn rfl rfl rfl (by decide +kernel) ⟨Nat.le_of_ble_eq_true rfl, Nat.le_of_ble_eq_true rfl⟩) ⟨LP_blind, fun U hU hW => ⟨rfl, lc_LP C hS hz hM hO hU hW⟩⟩ rfl rfl hl.1 rfl (lv_room (Nat.le_of_ble_eq_true rfl)) dL_law_474 ⟨hc, hs⟩) hS (fun q _ h => h.elim (a7_sz ho1 ho2) (fun h => by rw [h]; omega)) (fun q h => h.elim (a7_sz ho1 ho2) (fun h => by rw [h]; omega)) (fun q _ h => h.elim) (fun E ce q9 u t H1 locs1 ht hvm hp => False.elim hp) (fun r g1 t H1 locs1 ht hvm hp hB hz1 hk1 hS1 => ?_)
  obtain ⟨hr1, hLG⟩ := hp
  obtain ⟨hM1, v1, hO1, hv1⟩ := hB
  rw [ht] at hM1 hO1
  have hR1 := hR.keptA hML (fun q hq ha => hk1 q hq (a8_a7 ha))
  refine lv_istore (lv' := [(5, .int r), (0, .ref b), (1, .ref (ga g 18 0)), (2, .ref o), (3, .ref oa), (4, .int (nI (4 * i)))]) hx hb dL_law_477 hl (by decide) rfl (fun ls hl => ?_)
  refine lv_aload_n hx hb dL_law_479 rfl (lv_at hl 3 rfl) ?_
  refine lv_aload_n hx hb dL_law_480 rfl (lv_at hl 1 rfl) ?_
  refine lv_iload hx hb dL_law_481 (lv_at hl 5 rfl) ?_
  refine lv_iconst (v := 1) hx hb dL_law_483 (by decide) ?_
  refine lv_iadd hx hb dL_law_484 ?_
  refine lc_sld hx hb hX hS1 1 (by decide) (by omega) dL_law_485 ?_
  refine lv_aload_n hx hb dL_law_486 rfl (lv_at hl 1 rfl) ?_
  refine lv_iload hx hb dL_law_487 (lv_at hl 5 rfl) ?_
  refine lv_iconst (v := 2) hx hb dL_law_489 (by decide) ?_
  refine lv_iadd hx hb dL_law_490 ?_
  refine lc_sld hx hb hX hS1 2 (by decide) (by omega) dL_law_491 ?_
  refine va_calli (va_runV (As := [.int (xs (4 * i + 1)), .int (xs (4 * i + 2))]) (rest := []) hC.1 (qX8_learn l (A8 o oa) D cy o ad hML S th hI.m (xs (4 * i + 1)) (xs (4 * i + 2))) (cwV 2 hts gL_law_X8_learn rfl rfl rfl (by decide +kernel) ⟨Nat.le_of_ble_eq_true rfl, Nat.le_of_ble_eq_true rfl⟩) ⟨MP_blind, va_recv hC.2 (p1 hR1.1) (ci := 9) (q0 := 0) rfl rfl, fun U hU hW => ⟨rfl, by rw [hU]; exact hR1, va_K.moved hW.alike hC.2⟩⟩ rfl rfl hl.1 rfl (lv_room (Nat.le_of_ble_eq_true rfl)) dL_law_492 ⟨hc, hs⟩) hS1 (fun q _ h => a8_sz ho1 h) (fun q h => a8_sz ho1 h) (fun r2 u2 t2 H2 locs2 ht2 hvm2 hr2 hB2 hz2 hk2 hS2 => ?_)
  rw [ht2] at hB2
  have hM2 := hM1.keptA hLG.1 (fun q hq ha => hk2 q hq (a7_a8 ho2 ha))
  have hO2 : at1 D oa (LA cy v1) H2 := hO1.kept (hk2 oa hO1.lt a8_oa)
  refine lv_istore (lv' := [(6, .int r2), (5, .int r), (0, .ref b), (1, .ref (ga g 18 0)), (2, .ref o), (3, .ref oa), (4, .int (nI (4 * i)))]) hx hb dL_law_495 hl (by decide) rfl (fun ls hl => ?_)
  refine lv_aload_n hx hb dL_law_497 rfl (lv_at hl 4 rfl) ?_
  refine va_calli (va_runV (As := []) (rest := []) hC.1 (qX8_thrown l D cy o ad (fX8_learn S (xs (4 * i + 1)) (xs (4 * i + 2))).2.2 (fX8_learn S (xs (4 * i + 1)) (xs (4 * i + 2))).2.1) (cwV 0 hts gL_law_X8_thrown rfl rfl rfl (by decide +kernel) ⟨Nat.le_of_ble_eq_true rfl, Nat.le_of_ble_eq_true rfl⟩) ⟨MP_blind, va_recv hC.2 (p1 hB2.1) (ci := 9) (q0 := 0) rfl rfl, fun U hU hW => ⟨rfl, by rw [hU]; exact hB2, va_K.moved hW.alike hC.2⟩⟩ rfl rfl hl.1 rfl (lv_room (Nat.le_of_ble_eq_true rfl)) dL_law_498 ⟨hc, hs⟩) hS2 (fun q _ h => h.elim) (fun q h => h.elim) (fun r3 u3 t3 H3 locs3 ht3 hvm3 hr3 _ hz3 hk3 hS3 => ?_)
  have hM3 := hM2.keep (fun q hq => hk3 q hq (fun h => h))
  have hB3 := hB2.keep (fun q hq => hk3 q hq (fun h => h))
  have hO3 : at1 D oa (LA cy v1) H3 := hO2.kept (hk3 oa hO2.lt (fun h => h))
  have hW3 : LW s D cy o ad oa e0 (ga g 18 0) H3 locs3 := lc_fin (x8 := (fX8_learn S (xs (4 * i + 1)) (xs (4 * i + 2)))) (x7 := (fX7_learn S (xs (4 * i + 1)) (xs (4 * i + 2)))) hS3 (Nat.lt_of_lt_of_le hz (Nat.le_trans hz1 (Nat.le_trans hz2 hz3))) hkp h1 hLG hM3 hB3 hO3
  have fin : W p l e room_1 s m #[Value.ref b] below meth c H3 locs3 (cells + 6) (slots + 326) Q (F0 m 525 ls []) := by
    refine lv_goto (tgt := 2383) hx hb dL_law_525 (by decide) ?_
    exact kk H3 locs3 ls hW3 (lv_sub hl [2, 3, 4, 5, 6] rfl)
  refine lv_iload hx hb dL_law_501 (lv_at hl 1 rfl) ?_
  refine lv_icmp_eq (tgt := 508) hx hb dL_law_503 (by decide) (fun c1 => ?_) (fun c1 => absurd (hr3.trans (h1.1.trans hr1.symm)) c1)
  refine lv_iload hx hb dL_law_508 (lv_at hl 1 rfl) ?_
  refine lv_if_ne (tgt := 525) hx hb dL_law_510 (by decide) (fun _ => fin) (fun c2 => ?_)
  have hz0 : (fX7_learn S (xs (4 * i + 1)) (xs (4 * i + 2))).2.1 = 0 := mp3_z (hr1.symm.trans c2)
  have e1 := hv1 hz0
  have e2 := h1.2.1 hz0
  refine lv_aload_n hx hb dL_law_513 rfl (lv_at hl 5 rfl) ?_
  refine lv_iconst (v := 0) hx hb dL_law_514 (by decide) ?_
  refine lc_lald hx hb hC.2 hO3 dL_law_515 ?_
  refine lv_iload hx hb dL_law_516 (lv_at hl 0 rfl) ?_
  refine lv_i2l hx hb dL_law_518 rfl ?_
  refine W.lcmp hx hb dL_law_519 ?_
  exact lv_if_eq (tgt := 525) hx hb dL_law_520 (by decide) (fun _ => fin) (fun c3 => absurd (lc_cmp (by rw [e1, hr2, e2])) c3)
set_option maxHeartbeats 4000000 in
set_option maxRecDepth 100000 in
theorem lc_publish {p : Program} {l : Launch} {e : Env} {s : State} {m : MethodId} {below : List Frame} {meth : Method} {c : Code} {H : Heap} {locs : List Loc} {cells slots : Nat} {Q : State → Prop} {ls : Array Slot} {D : va_G} {cy : Nat → ClassId} {o oa e0 mi b L x0 : Nat} {ad : Nat → Nat} {xs : Nat → Int32} (C : LC p l s m c D cy o ad oa e0 mi b L xs) {i : Nat} (hi : 4 * i + 3 < L) (hW : LW s D cy o ad oa e0 x0 H locs) (hl : lv_has ls 7 [(0, .ref b), (1, .ref x0), (2, .ref o), (3, .ref oa), (4, .int (nI (4 * i)))]) (hc : cells + 6 ≤ 601024) (hs : slots + 326 ≤ 7293033)
    (kk : ∀ (H1 : Heap) (locs1 : List Loc) (ls1 : Array Slot), LW s D cy o ad oa e0 x0 H1 locs1 → lv_has ls1 7 [(0, .ref b), (1, .ref x0), (2, .ref o), (3, .ref oa), (4, .int (nI (4 * i)))] → W p l e room_1 s m #[Value.ref b] below meth c H1 locs1 (cells + 6) (slots + 326) Q (F0 m 2383 ls1 [])) : W p l e room_1 s m #[Value.ref b] below meth c H locs cells slots Q (F0 m 528 ls []) := by
  obtain ⟨hS, hz, g, S, th, v, hI, ⟨hL, hG, hT, -⟩, h18, hM, hR, hO⟩ := hW
  subst h18
  obtain ⟨hC, hX, hfl, hJ, ⟨ho1, ho2⟩, hML⟩ := id C
  have hx := hC.1.1
  have hb := hC.1.2.1
  have hts := hC.1.2.2.2.2
  have hV : CV e0 g S := ⟨hG, hT, hI.m, hI.k⟩
  have h1 := one_publish S hI.m (xs (4 * i + 1))
  have hkp := kp_publish hI (xs (4 * i + 1))
  refine lv_aload_n hx hb dL_law_528 rfl (lv_at hl 1 rfl) ?_
  refine lv_aload_n hx hb dL_law_529 rfl (lv_at hl 0 rfl) ?_
  refine lv_iload hx hb dL_law_530 (lv_at hl 4 rfl) ?_
  refine lv_iconst (v := 1) hx hb dL_law_532 (by decide) ?_
  refine lv_iadd hx hb dL_law_533 ?_
  refine lc_sld hx hb hX hS 1 (by decide) (by omega) dL_law_534 ?_
  refine lv_aload_n hx hb dL_law_535 rfl (lv_at hl 3 rfl) ?_
  refine vx_calli (vx_runSX (As := [.ref (ga g 18 0), .int (xs (4 * i + 1)), .ref oa]) (rest := []) hC.1 (qL_publish l hfl (A7 s.heap.size o oa) D cy g hL S e0 mi (oa + 1) oa (fun q h => a7_new h) (a7_oa ho2) hV hI.z hI.n (xs (4 * i + 1))) (vx_cwSW 3 hts gL_law_L_publish rfl rfl rfl (by decide +kernel) ⟨Nat.le_of_ble_eq_true rfl, Nat.le_of_ble_eq_true rfl⟩) ⟨LP_blind, fun U hU hW => ⟨rfl, lc_LP C hS hz hM hO hU hW⟩⟩ rfl rfl hl.1 rfl (lv_room (Nat.le_of_ble_eq_true rfl)) dL_law_536 ⟨hc, hs⟩) hS (fun q _ h => h.elim (a7_sz ho1 ho2) (fun h => by rw [h]; omega)) (fun q h => h.elim (a7_sz ho1 ho2) (fun h => by rw [h]; omega)) (fun q _ h => h.elim) (fun E ce q9 u t H1 locs1 ht hvm hp => False.elim hp) (fun r g1 t H1 locs1 ht hvm hp hB hz1 hk1 hS1 => ?_)
  obtain ⟨hr1, hLG⟩ := hp
  obtain ⟨hM1, v1, hO1, hv1⟩ := hB
  rw [ht] at hM1 hO1
  have hR1 := hR.keptA hML (fun q hq ha => hk1 q hq (a8_a7 ha))
  refine lv_istore (lv' := [(5, .int r), (0, .ref b), (1, .ref (ga g 18 0)), (2, .ref o), (3, .ref oa), (4, .int (nI (4 * i)))]) hx hb dL_law_539 hl (by decide) rfl (fun ls hl => ?_)
  refine lv_aload_n hx hb dL_law_541 rfl (lv_at hl 3 rfl) ?_
  refine lv_aload_n hx hb dL_law_542 rfl (lv_at hl 1 rfl) ?_
  refine lv_iload hx hb dL_law_543 (lv_at hl 5 rfl) ?_
  refine lv_iconst (v := 1) hx hb dL_law_545 (by decide) ?_
  refine lv_iadd hx hb dL_law_546 ?_
  refine lc_sld hx hb hX hS1 1 (by decide) (by omega) dL_law_547 ?_
  refine va_calli (va_runV (As := [.int (xs (4 * i + 1))]) (rest := []) hC.1 (qX8_publish l (A8 o oa) D cy o ad hML S th hI.m (xs (4 * i + 1))) (cwV 1 hts gL_law_X8_publish rfl rfl rfl (by decide +kernel) ⟨Nat.le_of_ble_eq_true rfl, Nat.le_of_ble_eq_true rfl⟩) ⟨MP_blind, va_recv hC.2 (p1 hR1.1) (ci := 9) (q0 := 0) rfl rfl, fun U hU hW => ⟨rfl, by rw [hU]; exact hR1, va_K.moved hW.alike hC.2⟩⟩ rfl rfl hl.1 rfl (lv_room (Nat.le_of_ble_eq_true rfl)) dL_law_548 ⟨hc, hs⟩) hS1 (fun q _ h => a8_sz ho1 h) (fun q h => a8_sz ho1 h) (fun r2 u2 t2 H2 locs2 ht2 hvm2 hr2 hB2 hz2 hk2 hS2 => ?_)
  rw [ht2] at hB2
  have hM2 := hM1.keptA hLG.1 (fun q hq ha => hk2 q hq (a7_a8 ho2 ha))
  have hO2 : at1 D oa (LA cy v1) H2 := hO1.kept (hk2 oa hO1.lt a8_oa)
  refine lv_istore (lv' := [(6, .int r2), (5, .int r), (0, .ref b), (1, .ref (ga g 18 0)), (2, .ref o), (3, .ref oa), (4, .int (nI (4 * i)))]) hx hb dL_law_551 hl (by decide) rfl (fun ls hl => ?_)
  refine lv_aload_n hx hb dL_law_553 rfl (lv_at hl 4 rfl) ?_
  refine va_calli (va_runV (As := []) (rest := []) hC.1 (qX8_thrown l D cy o ad (fX8_publish S (xs (4 * i + 1))).2.2 (fX8_publish S (xs (4 * i + 1))).2.1) (cwV 0 hts gL_law_X8_thrown rfl rfl rfl (by decide +kernel) ⟨Nat.le_of_ble_eq_true rfl, Nat.le_of_ble_eq_true rfl⟩) ⟨MP_blind, va_recv hC.2 (p1 hB2.1) (ci := 9) (q0 := 0) rfl rfl, fun U hU hW => ⟨rfl, by rw [hU]; exact hB2, va_K.moved hW.alike hC.2⟩⟩ rfl rfl hl.1 rfl (lv_room (Nat.le_of_ble_eq_true rfl)) dL_law_554 ⟨hc, hs⟩) hS2 (fun q _ h => h.elim) (fun q h => h.elim) (fun r3 u3 t3 H3 locs3 ht3 hvm3 hr3 _ hz3 hk3 hS3 => ?_)
  have hM3 := hM2.keep (fun q hq => hk3 q hq (fun h => h))
  have hB3 := hB2.keep (fun q hq => hk3 q hq (fun h => h))
  have hO3 : at1 D oa (LA cy v1) H3 := hO2.kept (hk3 oa hO2.lt (fun h => h))
  have hW3 : LW s D cy o ad oa e0 (ga g 18 0) H3 locs3 := lc_fin (x8 := (fX8_publish S (xs (4 * i + 1)))) (x7 := (fX7_publish S (xs (4 * i + 1)))) hS3 (Nat.lt_of_lt_of_le hz (Nat.le_trans hz1 (Nat.le_trans hz2 hz3))) hkp h1 hLG hM3 hB3 hO3
  have fin : W p l e room_1 s m #[Value.ref b] below meth c H3 locs3 (cells + 6) (slots + 326) Q (F0 m 581 ls []) := by
    refine lv_goto (tgt := 2383) hx hb dL_law_581 (by decide) ?_
    exact kk H3 locs3 ls hW3 (lv_sub hl [2, 3, 4, 5, 6] rfl)
  refine lv_iload hx hb dL_law_557 (lv_at hl 1 rfl) ?_
  refine lv_icmp_eq (tgt := 564) hx hb dL_law_559 (by decide) (fun c1 => ?_) (fun c1 => absurd (hr3.trans (h1.1.trans hr1.symm)) c1)
  refine lv_iload hx hb dL_law_564 (lv_at hl 1 rfl) ?_
  refine lv_if_ne (tgt := 581) hx hb dL_law_566 (by decide) (fun _ => fin) (fun c2 => ?_)
  have hz0 : (fX7_publish S (xs (4 * i + 1))).2.1 = 0 := mp3_z (hr1.symm.trans c2)
  have e1 := hv1 hz0
  have e2 := h1.2.1 hz0
  refine lv_aload_n hx hb dL_law_569 rfl (lv_at hl 5 rfl) ?_
  refine lv_iconst (v := 0) hx hb dL_law_570 (by decide) ?_
  refine lc_lald hx hb hC.2 hO3 dL_law_571 ?_
  refine lv_iload hx hb dL_law_572 (lv_at hl 0 rfl) ?_
  refine lv_i2l hx hb dL_law_574 rfl ?_
  refine W.lcmp hx hb dL_law_575 ?_
  exact lv_if_eq (tgt := 581) hx hb dL_law_576 (by decide) (fun _ => fin) (fun c3 => absurd (lc_cmp (by rw [e1, hr2, e2])) c3)
set_option maxHeartbeats 4000000 in
set_option maxRecDepth 100000 in
theorem lc_plan {p : Program} {l : Launch} {e : Env} {s : State} {m : MethodId} {below : List Frame} {meth : Method} {c : Code} {H : Heap} {locs : List Loc} {cells slots : Nat} {Q : State → Prop} {ls : Array Slot} {D : va_G} {cy : Nat → ClassId} {o oa e0 mi b L x0 : Nat} {ad : Nat → Nat} {xs : Nat → Int32} (C : LC p l s m c D cy o ad oa e0 mi b L xs) {i : Nat} (hi : 4 * i + 3 < L) (hW : LW s D cy o ad oa e0 x0 H locs) (hl : lv_has ls 7 [(0, .ref b), (1, .ref x0), (2, .ref o), (3, .ref oa), (4, .int (nI (4 * i)))]) (hc : cells + 6 ≤ 601024) (hs : slots + 326 ≤ 7293033)
    (kk : ∀ (H1 : Heap) (locs1 : List Loc) (ls1 : Array Slot), LW s D cy o ad oa e0 x0 H1 locs1 → lv_has ls1 7 [(0, .ref b), (1, .ref x0), (2, .ref o), (3, .ref oa), (4, .int (nI (4 * i)))] → W p l e room_1 s m #[Value.ref b] below meth c H1 locs1 (cells + 6) (slots + 326) Q (F0 m 2383 ls1 [])) : W p l e room_1 s m #[Value.ref b] below meth c H locs cells slots Q (F0 m 584 ls []) := by
  obtain ⟨hS, hz, g, S, th, v, hI, ⟨hL, hG, hT, -⟩, h18, hM, hR, hO⟩ := hW
  subst h18
  obtain ⟨hC, hX, hfl, hJ, ⟨ho1, ho2⟩, hML⟩ := id C
  have hx := hC.1.1
  have hb := hC.1.2.1
  have hts := hC.1.2.2.2.2
  have hV : CV e0 g S := ⟨hG, hT, hI.m, hI.k⟩
  have h1 := one_plan S hI.m hI.pl.p (xs (4 * i + 1)) (xs (4 * i + 2))
  have hkp := kp_plan hI (xs (4 * i + 1)) (xs (4 * i + 2))
  refine lv_aload_n hx hb dL_law_584 rfl (lv_at hl 1 rfl) ?_
  refine lv_aload_n hx hb dL_law_585 rfl (lv_at hl 0 rfl) ?_
  refine lv_iload hx hb dL_law_586 (lv_at hl 4 rfl) ?_
  refine lv_iconst (v := 1) hx hb dL_law_588 (by decide) ?_
  refine lv_iadd hx hb dL_law_589 ?_
  refine lc_sld hx hb hX hS 1 (by decide) (by omega) dL_law_590 ?_
  refine lv_aload_n hx hb dL_law_591 rfl (lv_at hl 0 rfl) ?_
  refine lv_iload hx hb dL_law_592 (lv_at hl 4 rfl) ?_
  refine lv_iconst (v := 2) hx hb dL_law_594 (by decide) ?_
  refine lv_iadd hx hb dL_law_595 ?_
  refine lc_sld hx hb hX hS 2 (by decide) (by omega) dL_law_596 ?_
  refine lv_aload_n hx hb dL_law_597 rfl (lv_at hl 3 rfl) ?_
  refine vx_calli (vx_runSX (As := [.ref (ga g 18 0), .int (xs (4 * i + 1)), .int (xs (4 * i + 2)), .ref oa]) (rest := []) hC.1 (qL_plan l hfl (A7 s.heap.size o oa) D cy g hL S e0 mi (oa + 1) oa (fun q h => a7_new h) (a7_oa ho2) hV hI.z hI.n (xs (4 * i + 1)) (xs (4 * i + 2))) (vx_cwSW 4 hts gL_law_L_plan rfl rfl rfl (by decide +kernel) ⟨Nat.le_of_ble_eq_true rfl, Nat.le_of_ble_eq_true rfl⟩) ⟨LP_blind, fun U hU hW => ⟨rfl, lc_LP C hS hz hM hO hU hW⟩⟩ rfl rfl hl.1 rfl (lv_room (Nat.le_of_ble_eq_true rfl)) dL_law_598 ⟨hc, hs⟩) hS (fun q _ h => h.elim (a7_sz ho1 ho2) (fun h => by rw [h]; omega)) (fun q h => h.elim (a7_sz ho1 ho2) (fun h => by rw [h]; omega)) (fun q _ h => h.elim) (fun E ce q9 u t H1 locs1 ht hvm hp => False.elim hp) (fun r g1 t H1 locs1 ht hvm hp hB hz1 hk1 hS1 => ?_)
  obtain ⟨hr1, hLG⟩ := hp
  obtain ⟨hM1, v1, hO1, hv1⟩ := hB
  rw [ht] at hM1 hO1
  have hR1 := hR.keptA hML (fun q hq ha => hk1 q hq (a8_a7 ha))
  refine lv_istore (lv' := [(5, .int r), (0, .ref b), (1, .ref (ga g 18 0)), (2, .ref o), (3, .ref oa), (4, .int (nI (4 * i)))]) hx hb dL_law_601 hl (by decide) rfl (fun ls hl => ?_)
  refine lv_aload_n hx hb dL_law_603 rfl (lv_at hl 3 rfl) ?_
  refine lv_aload_n hx hb dL_law_604 rfl (lv_at hl 1 rfl) ?_
  refine lv_iload hx hb dL_law_605 (lv_at hl 5 rfl) ?_
  refine lv_iconst (v := 1) hx hb dL_law_607 (by decide) ?_
  refine lv_iadd hx hb dL_law_608 ?_
  refine lc_sld hx hb hX hS1 1 (by decide) (by omega) dL_law_609 ?_
  refine lv_aload_n hx hb dL_law_610 rfl (lv_at hl 1 rfl) ?_
  refine lv_iload hx hb dL_law_611 (lv_at hl 5 rfl) ?_
  refine lv_iconst (v := 2) hx hb dL_law_613 (by decide) ?_
  refine lv_iadd hx hb dL_law_614 ?_
  refine lc_sld hx hb hX hS1 2 (by decide) (by omega) dL_law_615 ?_
  refine va_calli (va_runV (As := [.int (xs (4 * i + 1)), .int (xs (4 * i + 2))]) (rest := []) hC.1 (qX8_plan l (A8 o oa) D cy o ad hML S th hI.m (xs (4 * i + 1)) (xs (4 * i + 2))) (cwV 2 hts gL_law_X8_plan rfl rfl rfl (by decide +kernel) ⟨Nat.le_of_ble_eq_true rfl, Nat.le_of_ble_eq_true rfl⟩) ⟨MP_blind, va_recv hC.2 (p1 hR1.1) (ci := 9) (q0 := 0) rfl rfl, fun U hU hW => ⟨rfl, by rw [hU]; exact hR1, va_K.moved hW.alike hC.2⟩⟩ rfl rfl hl.1 rfl (lv_room (Nat.le_of_ble_eq_true rfl)) dL_law_616 ⟨hc, hs⟩) hS1 (fun q _ h => a8_sz ho1 h) (fun q h => a8_sz ho1 h) (fun r2 u2 t2 H2 locs2 ht2 hvm2 hr2 hB2 hz2 hk2 hS2 => ?_)
  rw [ht2] at hB2
  have hM2 := hM1.keptA hLG.1 (fun q hq ha => hk2 q hq (a7_a8 ho2 ha))
  have hO2 : at1 D oa (LA cy v1) H2 := hO1.kept (hk2 oa hO1.lt a8_oa)
  refine lv_istore (lv' := [(6, .int r2), (5, .int r), (0, .ref b), (1, .ref (ga g 18 0)), (2, .ref o), (3, .ref oa), (4, .int (nI (4 * i)))]) hx hb dL_law_619 hl (by decide) rfl (fun ls hl => ?_)
  refine lv_aload_n hx hb dL_law_621 rfl (lv_at hl 4 rfl) ?_
  refine va_calli (va_runV (As := []) (rest := []) hC.1 (qX8_thrown l D cy o ad (fX8_plan S (xs (4 * i + 1)) (xs (4 * i + 2))).2.2 (fX8_plan S (xs (4 * i + 1)) (xs (4 * i + 2))).2.1) (cwV 0 hts gL_law_X8_thrown rfl rfl rfl (by decide +kernel) ⟨Nat.le_of_ble_eq_true rfl, Nat.le_of_ble_eq_true rfl⟩) ⟨MP_blind, va_recv hC.2 (p1 hB2.1) (ci := 9) (q0 := 0) rfl rfl, fun U hU hW => ⟨rfl, by rw [hU]; exact hB2, va_K.moved hW.alike hC.2⟩⟩ rfl rfl hl.1 rfl (lv_room (Nat.le_of_ble_eq_true rfl)) dL_law_622 ⟨hc, hs⟩) hS2 (fun q _ h => h.elim) (fun q h => h.elim) (fun r3 u3 t3 H3 locs3 ht3 hvm3 hr3 _ hz3 hk3 hS3 => ?_)
  have hM3 := hM2.keep (fun q hq => hk3 q hq (fun h => h))
  have hB3 := hB2.keep (fun q hq => hk3 q hq (fun h => h))
  have hO3 : at1 D oa (LA cy v1) H3 := hO2.kept (hk3 oa hO2.lt (fun h => h))
  have hW3 : LW s D cy o ad oa e0 (ga g 18 0) H3 locs3 := lc_fin (x8 := (fX8_plan S (xs (4 * i + 1)) (xs (4 * i + 2)))) (x7 := (fX7_plan S (xs (4 * i + 1)) (xs (4 * i + 2)))) hS3 (Nat.lt_of_lt_of_le hz (Nat.le_trans hz1 (Nat.le_trans hz2 hz3))) hkp h1 hLG hM3 hB3 hO3
  have fin : W p l e room_1 s m #[Value.ref b] below meth c H3 locs3 (cells + 6) (slots + 326) Q (F0 m 656 ls []) := by
    refine lv_goto (tgt := 2383) hx hb dL_law_656 (by decide) ?_
    exact kk H3 locs3 ls hW3 (lv_sub hl [2, 3, 4, 5, 6] rfl)
  refine lv_iload hx hb dL_law_625 (lv_at hl 1 rfl) ?_
  refine lv_icmp_eq (tgt := 632) hx hb dL_law_627 (by decide) (fun c1 => ?_) (fun c1 => absurd (hr3.trans (h1.1.trans hr1.symm)) c1)
  refine lv_iload hx hb dL_law_632 (lv_at hl 1 rfl) ?_
  refine lv_if_ne (tgt := 656) hx hb dL_law_634 (by decide) (fun _ => fin) (fun c2 => ?_)
  have hz0 : (fX7_plan S (xs (4 * i + 1)) (xs (4 * i + 2))).2.1 = 0 := mp3_z (hr1.symm.trans c2)
  have e1 := hv1 hz0
  have e2 := h1.2.1 hz0
  refine lv_aload_n hx hb dL_law_637 rfl (lv_at hl 5 rfl) ?_
  refine lv_iconst (v := 0) hx hb dL_law_638 (by decide) ?_
  refine lc_lald hx hb hC.2 hO3 dL_law_639 ?_
  refine lv_iload hx hb dL_law_640 (lv_at hl 0 rfl) ?_
  refine lv_if_eq (tgt := 649) hx hb dL_law_642 (by decide) (fun c4 => ?_) (fun c4 => ?_)
  · refine lv_lconst (v := 0) hx hb dL_law_649 rfl ?_
    refine W.lcmp hx hb dL_law_650 ?_
    exact lv_if_eq (tgt := 656) hx hb dL_law_651 (by decide) (fun _ => fin) (fun c3 => absurd (lc_cmp (by rw [e1, ← e2, ← hr2, if_pos c4])) c3)
  · refine lv_lconst (v := 1) hx hb dL_law_645 rfl ?_
    refine lv_goto (tgt := 650) hx hb dL_law_646 (by decide) ?_
    refine W.lcmp hx hb dL_law_650 ?_
    exact lv_if_eq (tgt := 656) hx hb dL_law_651 (by decide) (fun _ => fin) (fun c3 => absurd (lc_cmp (by rw [e1, ← e2, ← hr2, if_neg c4])) c3)
set_option maxHeartbeats 4000000 in
set_option maxRecDepth 100000 in
theorem lc_know {p : Program} {l : Launch} {e : Env} {s : State} {m : MethodId} {below : List Frame} {meth : Method} {c : Code} {H : Heap} {locs : List Loc} {cells slots : Nat} {Q : State → Prop} {ls : Array Slot} {D : va_G} {cy : Nat → ClassId} {o oa e0 mi b L x0 : Nat} {ad : Nat → Nat} {xs : Nat → Int32} (C : LC p l s m c D cy o ad oa e0 mi b L xs) {i : Nat} (hi : 4 * i + 3 < L) (hW : LW s D cy o ad oa e0 x0 H locs) (hl : lv_has ls 7 [(0, .ref b), (1, .ref x0), (2, .ref o), (3, .ref oa), (4, .int (nI (4 * i)))]) (hc : cells + 6 ≤ 601024) (hs : slots + 326 ≤ 7293033)
    (kk : ∀ (H1 : Heap) (locs1 : List Loc) (ls1 : Array Slot), LW s D cy o ad oa e0 x0 H1 locs1 → lv_has ls1 7 [(0, .ref b), (1, .ref x0), (2, .ref o), (3, .ref oa), (4, .int (nI (4 * i)))] → W p l e room_1 s m #[Value.ref b] below meth c H1 locs1 (cells + 6) (slots + 326) Q (F0 m 2383 ls1 [])) : W p l e room_1 s m #[Value.ref b] below meth c H locs cells slots Q (F0 m 659 ls []) := by
  obtain ⟨hS, hz, g, S, th, v, hI, ⟨hL, hG, hT, -⟩, h18, hM, hR, hO⟩ := hW
  subst h18
  obtain ⟨hC, hX, hfl, hJ, ⟨ho1, ho2⟩, hML⟩ := id C
  have hx := hC.1.1
  have hb := hC.1.2.1
  have hts := hC.1.2.2.2.2
  have hV : CV e0 g S := ⟨hG, hT, hI.m, hI.k⟩
  have h1 := one_know S hI.m (xs (4 * i + 1))
  have hkp := kp_know hI (xs (4 * i + 1))
  refine lv_aload_n hx hb dL_law_659 rfl (lv_at hl 1 rfl) ?_
  refine lv_aload_n hx hb dL_law_660 rfl (lv_at hl 0 rfl) ?_
  refine lv_iload hx hb dL_law_661 (lv_at hl 4 rfl) ?_
  refine lv_iconst (v := 1) hx hb dL_law_663 (by decide) ?_
  refine lv_iadd hx hb dL_law_664 ?_
  refine lc_sld hx hb hX hS 1 (by decide) (by omega) dL_law_665 ?_
  refine lv_aload_n hx hb dL_law_666 rfl (lv_at hl 3 rfl) ?_
  refine vx_calli (vx_runSX (As := [.ref (ga g 18 0), .int (xs (4 * i + 1)), .ref oa]) (rest := []) hC.1 (qL_know l hfl (A7 s.heap.size o oa) D cy g hL S e0 mi (oa + 1) oa (fun q h => a7_new h) (a7_oa ho2) hV hI.z hI.n (xs (4 * i + 1))) (vx_cwSW 3 hts gL_law_L_know rfl rfl rfl (by decide +kernel) ⟨Nat.le_of_ble_eq_true rfl, Nat.le_of_ble_eq_true rfl⟩) ⟨LP_blind, fun U hU hW => ⟨rfl, lc_LP C hS hz hM hO hU hW⟩⟩ rfl rfl hl.1 rfl (lv_room (Nat.le_of_ble_eq_true rfl)) dL_law_667 ⟨hc, hs⟩) hS (fun q _ h => h.elim (a7_sz ho1 ho2) (fun h => by rw [h]; omega)) (fun q h => h.elim (a7_sz ho1 ho2) (fun h => by rw [h]; omega)) (fun q _ h => h.elim) (fun E ce q9 u t H1 locs1 ht hvm hp => False.elim hp) (fun r g1 t H1 locs1 ht hvm hp hB hz1 hk1 hS1 => ?_)
  obtain ⟨hr1, hLG⟩ := hp
  obtain ⟨hM1, v1, hO1, hv1⟩ := hB
  rw [ht] at hM1 hO1
  have hR1 := hR.keptA hML (fun q hq ha => hk1 q hq (a8_a7 ha))
  refine lv_istore (lv' := [(5, .int r), (0, .ref b), (1, .ref (ga g 18 0)), (2, .ref o), (3, .ref oa), (4, .int (nI (4 * i)))]) hx hb dL_law_670 hl (by decide) rfl (fun ls hl => ?_)
  refine lv_aload_n hx hb dL_law_672 rfl (lv_at hl 3 rfl) ?_
  refine lv_aload_n hx hb dL_law_673 rfl (lv_at hl 1 rfl) ?_
  refine lv_iload hx hb dL_law_674 (lv_at hl 5 rfl) ?_
  refine lv_iconst (v := 1) hx hb dL_law_676 (by decide) ?_
  refine lv_iadd hx hb dL_law_677 ?_
  refine lc_sld hx hb hX hS1 1 (by decide) (by omega) dL_law_678 ?_
  refine va_calli (va_runV (As := [.int (xs (4 * i + 1))]) (rest := []) hC.1 (qX8_know l (A8 o oa) D cy o ad hML S th hI.m (xs (4 * i + 1))) (cwV 1 hts gL_law_X8_know rfl rfl rfl (by decide +kernel) ⟨Nat.le_of_ble_eq_true rfl, Nat.le_of_ble_eq_true rfl⟩) ⟨MP_blind, va_recv hC.2 (p1 hR1.1) (ci := 9) (q0 := 0) rfl rfl, fun U hU hW => ⟨rfl, by rw [hU]; exact hR1, va_K.moved hW.alike hC.2⟩⟩ rfl rfl hl.1 rfl (lv_room (Nat.le_of_ble_eq_true rfl)) dL_law_679 ⟨hc, hs⟩) hS1 (fun q _ h => a8_sz ho1 h) (fun q h => a8_sz ho1 h) (fun r2 u2 t2 H2 locs2 ht2 hvm2 hr2 hB2 hz2 hk2 hS2 => ?_)
  rw [ht2] at hB2
  have hM2 := hM1.keptA hLG.1 (fun q hq ha => hk2 q hq (a7_a8 ho2 ha))
  have hO2 : at1 D oa (LA cy v1) H2 := hO1.kept (hk2 oa hO1.lt a8_oa)
  refine lv_istore (lv' := [(6, .int r2), (5, .int r), (0, .ref b), (1, .ref (ga g 18 0)), (2, .ref o), (3, .ref oa), (4, .int (nI (4 * i)))]) hx hb dL_law_682 hl (by decide) rfl (fun ls hl => ?_)
  refine lv_aload_n hx hb dL_law_684 rfl (lv_at hl 4 rfl) ?_
  refine va_calli (va_runV (As := []) (rest := []) hC.1 (qX8_thrown l D cy o ad (fX8_know S (xs (4 * i + 1))).2.2 (fX8_know S (xs (4 * i + 1))).2.1) (cwV 0 hts gL_law_X8_thrown rfl rfl rfl (by decide +kernel) ⟨Nat.le_of_ble_eq_true rfl, Nat.le_of_ble_eq_true rfl⟩) ⟨MP_blind, va_recv hC.2 (p1 hB2.1) (ci := 9) (q0 := 0) rfl rfl, fun U hU hW => ⟨rfl, by rw [hU]; exact hB2, va_K.moved hW.alike hC.2⟩⟩ rfl rfl hl.1 rfl (lv_room (Nat.le_of_ble_eq_true rfl)) dL_law_685 ⟨hc, hs⟩) hS2 (fun q _ h => h.elim) (fun q h => h.elim) (fun r3 u3 t3 H3 locs3 ht3 hvm3 hr3 _ hz3 hk3 hS3 => ?_)
  have hM3 := hM2.keep (fun q hq => hk3 q hq (fun h => h))
  have hB3 := hB2.keep (fun q hq => hk3 q hq (fun h => h))
  have hO3 : at1 D oa (LA cy v1) H3 := hO2.kept (hk3 oa hO2.lt (fun h => h))
  have hW3 : LW s D cy o ad oa e0 (ga g 18 0) H3 locs3 := lc_fin (x8 := (fX8_know S (xs (4 * i + 1)))) (x7 := (fX7_know S (xs (4 * i + 1)))) hS3 (Nat.lt_of_lt_of_le hz (Nat.le_trans hz1 (Nat.le_trans hz2 hz3))) hkp h1 hLG hM3 hB3 hO3
  have fin : W p l e room_1 s m #[Value.ref b] below meth c H3 locs3 (cells + 6) (slots + 326) Q (F0 m 719 ls []) := by
    refine lv_goto (tgt := 2383) hx hb dL_law_719 (by decide) ?_
    exact kk H3 locs3 ls hW3 (lv_sub hl [2, 3, 4, 5, 6] rfl)
  refine lv_iload hx hb dL_law_688 (lv_at hl 1 rfl) ?_
  refine lv_icmp_eq (tgt := 695) hx hb dL_law_690 (by decide) (fun c1 => ?_) (fun c1 => absurd (hr3.trans (h1.1.trans hr1.symm)) c1)
  refine lv_iload hx hb dL_law_695 (lv_at hl 1 rfl) ?_
  refine lv_if_ne (tgt := 719) hx hb dL_law_697 (by decide) (fun _ => fin) (fun c2 => ?_)
  have hz0 : (fX7_know S (xs (4 * i + 1))).2.1 = 0 := mp3_z (hr1.symm.trans c2)
  have e1 := hv1 hz0
  have e2 := h1.2.1 hz0
  refine lv_aload_n hx hb dL_law_700 rfl (lv_at hl 5 rfl) ?_
  refine lv_iconst (v := 0) hx hb dL_law_701 (by decide) ?_
  refine lc_lald hx hb hC.2 hO3 dL_law_702 ?_
  refine lv_iload hx hb dL_law_703 (lv_at hl 0 rfl) ?_
  refine lv_if_eq (tgt := 712) hx hb dL_law_705 (by decide) (fun c4 => ?_) (fun c4 => ?_)
  · refine lv_lconst (v := 0) hx hb dL_law_712 rfl ?_
    refine W.lcmp hx hb dL_law_713 ?_
    exact lv_if_eq (tgt := 719) hx hb dL_law_714 (by decide) (fun _ => fin) (fun c3 => absurd (lc_cmp (by rw [e1, ← e2, ← hr2, if_pos c4])) c3)
  · refine lv_lconst (v := 1) hx hb dL_law_708 rfl ?_
    refine lv_goto (tgt := 713) hx hb dL_law_709 (by decide) ?_
    refine W.lcmp hx hb dL_law_713 ?_
    exact lv_if_eq (tgt := 719) hx hb dL_law_714 (by decide) (fun _ => fin) (fun c3 => absurd (lc_cmp (by rw [e1, ← e2, ← hr2, if_neg c4])) c3)
set_option maxHeartbeats 4000000 in
set_option maxRecDepth 100000 in
theorem lc_admit {p : Program} {l : Launch} {e : Env} {s : State} {m : MethodId} {below : List Frame} {meth : Method} {c : Code} {H : Heap} {locs : List Loc} {cells slots : Nat} {Q : State → Prop} {ls : Array Slot} {D : va_G} {cy : Nat → ClassId} {o oa e0 mi b L x0 : Nat} {ad : Nat → Nat} {xs : Nat → Int32} (C : LC p l s m c D cy o ad oa e0 mi b L xs) {i : Nat} (hi : 4 * i + 3 < L) (hW : LW s D cy o ad oa e0 x0 H locs) (hl : lv_has ls 7 [(0, .ref b), (1, .ref x0), (2, .ref o), (3, .ref oa), (4, .int (nI (4 * i)))]) (hc : cells + 6 ≤ 601024) (hs : slots + 326 ≤ 7293033)
    (kk : ∀ (H1 : Heap) (locs1 : List Loc) (ls1 : Array Slot), LW s D cy o ad oa e0 x0 H1 locs1 → lv_has ls1 7 [(0, .ref b), (1, .ref x0), (2, .ref o), (3, .ref oa), (4, .int (nI (4 * i)))] → W p l e room_1 s m #[Value.ref b] below meth c H1 locs1 (cells + 6) (slots + 326) Q (F0 m 2383 ls1 [])) : W p l e room_1 s m #[Value.ref b] below meth c H locs cells slots Q (F0 m 722 ls []) := by
  obtain ⟨hS, hz, g, S, th, v, hI, ⟨hL, hG, hT, -⟩, h18, hM, hR, hO⟩ := hW
  subst h18
  obtain ⟨hC, hX, hfl, hJ, ⟨ho1, ho2⟩, hML⟩ := id C
  have hx := hC.1.1
  have hb := hC.1.2.1
  have hts := hC.1.2.2.2.2
  have hV : CV e0 g S := ⟨hG, hT, hI.m, hI.k⟩
  have h1 := one_admit S hI.m hI.p hI.s (xs (4 * i + 1))
  have hkp := kp_admit hI (xs (4 * i + 1))
  refine lv_aload_n hx hb dL_law_722 rfl (lv_at hl 1 rfl) ?_
  refine lv_aload_n hx hb dL_law_723 rfl (lv_at hl 0 rfl) ?_
  refine lv_iload hx hb dL_law_724 (lv_at hl 4 rfl) ?_
  refine lv_iconst (v := 1) hx hb dL_law_726 (by decide) ?_
  refine lv_iadd hx hb dL_law_727 ?_
  refine lc_sld hx hb hX hS 1 (by decide) (by omega) dL_law_728 ?_
  refine lv_aload_n hx hb dL_law_729 rfl (lv_at hl 3 rfl) ?_
  refine vx_calli (vx_runSX (As := [.ref (ga g 18 0), .int (xs (4 * i + 1)), .ref oa]) (rest := []) hC.1 (qL_admit l hfl (A7 s.heap.size o oa) D cy g hL S e0 mi (oa + 1) oa (fun q h => a7_new h) (a7_oa ho2) hV hI.z hI.n (xs (4 * i + 1))) (vx_cwSW 3 hts gL_law_L_admit rfl rfl rfl (by decide +kernel) ⟨Nat.le_of_ble_eq_true rfl, Nat.le_of_ble_eq_true rfl⟩) ⟨LP_blind, fun U hU hW => ⟨rfl, lc_LP C hS hz hM hO hU hW⟩⟩ rfl rfl hl.1 rfl (lv_room (Nat.le_of_ble_eq_true rfl)) dL_law_730 ⟨hc, hs⟩) hS (fun q _ h => h.elim (a7_sz ho1 ho2) (fun h => by rw [h]; omega)) (fun q h => h.elim (a7_sz ho1 ho2) (fun h => by rw [h]; omega)) (fun q _ h => h.elim) (fun E ce q9 u t H1 locs1 ht hvm hp => False.elim hp) (fun r g1 t H1 locs1 ht hvm hp hB hz1 hk1 hS1 => ?_)
  obtain ⟨hr1, hLG⟩ := hp
  obtain ⟨hM1, v1, hO1, hv1⟩ := hB
  rw [ht] at hM1 hO1
  have hR1 := hR.keptA hML (fun q hq ha => hk1 q hq (a8_a7 ha))
  refine lv_istore (lv' := [(5, .int r), (0, .ref b), (1, .ref (ga g 18 0)), (2, .ref o), (3, .ref oa), (4, .int (nI (4 * i)))]) hx hb dL_law_733 hl (by decide) rfl (fun ls hl => ?_)
  refine lv_aload_n hx hb dL_law_735 rfl (lv_at hl 3 rfl) ?_
  refine lv_aload_n hx hb dL_law_736 rfl (lv_at hl 1 rfl) ?_
  refine lv_iload hx hb dL_law_737 (lv_at hl 5 rfl) ?_
  refine lv_iconst (v := 1) hx hb dL_law_739 (by decide) ?_
  refine lv_iadd hx hb dL_law_740 ?_
  refine lc_sld hx hb hX hS1 1 (by decide) (by omega) dL_law_741 ?_
  refine va_calli (va_runV (As := [.int (xs (4 * i + 1))]) (rest := []) hC.1 (qX8_admit l (A8 o oa) D cy o ad hML S th hI.m (xs (4 * i + 1))) (cwV 1 hts gL_law_X8_admit rfl rfl rfl (by decide +kernel) ⟨Nat.le_of_ble_eq_true rfl, Nat.le_of_ble_eq_true rfl⟩) ⟨MP_blind, va_recv hC.2 (p1 hR1.1) (ci := 9) (q0 := 0) rfl rfl, fun U hU hW => ⟨rfl, by rw [hU]; exact hR1, va_K.moved hW.alike hC.2⟩⟩ rfl rfl hl.1 rfl (lv_room (Nat.le_of_ble_eq_true rfl)) dL_law_742 ⟨hc, hs⟩) hS1 (fun q _ h => a8_sz ho1 h) (fun q h => a8_sz ho1 h) (fun r2 u2 t2 H2 locs2 ht2 hvm2 hr2 hB2 hz2 hk2 hS2 => ?_)
  rw [ht2] at hB2
  have hM2 := hM1.keptA hLG.1 (fun q hq ha => hk2 q hq (a7_a8 ho2 ha))
  have hO2 : at1 D oa (LA cy v1) H2 := hO1.kept (hk2 oa hO1.lt a8_oa)
  refine lv_istore (lv' := [(6, .int r2), (5, .int r), (0, .ref b), (1, .ref (ga g 18 0)), (2, .ref o), (3, .ref oa), (4, .int (nI (4 * i)))]) hx hb dL_law_745 hl (by decide) rfl (fun ls hl => ?_)
  refine lv_aload_n hx hb dL_law_747 rfl (lv_at hl 4 rfl) ?_
  refine va_calli (va_runV (As := []) (rest := []) hC.1 (qX8_thrown l D cy o ad (fX8_admit S (xs (4 * i + 1))).2.2 (fX8_admit S (xs (4 * i + 1))).2.1) (cwV 0 hts gL_law_X8_thrown rfl rfl rfl (by decide +kernel) ⟨Nat.le_of_ble_eq_true rfl, Nat.le_of_ble_eq_true rfl⟩) ⟨MP_blind, va_recv hC.2 (p1 hB2.1) (ci := 9) (q0 := 0) rfl rfl, fun U hU hW => ⟨rfl, by rw [hU]; exact hB2, va_K.moved hW.alike hC.2⟩⟩ rfl rfl hl.1 rfl (lv_room (Nat.le_of_ble_eq_true rfl)) dL_law_748 ⟨hc, hs⟩) hS2 (fun q _ h => h.elim) (fun q h => h.elim) (fun r3 u3 t3 H3 locs3 ht3 hvm3 hr3 _ hz3 hk3 hS3 => ?_)
  have hM3 := hM2.keep (fun q hq => hk3 q hq (fun h => h))
  have hB3 := hB2.keep (fun q hq => hk3 q hq (fun h => h))
  have hO3 : at1 D oa (LA cy v1) H3 := hO2.kept (hk3 oa hO2.lt (fun h => h))
  have hW3 : LW s D cy o ad oa e0 (ga g 18 0) H3 locs3 := lc_fin (x8 := (fX8_admit S (xs (4 * i + 1)))) (x7 := (fX7_admit S (xs (4 * i + 1)))) hS3 (Nat.lt_of_lt_of_le hz (Nat.le_trans hz1 (Nat.le_trans hz2 hz3))) hkp h1 hLG hM3 hB3 hO3
  have fin : W p l e room_1 s m #[Value.ref b] below meth c H3 locs3 (cells + 6) (slots + 326) Q (F0 m 782 ls []) := by
    refine lv_goto (tgt := 2383) hx hb dL_law_782 (by decide) ?_
    exact kk H3 locs3 ls hW3 (lv_sub hl [2, 3, 4, 5, 6] rfl)
  refine lv_iload hx hb dL_law_751 (lv_at hl 1 rfl) ?_
  refine lv_icmp_eq (tgt := 758) hx hb dL_law_753 (by decide) (fun c1 => ?_) (fun c1 => absurd (hr3.trans (h1.1.trans hr1.symm)) c1)
  refine lv_iload hx hb dL_law_758 (lv_at hl 1 rfl) ?_
  refine lv_if_ne (tgt := 782) hx hb dL_law_760 (by decide) (fun _ => fin) (fun c2 => ?_)
  have hz0 : (fX7_admit S (xs (4 * i + 1))).2.1 = 0 := mp13_z (hr1.symm.trans c2)
  have e1 := hv1 hz0
  have e2 := h1.2.1 hz0
  refine lv_aload_n hx hb dL_law_763 rfl (lv_at hl 5 rfl) ?_
  refine lv_iconst (v := 0) hx hb dL_law_764 (by decide) ?_
  refine lc_lald hx hb hC.2 hO3 dL_law_765 ?_
  refine lv_iload hx hb dL_law_766 (lv_at hl 0 rfl) ?_
  refine lv_if_eq (tgt := 775) hx hb dL_law_768 (by decide) (fun c4 => ?_) (fun c4 => ?_)
  · refine lv_lconst (v := 0) hx hb dL_law_775 rfl ?_
    refine W.lcmp hx hb dL_law_776 ?_
    exact lv_if_eq (tgt := 782) hx hb dL_law_777 (by decide) (fun _ => fin) (fun c3 => absurd (lc_cmp (by rw [e1, ← e2, ← hr2, if_pos c4])) c3)
  · refine lv_lconst (v := 1) hx hb dL_law_771 rfl ?_
    refine lv_goto (tgt := 776) hx hb dL_law_772 (by decide) ?_
    refine W.lcmp hx hb dL_law_776 ?_
    exact lv_if_eq (tgt := 782) hx hb dL_law_777 (by decide) (fun _ => fin) (fun c3 => absurd (lc_cmp (by rw [e1, ← e2, ← hr2, if_neg c4])) c3)
