/-! a turn of the law -/
theorem le_3000 {n : Nat} (hn : n < 2 ^ 31) (h : nI n ≤ (3000 : Int32)) : n ≤ 3000 := by
  rw [show (3000 : Int32) = nI 3000 by decide, nI_leI hn (by decide)] at h
  exact h
set_option maxHeartbeats 8000000 in
set_option maxRecDepth 100000 in
theorem lt_tail {p : Program} {l : Launch} {e : Env} {s : State} {m : MethodId} {args : Array Value} {below : List Frame} {meth : Method} {c : Code} {Q : State → Prop} {D : va_G} {cy : Nat → ClassId} {la : Nat → Nat} {A B : Nat → Prop} {e0 mi n0 x0 b Ls : Nat} {xs : Nat → Int32} (hC : XC p l s m args c cL_law 21 A B D cy e0 mi wsL_law) (hX : va_X b Ls xs s s.heap) (hbl : b < s.heap.size) (hbA : ¬ AB A B b) (hLs : Ls ≤ 2048) {M i cells slots : Nat} (hMb : M ≤ 9000000) (hi : i < 130) (hc : cells + 208 ≤ 600130) (hs : slots + 1642 ≤ 7301080) (kk : ∀ (z : CWt × St × St) (H : Heap) (locs : List Loc) (ls : Array Slot), XK A B e0 n0 x0 la z.1 z.2.1 ∧ XI A B D cy z.1 n0 la s z.2.1 z.2.2 H locs ∧ REL (M + 3000) z.2.1 z.2.2 ∧ lv_has ls 21 [(0, .ref b), (1, .ref x0), (2, .ref (la 0)), (3, .ref (la 1)), (4, .ref (la 2)), (5, .ref (la 3)), (6, .ref (la 4)), (7, .ref (la 5)), (8, .ref (la 6)), (9, .ref (la 7)), (10, .ref (la 8)), (11, .ref (la 9)), (12, .ref (la 10)), (13, .ref (la 11)), (14, .int 1), (15, .int (nI (i + 1)))] → W p l e room_1 s m args below meth c H locs (cells + 208) (slots + 1642) Q (F0 m 84 ls [])) (zv : Int32) (z : CWt × St × St) (H : Heap) (locs : List Loc) (ls : Array Slot) (hz : XK A B e0 n0 x0 la z.1 z.2.1 ∧ XI A B D cy z.1 n0 la s z.2.1 z.2.2 H locs ∧ REL (M + 3000) z.2.1 z.2.2 ∧ lv_has ls 21 [(0, .ref b), (1, .ref x0), (2, .ref (la 0)), (3, .ref (la 1)), (4, .ref (la 2)), (5, .ref (la 3)), (6, .ref (la 4)), (7, .ref (la 5)), (8, .ref (la 6)), (9, .ref (la 7)), (10, .ref (la 8)), (11, .ref (la 9)), (12, .ref (la 10)), (13, .ref (la 11)), (14, .int 1), (15, .int (nI i)), (18, .int zv)]) : W p l e room_1 s m args below meth c H locs (cells + 8) (slots + 342) Q (F0 m 515 ls []) := by
  obtain ⟨g, S, L⟩ := z
  obtain ⟨hK, hI, hR, hl⟩ := hz
  have hx := hC.1.1.1
  have hb := hC.1.1.2.1
  have hown := hC.1.1.2.2.2.1
  have htsL := hC.1.1.2.2.2.2
  have k_190 := htsL (.constant RL 190 (8388607)) (lw_chk_in0 _ (List.mem_of_getElem? (i := 4) rfl))
  refine lv_iload hx hb dL_law_515 (lv_at hl 14 rfl) ?_
  refine lv_if_eq (tgt := 556) hx hb dL_law_517 (by decide) (fun c => absurd c (by decide : ¬ (1 : Int32) = 0)) (fun _ => ?_)
  refine lv_aload_n hx hb dL_law_520 rfl (lv_at hl 1 rfl) ?_
  refine lv_iload hx hb dL_law_521 (lv_at hl 16 rfl) ?_
  refine lv_iconst (v := 1) hx hb dL_law_523 (by decide) ?_
  refine lv_ishr hx hb dL_law_524 ?_
  refine lv_ldc hx hb hown k_190 dL_law_525 ?_
  refine lv_iand hx hb dL_law_527 ?_
  refine lv_topi (fun zy _ => ?_)
  refine lv_aload_n hx hb dL_law_528 rfl (lv_at hl 2 rfl) ?_
  refine lv_aload_n hx hb dL_law_529 rfl (lv_at hl 3 rfl) ?_
  refine lv_aload hx hb dL_law_530 (lv_at hl 4 rfl) ?_
  refine lv_aload hx hb dL_law_532 (lv_at hl 5 rfl) ?_
  refine lv_aload hx hb dL_law_534 (lv_at hl 6 rfl) ?_
  refine lv_aload hx hb dL_law_536 (lv_at hl 8 rfl) ?_
  refine lv_aload hx hb dL_law_538 (lv_at hl 9 rfl) ?_
  refine lv_aload hx hb dL_law_540 (lv_at hl 10 rfl) ?_
  refine lv_aload hx hb dL_law_542 (lv_at hl 11 rfl) ?_
  refine lv_aload hx hb dL_law_544 (lv_at hl 13 rfl) ?_
  refine xr_same (As := [.ref x0, .int zy, .ref (la 0), .ref (la 1), .ref (la 2), .ref (la 3), .ref (la 4), .ref (la 6), .ref (la 7), .ref (la 8), .ref (la 9), .ref (la 11)]) (rest := []) hC hI (same_met l hC.2.1 A B D cy g S e0 mi n0 x0 la hK L hR hK.i zy) (va_cwS 12 htsL gL_law_L_same rfl rfl rfl (by decide +kernel) ⟨Nat.le_of_ble_eq_true rfl, Nat.le_of_ble_eq_true rfl⟩) rfl hl.1 rfl (Nat.le_of_ble_eq_true rfl) dL_law_546 ⟨by show _ ≤ 600130; omega, by show _ ≤ 7301080; omega⟩ (fun H locs hI => ?_)
  refine lv_if_eq (tgt := 556) hx hb dL_law_549 (by decide) (fun c => absurd c (by decide : ¬ (1 : Int32) = 0)) (fun _ => ?_)
  refine lv_iconst (v := 1) hx hb dL_law_552 (by decide) ?_
  refine lv_goto (tgt := 557) hx hb dL_law_553 (by decide) ?_
  refine lv_istore (lv' := [(14, .int 1), (0, .ref b), (1, .ref x0), (2, .ref (la 0)), (3, .ref (la 1)), (4, .ref (la 2)), (5, .ref (la 3)), (6, .ref (la 4)), (7, .ref (la 5)), (8, .ref (la 6)), (9, .ref (la 7)), (10, .ref (la 8)), (11, .ref (la 9)), (12, .ref (la 10)), (13, .ref (la 11)), (15, .int (nI i)), (18, .int zv)]) hx hb dL_law_557 hl (by decide) rfl (fun ls hl => ?_)
  refine lv_iinc (v := (nI (i + 1))) (lv' := [(15, .int (nI (i + 1))), (14, .int 1), (0, .ref b), (1, .ref x0), (2, .ref (la 0)), (3, .ref (la 1)), (4, .ref (la 2)), (5, .ref (la 3)), (6, .ref (la 4)), (7, .ref (la 5)), (8, .ref (la 6)), (9, .ref (la 7)), (10, .ref (la 8)), (11, .ref (la 9)), (12, .ref (la 10)), (13, .ref (la 11)), (18, .int zv)]) hx hb dL_law_559 hl (k := 15) rfl (nI_1 i) (by decide) rfl (fun ls hl => ?_)
  refine lv_goto (tgt := 84) hx hb dL_law_562 (by decide) ?_
  exact kk (g, S, L) _ _ ls ⟨hK, hI, hR, lv_sub hl [2, 3, 4, 5, 6, 7, 8, 9, 10, 11, 12, 13, 14, 15, 1, 0] rfl⟩
set_option maxHeartbeats 16000000 in
set_option maxRecDepth 100000 in
theorem lt_turn {p : Program} {l : Launch} {e : Env} {s : State} {m : MethodId} {args : Array Value} {below : List Frame} {meth : Method} {c : Code} {Q : State → Prop} {D : va_G} {cy : Nat → ClassId} {la : Nat → Nat} {A B : Nat → Prop} {e0 mi n0 x0 b Ls : Nat} {xs : Nat → Int32} (hC : XC p l s m args c cL_law 21 A B D cy e0 mi wsL_law) (hX : va_X b Ls xs s s.heap) (hbl : b < s.heap.size) (hbA : ¬ AB A B b) (hLs : Ls ≤ 2048) {M i cells slots : Nat} (hMb : M ≤ 9000000) (hi : i < 130) (hc : cells + 208 ≤ 600130) (hs : slots + 1642 ≤ 7301080) (J515 : ∀ (zv : Int32) (z : CWt × St × St) (H : Heap) (locs : List Loc) (ls : Array Slot), XK A B e0 n0 x0 la z.1 z.2.1 ∧ XI A B D cy z.1 n0 la s z.2.1 z.2.2 H locs ∧ REL (M + 3000) z.2.1 z.2.2 ∧ lv_has ls 21 [(0, .ref b), (1, .ref x0), (2, .ref (la 0)), (3, .ref (la 1)), (4, .ref (la 2)), (5, .ref (la 3)), (6, .ref (la 4)), (7, .ref (la 5)), (8, .ref (la 6)), (9, .ref (la 7)), (10, .ref (la 8)), (11, .ref (la 9)), (12, .ref (la 10)), (13, .ref (la 11)), (14, .int 1), (15, .int (nI i)), (18, .int zv)] → W p l e room_1 s m args below meth c H locs (cells + 8) (slots + 342) Q (F0 m 515 ls [])) {g : CWt} {S L : St} (hK : XK A B e0 n0 x0 la g S) {H : Heap} {locs : List Loc} {ls : Array Slot} (hI : XI A B D cy g n0 la s S L H locs) (hR : REL M S L) (hl : lv_has ls 21 [(0, .ref b), (1, .ref x0), (2, .ref (la 0)), (3, .ref (la 1)), (4, .ref (la 2)), (5, .ref (la 3)), (6, .ref (la 4)), (7, .ref (la 5)), (8, .ref (la 6)), (9, .ref (la 7)), (10, .ref (la 8)), (11, .ref (la 9)), (12, .ref (la 10)), (13, .ref (la 11)), (14, .int 1), (15, .int (nI i))]) : W p l e room_1 s m args below meth c H locs cells slots Q (F0 m 97 ls []) := by
  have hx := hC.1.1.1
  have hb := hC.1.1.2.1
  have htsL := hC.1.1.2.2.2.2
  have hts := htsL
  refine lv_aload_n hx hb dL_law_97 rfl (lv_at hl 0 rfl) ?_
  refine lv_iload hx hb dL_law_98 (lv_at hl 15 rfl) ?_
  refine xr_cell (As := [.ref b, .int (nI i)]) (rest := []) hC hI hX hbl hbA (qL_cell l b Ls xs i (by omega) hLs) (va_cwS 2 htsL gL_law_L_cell rfl rfl rfl (by decide +kernel) ⟨Nat.le_of_ble_eq_true rfl, Nat.le_of_ble_eq_true rfl⟩) rfl hl.1 rfl (Nat.le_of_ble_eq_true rfl) dL_law_100 ⟨by show _ ≤ 600130; omega, by show _ ≤ 7301080; omega⟩ (fun v H locs hI => ?_)
  refine lv_istore (lv' := [(16, .int v), (0, .ref b), (1, .ref x0), (2, .ref (la 0)), (3, .ref (la 1)), (4, .ref (la 2)), (5, .ref (la 3)), (6, .ref (la 4)), (7, .ref (la 5)), (8, .ref (la 6)), (9, .ref (la 7)), (10, .ref (la 8)), (11, .ref (la 9)), (12, .ref (la 10)), (13, .ref (la 11)), (14, .int 1), (15, .int (nI i))]) hx hb dL_law_103 hl (by decide) rfl (fun ls hl => ?_)
  refine lv_iload hx hb dL_law_105 (lv_at hl 0 rfl) ?_
  refine lv_bipush (v := 50) hx hb dL_law_107 (by decide) ?_
  refine xr_callS (As := [.int v, .int 50]) (rest := []) hC hI (qL_low l v 50 (by decide)) (va_cwS 2 hts gL_law_L_low rfl rfl rfl (by decide +kernel) ⟨Nat.le_of_ble_eq_true rfl, Nat.le_of_ble_eq_true rfl⟩) rfl hl.1 rfl (Nat.le_of_ble_eq_true rfl) dL_law_109 ⟨by show _ ≤ 600130; omega, by show _ ≤ 7301080; omega⟩ (fun H locs hI => ?_)
  refine lv_topi (fun act _ => ?_)
  refine lv_istore (lv' := [(17, .int act), (16, .int v), (0, .ref b), (1, .ref x0), (2, .ref (la 0)), (3, .ref (la 1)), (4, .ref (la 2)), (5, .ref (la 3)), (6, .ref (la 4)), (7, .ref (la 5)), (8, .ref (la 6)), (9, .ref (la 7)), (10, .ref (la 8)), (11, .ref (la 9)), (12, .ref (la 10)), (13, .ref (la 11)), (14, .int 1), (15, .int (nI i))]) hx hb dL_law_112 hl (by decide) rfl (fun ls hl => ?_)
  refine lv_iload hx hb dL_law_114 (lv_at hl 1 rfl) ?_
  refine lv_iconst (v := 5) hx hb dL_law_116 (by decide) ?_
  refine lv_ishr hx hb dL_law_117 ?_
  refine lv_topi (fun zv _ => ?_)
  refine lv_istore (lv' := [(18, .int zv), (17, .int act), (16, .int v), (0, .ref b), (1, .ref x0), (2, .ref (la 0)), (3, .ref (la 1)), (4, .ref (la 2)), (5, .ref (la 3)), (6, .ref (la 4)), (7, .ref (la 5)), (8, .ref (la 6)), (9, .ref (la 7)), (10, .ref (la 8)), (11, .ref (la 9)), (12, .ref (la 10)), (13, .ref (la 11)), (14, .int 1), (15, .int (nI i))]) hx hb dL_law_118 hl (by decide) rfl (fun ls hl => ?_)
  refine lv_iload hx hb dL_law_120 (lv_at hl 1 rfl) ?_
  refine lv_bipush (v := 21) hx hb dL_law_122 (by decide) ?_
  refine lv_icmp_lt (tgt := 141) hx hb dL_law_124 (by decide) (fun c_1 => ?_) (fun c_1 => ?_)
  · skip
    refine lv_iload hx hb dL_law_141 (lv_at hl 1 rfl) ?_
    refine lv_bipush (v := 23) hx hb dL_law_143 (by decide) ?_
    refine lv_icmp_le (tgt := 166) hx hb dL_law_145 (by decide) (fun c_2 => ?_) (fun c_2 => ?_)
    · skip
      refine lv_aload_n hx hb dL_law_166 rfl (lv_at hl 4 rfl) ?_
      refine lv_iload hx hb dL_law_167 (lv_at hl 1 rfl) ?_
      refine lv_iconst (v := 2) hx hb dL_law_169 (by decide) ?_
      refine w_join (σ := Int32) 236 (fun y236 H locs ls => XI A B D cy g n0 la s S L H locs ∧ lv_has ls 21 [(18, .int zv), (17, .int act), (16, .int v), (0, .ref b), (1, .ref x0), (2, .ref (la 0)), (3, .ref (la 1)), (4, .ref (la 2)), (5, .ref (la 3)), (6, .ref (la 4)), (7, .ref (la 5)), (8, .ref (la 6)), (9, .ref (la 7)), (10, .ref (la 8)), (11, .ref (la 9)), (12, .ref (la 10)), (13, .ref (la 11)), (14, .int 1), (15, .int (nI i))]) (fun y236 => [.int y236, .ref x0]) ?_ (fun J236 => ?_)
      · intro y236 H locs ls ⟨hI, hl⟩
        refine lv_iload hx hb dL_law_236 (lv_at hl 0 rfl) ?_
        refine lv_aload_n hx hb dL_law_238 rfl (lv_at hl 5 rfl) ?_
        refine lv_aload_n hx hb dL_law_239 rfl (lv_at hl 6 rfl) ?_
        refine lv_aload hx hb dL_law_240 (lv_at hl 7 rfl) ?_
        refine lv_aload hx hb dL_law_242 (lv_at hl 8 rfl) ?_
        refine lv_aload hx hb dL_law_244 (lv_at hl 9 rfl) ?_
        refine lv_aload hx hb dL_law_246 (lv_at hl 10 rfl) ?_
        refine lv_aload hx hb dL_law_248 (lv_at hl 11 rfl) ?_
        refine lv_aload hx hb dL_law_250 (lv_at hl 12 rfl) ?_
        refine lv_aload hx hb dL_law_252 (lv_at hl 14 rfl) ?_
        refine lv_aload hx hb dL_law_254 (lv_at hl 16 rfl) ?_
        have hV := hR.v hK.i.m
        obtain ⟨f9, hf9, ef9⟩ := low_n zv (n := 3) (N := 3) (by decide) (by decide) (by decide)
        obtain ⟨t9, ht9, et9⟩ := low_n (zv >>> ((2 : Int32) &&& 31)) (n := 5) (N := 5) (by decide) (by decide) (by decide)
        obtain ⟨b9, hb9, eb9⟩ := low_n (zv >>> ((4 : Int32) &&& 31)) (n := 8) (N := 8) (by decide) (by decide) (by decide)
        obtain ⟨s9, hs9, es9⟩ := scheme_g hV (zv >>> ((3 : Int32) &&& 31))
        have hok := tells_ok hR hK.i hMb y236 zv hf9 ht9 hb9 (fun q => (es9 q).2)
        refine xr_act (As := [.ref x0, .int y236, .int zv, .ref (la 0), .ref (la 1), .ref (la 2), .ref (la 3), .ref (la 4), .ref (la 5), .ref (la 6), .ref (la 7), .ref (la 9), .ref (la 11)]) (rest := []) hC hI (qL_tells l hC.2.1 A B D cy g S e0 mi n0 x0 la hK L hV y236 zv f9 hf9 t9 ht9 b9 hb9 s9 hs9 ef9 et9 eb9 es9 hok.1) (va_cwS 13 htsL gL_law_L_tells rfl rfl rfl (by decide +kernel) ⟨Nat.le_of_ble_eq_true rfl, Nat.le_of_ble_eq_true rfl⟩) rfl hl.1 rfl (Nat.le_of_ble_eq_true rfl) dL_law_256 ⟨by show _ ≤ 600130; omega, by show _ ≤ 7301080; omega⟩ (fun g H locs hK hI => ?_)
        have hR := hok.2
        refine lv_istore (lv' := [(14, .int 1), (18, .int zv), (17, .int act), (16, .int v), (0, .ref b), (1, .ref x0), (2, .ref (la 0)), (3, .ref (la 1)), (4, .ref (la 2)), (5, .ref (la 3)), (6, .ref (la 4)), (7, .ref (la 5)), (8, .ref (la 6)), (9, .ref (la 7)), (10, .ref (la 8)), (11, .ref (la 9)), (12, .ref (la 10)), (13, .ref (la 11)), (15, .int (nI i))]) hx hb dL_law_259 hl (by decide) rfl (fun ls hl => ?_)
        refine lv_goto (tgt := 515) hx hb dL_law_261 (by decide) ?_
        refine W.widen (k := cells + 8) (n := slots + 342) (by omega) (by omega) ?_
        exact J515 zv (g, (XS S (fL_tells L y236 zv f9 t9 b9 s9).2.1), (fL_tells L y236 zv f9 t9 b9 s9).1) _ _ ls ⟨hK, hI, hR, lv_sub hl [4, 5, 6, 7, 8, 9, 10, 11, 12, 13, 14, 15, 16, 17, 0, 18, 1] rfl⟩
      · skip
        refine lv_icmp_ge (tgt := 177) hx hb dL_law_170 (by decide) (fun c_3 => ?_) (fun c_3 => ?_)
        · skip
          refine lv_iload hx hb dL_law_177 (lv_at hl 1 rfl) ?_
          refine lv_iconst (v := 4) hx hb dL_law_179 (by decide) ?_
          refine lv_icmp_ge (tgt := 187) hx hb dL_law_180 (by decide) (fun c_4 => ?_) (fun c_4 => ?_)
          · skip
            refine lv_iload hx hb dL_law_187 (lv_at hl 1 rfl) ?_
            refine lv_bipush (v := 9) hx hb dL_law_189 (by decide) ?_
            refine lv_icmp_ge (tgt := 198) hx hb dL_law_191 (by decide) (fun c_5 => ?_) (fun c_5 => ?_)
            · skip
              refine lv_iload hx hb dL_law_198 (lv_at hl 1 rfl) ?_
              refine lv_bipush (v := 12) hx hb dL_law_200 (by decide) ?_
              refine lv_icmp_ge (tgt := 209) hx hb dL_law_202 (by decide) (fun c_6 => ?_) (fun c_6 => ?_)
              · skip
                refine lv_iload hx hb dL_law_209 (lv_at hl 1 rfl) ?_
                refine lv_bipush (v := 16) hx hb dL_law_211 (by decide) ?_
                refine lv_icmp_ge (tgt := 220) hx hb dL_law_213 (by decide) (fun c_7 => ?_) (fun c_7 => ?_)
                · skip
                  refine lv_iload hx hb dL_law_220 (lv_at hl 1 rfl) ?_
                  refine lv_bipush (v := 21) hx hb dL_law_222 (by decide) ?_
                  refine lv_icmp_ge (tgt := 235) hx hb dL_law_224 (by decide) (fun c_8 => ?_) (fun c_8 => ?_)
                  · skip
                    refine lv_iconst (v := 4) hx hb dL_law_235 (by decide) ?_
                    exact J236 4 _ _ ls ⟨hI, lv_sub hl [0, 1, 2, 3, 4, 5, 6, 7, 8, 9, 10, 11, 12, 13, 14, 15, 16, 17, 18] rfl⟩
                  · skip
                    refine lv_iload hx hb dL_law_227 (lv_at hl 1 rfl) ?_
                    refine lv_bipush (v := 11) hx hb dL_law_229 (by decide) ?_
                    refine lv_isub hx hb dL_law_231 ?_
                    refine lv_goto (tgt := 236) hx hb dL_law_232 (by decide) ?_
                    exact J236 (act - 11) _ _ ls ⟨hI, lv_sub hl [0, 1, 2, 3, 4, 5, 6, 7, 8, 9, 10, 11, 12, 13, 14, 15, 16, 17, 18] rfl⟩
                · skip
                  refine lv_iconst (v := 4) hx hb dL_law_216 (by decide) ?_
                  refine lv_goto (tgt := 236) hx hb dL_law_217 (by decide) ?_
                  exact J236 4 _ _ ls ⟨hI, lv_sub hl [0, 1, 2, 3, 4, 5, 6, 7, 8, 9, 10, 11, 12, 13, 14, 15, 16, 17, 18] rfl⟩
              · skip
                refine lv_iconst (v := 3) hx hb dL_law_205 (by decide) ?_
                refine lv_goto (tgt := 236) hx hb dL_law_206 (by decide) ?_
                exact J236 3 _ _ ls ⟨hI, lv_sub hl [0, 1, 2, 3, 4, 5, 6, 7, 8, 9, 10, 11, 12, 13, 14, 15, 16, 17, 18] rfl⟩
            · skip
              refine lv_iconst (v := 2) hx hb dL_law_194 (by decide) ?_
              refine lv_goto (tgt := 236) hx hb dL_law_195 (by decide) ?_
              exact J236 2 _ _ ls ⟨hI, lv_sub hl [0, 1, 2, 3, 4, 5, 6, 7, 8, 9, 10, 11, 12, 13, 14, 15, 16, 17, 18] rfl⟩
          · skip
            refine lv_iconst (v := 1) hx hb dL_law_183 (by decide) ?_
            refine lv_goto (tgt := 236) hx hb dL_law_184 (by decide) ?_
            exact J236 1 _ _ ls ⟨hI, lv_sub hl [0, 1, 2, 3, 4, 5, 6, 7, 8, 9, 10, 11, 12, 13, 14, 15, 16, 17, 18] rfl⟩
        · skip
          refine lv_iconst (v := 0) hx hb dL_law_173 (by decide) ?_
          refine lv_goto (tgt := 236) hx hb dL_law_174 (by decide) ?_
          exact J236 0 _ _ ls ⟨hI, lv_sub hl [0, 1, 2, 3, 4, 5, 6, 7, 8, 9, 10, 11, 12, 13, 14, 15, 16, 17, 18] rfl⟩
    · skip
      refine lv_aload_n hx hb dL_law_148 rfl (lv_at hl 4 rfl) ?_
      refine lv_iload hx hb dL_law_149 (lv_at hl 0 rfl) ?_
      refine lv_aload_n hx hb dL_law_151 rfl (lv_at hl 5 rfl) ?_
      refine lv_aload hx hb dL_law_152 (lv_at hl 9 rfl) ?_
      refine lv_aload hx hb dL_law_154 (lv_at hl 11 rfl) ?_
      refine lv_aload hx hb dL_law_156 (lv_at hl 12 rfl) ?_
      refine lv_aload hx hb dL_law_158 (lv_at hl 16 rfl) ?_
      have hV := hR.v hK.i.m
      obtain ⟨t9, ht9, et9⟩ := low_n zv (n := 5) (N := 5) (by decide) (by decide) (by decide)
      obtain ⟨f9, hf9, ef9⟩ := low_n (zv >>> ((3 : Int32) &&& 31)) (n := 3) (N := 3) (by decide) (by decide) (by decide)
      have hok := (files_ok hR hK.i zv hf9 ht9).up (Nat.le_add_right M 3000)
      refine xr_act (As := [.ref x0, .int zv, .ref (la 0), .ref (la 4), .ref (la 6), .ref (la 7), .ref (la 11)]) (rest := []) hC hI (qL_files l hC.2.1 A B D cy g S e0 mi n0 x0 la hK L hV zv f9 hf9 t9 ht9 et9 ef9 hok.1) (va_cwS 7 htsL gL_law_L_files rfl rfl rfl (by decide +kernel) ⟨Nat.le_of_ble_eq_true rfl, Nat.le_of_ble_eq_true rfl⟩) rfl hl.1 rfl (Nat.le_of_ble_eq_true rfl) dL_law_160 ⟨by show _ ≤ 600130; omega, by show _ ≤ 7301080; omega⟩ (fun g H locs hK hI => ?_)
      have hR := hok.2
      refine lv_goto (tgt := 259) hx hb dL_law_163 (by decide) ?_
      refine lv_istore (lv' := [(14, .int 1), (18, .int zv), (17, .int act), (16, .int v), (0, .ref b), (1, .ref x0), (2, .ref (la 0)), (3, .ref (la 1)), (4, .ref (la 2)), (5, .ref (la 3)), (6, .ref (la 4)), (7, .ref (la 5)), (8, .ref (la 6)), (9, .ref (la 7)), (10, .ref (la 8)), (11, .ref (la 9)), (12, .ref (la 10)), (13, .ref (la 11)), (15, .int (nI i))]) hx hb dL_law_259 hl (by decide) rfl (fun ls hl => ?_)
      refine lv_goto (tgt := 515) hx hb dL_law_261 (by decide) ?_
      refine W.widen (k := cells + 8) (n := slots + 342) (by omega) (by omega) ?_
      exact J515 zv (g, (XS S (fL_files L zv f9 t9).2.1), (fL_files L zv f9 t9).1) _ _ ls ⟨hK, hI, hR, lv_sub hl [4, 5, 6, 7, 8, 9, 10, 11, 12, 13, 14, 15, 16, 17, 0, 18, 1] rfl⟩
  · skip
    refine lv_aload hx hb dL_law_127 (lv_at hl 16 rfl) ?_
    refine lv_iconst (v := 4) hx hb dL_law_129 (by decide) ?_
    refine xr_ld hC hI 11 (by decide) (nx_in (by decide : (4 : Int32) = nI 4) (by decide) (by decide)) (v := (L 11 4)) (congrArg (L 11) (by decide : ix 4 = 4)) dL_law_130 ?_
    refine lv_if_ne (tgt := 264) hx hb dL_law_131 (by decide) (fun c_9 => ?_) (fun c_9 => ?_)
    · skip
      refine lv_iload hx hb dL_law_264 (lv_at hl 1 rfl) ?_
      refine lv_bipush (v := 24) hx hb dL_law_266 (by decide) ?_
      refine lv_icmp_ge (tgt := 291) hx hb dL_law_268 (by decide) (fun c_10 => ?_) (fun c_10 => ?_)
      · skip
        refine lv_iload hx hb dL_law_291 (lv_at hl 1 rfl) ?_
        refine lv_bipush (v := 36) hx hb dL_law_293 (by decide) ?_
        refine lv_icmp_ge (tgt := 367) hx hb dL_law_295 (by decide) (fun c_11 => ?_) (fun c_11 => ?_)
        · skip
          refine lv_iload hx hb dL_law_367 (lv_at hl 1 rfl) ?_
          refine lv_bipush (v := 44) hx hb dL_law_369 (by decide) ?_
          refine lv_icmp_ge (tgt := 429) hx hb dL_law_371 (by decide) (fun c_12 => ?_) (fun c_12 => ?_)
          · skip
            refine lv_iconst (v := 1) hx hb dL_law_429 (by decide) ?_
            refine lv_iload hx hb dL_law_430 (lv_at hl 0 rfl) ?_
            refine lv_iload hx hb dL_law_432 (lv_at hl 0 rfl) ?_
            refine lv_bipush (v := 7) hx hb dL_law_434 (by decide) ?_
            refine lv_ishr hx hb dL_law_436 ?_
            refine lv_bipush (v := 9) hx hb dL_law_437 (by decide) ?_
            refine xr_callS (As := [.int (zv >>> ((7 : Int32) &&& 31)), .int 9]) (rest := [.int zv, .int 1]) hC hI (qL_low l (zv >>> ((7 : Int32) &&& 31)) 9 (by decide)) (va_cwS 2 hts gL_law_L_low rfl rfl rfl (by decide +kernel) ⟨Nat.le_of_ble_eq_true rfl, Nat.le_of_ble_eq_true rfl⟩) rfl hl.1 rfl (Nat.le_of_ble_eq_true rfl) dL_law_439 ⟨by show _ ≤ 600130; omega, by show _ ≤ 7301080; omega⟩ (fun H locs hI => ?_)
            refine lv_if_ne (tgt := 451) hx hb dL_law_442 (by decide) (fun c_13 => ?_) (fun c_13 => ?_)
            · skip
              refine lv_bipush (v := 25) hx hb dL_law_451 (by decide) ?_
              refine xr_callS (As := [.int zv, .int 25]) (rest := [.int 1]) hC hI (qL_low l zv 25 (by decide)) (va_cwS 2 hts gL_law_L_low rfl rfl rfl (by decide +kernel) ⟨Nat.le_of_ble_eq_true rfl, Nat.le_of_ble_eq_true rfl⟩) rfl hl.1 rfl (Nat.le_of_ble_eq_true rfl) dL_law_453 ⟨by show _ ≤ 600130; omega, by show _ ≤ 7301080; omega⟩ (fun H locs hI => ?_)
              refine lv_iadd hx hb dL_law_456 ?_
              obtain ⟨d9, hd0, hd1, ed9⟩ := low1_n zv (n := 25) (N := 25) (by decide) (by decide) (by decide)
              rw [ed9]
              refine lv_istore (lv' := [(19, .int (nI d9)), (18, .int zv), (17, .int act), (16, .int v), (0, .ref b), (1, .ref x0), (2, .ref (la 0)), (3, .ref (la 1)), (4, .ref (la 2)), (5, .ref (la 3)), (6, .ref (la 4)), (7, .ref (la 5)), (8, .ref (la 6)), (9, .ref (la 7)), (10, .ref (la 8)), (11, .ref (la 9)), (12, .ref (la 10)), (13, .ref (la 11)), (14, .int 1), (15, .int (nI i))]) hx hb dL_law_457 hl (by decide) rfl (fun ls hl => ?_)
              refine lv_aload hx hb dL_law_459 (lv_at hl 17 rfl) ?_
              refine lv_iconst (v := 0) hx hb dL_law_461 (by decide) ?_
              refine xr_ld hC hI 11 (by decide) (nx_in (by decide : (0 : Int32) = nI 0) (by decide) (by decide)) (v := (L 11 0)) (congrArg (L 11) (by decide : ix 0 = 0)) dL_law_462 ?_
              refine lv_iload hx hb dL_law_463 (lv_at hl 0 rfl) ?_
              refine lv_iadd hx hb dL_law_465 ?_
              obtain ⟨T9, hT9, eT9⟩ := hK.i.td
              rw [show ((L 11 0) + (nI d9)) = nI (T9 + d9) by rw [hR.q.1, eT9, nI_add]]
              refine lv_istore (lv' := [(20, .int (nI (T9 + d9))), (19, .int (nI d9)), (18, .int zv), (17, .int act), (16, .int v), (0, .ref b), (1, .ref x0), (2, .ref (la 0)), (3, .ref (la 1)), (4, .ref (la 2)), (5, .ref (la 3)), (6, .ref (la 4)), (7, .ref (la 5)), (8, .ref (la 6)), (9, .ref (la 7)), (10, .ref (la 8)), (11, .ref (la 9)), (12, .ref (la 10)), (13, .ref (la 11)), (14, .int 1), (15, .int (nI i))]) hx hb dL_law_466 hl (by decide) rfl (fun ls hl => ?_)
              refine lv_aload hx hb dL_law_468 (lv_at hl 18 rfl) ?_
              refine lv_iconst (v := 0) hx hb dL_law_470 (by decide) ?_
              refine lv_iload hx hb dL_law_471 (lv_at hl 0 rfl) ?_
              refine lv_sipush (v := 3000) hx hb dL_law_473 (by decide) ?_
              refine lv_icmp_le (tgt := 486) hx hb dL_law_476 (by decide) (fun c_14 => ?_) (fun c_14 => ?_)
              · skip
                refine lv_iload hx hb dL_law_486 (lv_at hl 0 rfl) ?_
                refine xr_st hC hK hI 11 (by decide) (nx_in (by decide : (0 : Int32) = nI 0) (by decide) (by decide)) (n := 0) (by decide : ix 0 = 0) dL_law_488 (fun H locs hI => ?_)
                refine lv_iload hx hb dL_law_489 (lv_at hl 0 rfl) ?_
                refine lv_sipush (v := 3000) hx hb dL_law_491 (by decide) ?_
                refine lv_icmp_gt (tgt := 508) hx hb dL_law_494 (by decide) (fun c9 => absurd c9 (ngt_le c_14)) (fun _ => ?_)
                refine lv_aload_n hx hb dL_law_497 rfl (lv_at hl 6 rfl) ?_
                refine lv_iload hx hb dL_law_498 (lv_at hl 1 rfl) ?_
                have hok := (g_pass hR hK.i eT9 hd0 (by omega) (le_3000 (by omega) c_14)).up (Nat.le_add_right M 3000)
                have hok1 := XOK.d hok.1 (by decide)
                refine xr_q (As := [.int (nI d9)]) (rest := []) 21 (nI d9) 0 0 hC hK hI (qX7_pass l hC.2.1 A D cy g hK.1 S e0 hK.v (nI d9)) (k7_pass S (nI d9)) hok1.1 (cwV 1 htsL gL_law_X7_pass rfl rfl rfl (by decide +kernel) ⟨Nat.le_of_ble_eq_true rfl, Nat.le_of_ble_eq_true rfl⟩) rfl hl.1 rfl (Nat.le_of_ble_eq_true rfl) dL_law_500 ⟨by show _ ≤ 600130; omega, by show _ ≤ 7301080; omega⟩ (fun H locs hK hI => ?_)
                have hR := hok.2
                refine lv_iload hx hb dL_law_503 (lv_at hl 0 rfl) ?_
                refine lv_icmp_ne (tgt := 512) hx hb dL_law_505 (by decide) (fun c9 => absurd hok1.2 c9) (fun _ => ?_)
                refine lv_iconst (v := 1) hx hb dL_law_508 (by decide) ?_
                refine lv_goto (tgt := 513) hx hb dL_law_509 (by decide) ?_
                refine lv_istore (lv' := [(14, .int 1), (20, .int (nI (T9 + d9))), (19, .int (nI d9)), (18, .int zv), (17, .int act), (16, .int v), (0, .ref b), (1, .ref x0), (2, .ref (la 0)), (3, .ref (la 1)), (4, .ref (la 2)), (5, .ref (la 3)), (6, .ref (la 4)), (7, .ref (la 5)), (8, .ref (la 6)), (9, .ref (la 7)), (10, .ref (la 8)), (11, .ref (la 9)), (12, .ref (la 10)), (13, .ref (la 11)), (15, .int (nI i))]) hx hb dL_law_513 hl (by decide) rfl (fun ls hl => ?_)
                refine W.widen (k := cells + 8) (n := slots + 342) (by omega) (by omega) ?_
                exact J515 zv (g, (XS S (21, nI d9, 0, 0)), (up L 11 0 (nI (T9 + d9)))) _ _ ls ⟨hK, hI, hR, lv_sub hl [6, 7, 8, 9, 10, 11, 12, 13, 14, 15, 16, 17, 18, 19, 0, 20, 3] rfl⟩
              · skip
                refine lv_aload hx hb dL_law_479 (lv_at hl 18 rfl) ?_
                refine lv_iconst (v := 0) hx hb dL_law_481 (by decide) ?_
                refine xr_ld hC hI 11 (by decide) (nx_in (by decide : (0 : Int32) = nI 0) (by decide) (by decide)) (v := (L 11 0)) (congrArg (L 11) (by decide : ix 0 = 0)) dL_law_482 ?_
                refine lv_goto (tgt := 488) hx hb dL_law_483 (by decide) ?_
                refine xr_st hC hK hI 11 (by decide) (nx_in (by decide : (0 : Int32) = nI 0) (by decide) (by decide)) (n := 0) (by decide : ix 0 = 0) dL_law_488 (fun H locs hI => ?_)
                refine lv_iload hx hb dL_law_489 (lv_at hl 0 rfl) ?_
                refine lv_sipush (v := 3000) hx hb dL_law_491 (by decide) ?_
                refine lv_icmp_gt (tgt := 508) hx hb dL_law_494 (by decide) (fun _ => ?_) (fun c9 => absurd (gt_nle c_14) c9)
                refine lv_iconst (v := 1) hx hb dL_law_508 (by decide) ?_
                refine lv_goto (tgt := 513) hx hb dL_law_509 (by decide) ?_
                refine lv_istore (lv' := [(14, .int 1), (20, .int (nI (T9 + d9))), (19, .int (nI d9)), (18, .int zv), (17, .int act), (16, .int v), (0, .ref b), (1, .ref x0), (2, .ref (la 0)), (3, .ref (la 1)), (4, .ref (la 2)), (5, .ref (la 3)), (6, .ref (la 4)), (7, .ref (la 5)), (8, .ref (la 6)), (9, .ref (la 7)), (10, .ref (la 8)), (11, .ref (la 9)), (12, .ref (la 10)), (13, .ref (la 11)), (15, .int (nI i))]) hx hb dL_law_513 hl (by decide) rfl (fun ls hl => ?_)
                refine W.widen (k := cells + 8) (n := slots + 342) (by omega) (by omega) ?_
                exact J515 zv (g, S, (up L 11 0 (L 11 0))) _ _ ls ⟨hK, hI, (show REL (M + 3000) S ((up L 11 0 (L 11 0))) by rw [up_same rfl]; exact hR.up (Nat.le_add_right M 3000)), lv_sub hl [6, 7, 8, 9, 10, 11, 12, 13, 14, 15, 16, 17, 18, 19, 0, 20, 3] rfl⟩
            · skip
              refine lv_sipush (v := 300) hx hb dL_law_445 (by decide) ?_
              refine lv_goto (tgt := 453) hx hb dL_law_448 (by decide) ?_
              refine xr_callS (As := [.int zv, .int 300]) (rest := [.int 1]) hC hI (qL_low l zv 300 (by decide)) (va_cwS 2 hts gL_law_L_low rfl rfl rfl (by decide +kernel) ⟨Nat.le_of_ble_eq_true rfl, Nat.le_of_ble_eq_true rfl⟩) rfl hl.1 rfl (Nat.le_of_ble_eq_true rfl) dL_law_453 ⟨by show _ ≤ 600130; omega, by show _ ≤ 7301080; omega⟩ (fun H locs hI => ?_)
              refine lv_iadd hx hb dL_law_456 ?_
              obtain ⟨d9, hd0, hd1, ed9⟩ := low1_n zv (n := 300) (N := 300) (by decide) (by decide) (by decide)
              rw [ed9]
              refine lv_istore (lv' := [(19, .int (nI d9)), (18, .int zv), (17, .int act), (16, .int v), (0, .ref b), (1, .ref x0), (2, .ref (la 0)), (3, .ref (la 1)), (4, .ref (la 2)), (5, .ref (la 3)), (6, .ref (la 4)), (7, .ref (la 5)), (8, .ref (la 6)), (9, .ref (la 7)), (10, .ref (la 8)), (11, .ref (la 9)), (12, .ref (la 10)), (13, .ref (la 11)), (14, .int 1), (15, .int (nI i))]) hx hb dL_law_457 hl (by decide) rfl (fun ls hl => ?_)
              refine lv_aload hx hb dL_law_459 (lv_at hl 17 rfl) ?_
              refine lv_iconst (v := 0) hx hb dL_law_461 (by decide) ?_
              refine xr_ld hC hI 11 (by decide) (nx_in (by decide : (0 : Int32) = nI 0) (by decide) (by decide)) (v := (L 11 0)) (congrArg (L 11) (by decide : ix 0 = 0)) dL_law_462 ?_
              refine lv_iload hx hb dL_law_463 (lv_at hl 0 rfl) ?_
              refine lv_iadd hx hb dL_law_465 ?_
              obtain ⟨T9, hT9, eT9⟩ := hK.i.td
              rw [show ((L 11 0) + (nI d9)) = nI (T9 + d9) by rw [hR.q.1, eT9, nI_add]]
              refine lv_istore (lv' := [(20, .int (nI (T9 + d9))), (19, .int (nI d9)), (18, .int zv), (17, .int act), (16, .int v), (0, .ref b), (1, .ref x0), (2, .ref (la 0)), (3, .ref (la 1)), (4, .ref (la 2)), (5, .ref (la 3)), (6, .ref (la 4)), (7, .ref (la 5)), (8, .ref (la 6)), (9, .ref (la 7)), (10, .ref (la 8)), (11, .ref (la 9)), (12, .ref (la 10)), (13, .ref (la 11)), (14, .int 1), (15, .int (nI i))]) hx hb dL_law_466 hl (by decide) rfl (fun ls hl => ?_)
              refine lv_aload hx hb dL_law_468 (lv_at hl 18 rfl) ?_
              refine lv_iconst (v := 0) hx hb dL_law_470 (by decide) ?_
              refine lv_iload hx hb dL_law_471 (lv_at hl 0 rfl) ?_
              refine lv_sipush (v := 3000) hx hb dL_law_473 (by decide) ?_
              refine lv_icmp_le (tgt := 486) hx hb dL_law_476 (by decide) (fun c_15 => ?_) (fun c_15 => ?_)
              · skip
                refine lv_iload hx hb dL_law_486 (lv_at hl 0 rfl) ?_
                refine xr_st hC hK hI 11 (by decide) (nx_in (by decide : (0 : Int32) = nI 0) (by decide) (by decide)) (n := 0) (by decide : ix 0 = 0) dL_law_488 (fun H locs hI => ?_)
                refine lv_iload hx hb dL_law_489 (lv_at hl 0 rfl) ?_
                refine lv_sipush (v := 3000) hx hb dL_law_491 (by decide) ?_
                refine lv_icmp_gt (tgt := 508) hx hb dL_law_494 (by decide) (fun c9 => absurd c9 (ngt_le c_15)) (fun _ => ?_)
                refine lv_aload_n hx hb dL_law_497 rfl (lv_at hl 6 rfl) ?_
                refine lv_iload hx hb dL_law_498 (lv_at hl 1 rfl) ?_
                have hok := (g_pass hR hK.i eT9 hd0 (by omega) (le_3000 (by omega) c_15)).up (Nat.le_add_right M 3000)
                have hok1 := XOK.d hok.1 (by decide)
                refine xr_q (As := [.int (nI d9)]) (rest := []) 21 (nI d9) 0 0 hC hK hI (qX7_pass l hC.2.1 A D cy g hK.1 S e0 hK.v (nI d9)) (k7_pass S (nI d9)) hok1.1 (cwV 1 htsL gL_law_X7_pass rfl rfl rfl (by decide +kernel) ⟨Nat.le_of_ble_eq_true rfl, Nat.le_of_ble_eq_true rfl⟩) rfl hl.1 rfl (Nat.le_of_ble_eq_true rfl) dL_law_500 ⟨by show _ ≤ 600130; omega, by show _ ≤ 7301080; omega⟩ (fun H locs hK hI => ?_)
                have hR := hok.2
                refine lv_iload hx hb dL_law_503 (lv_at hl 0 rfl) ?_
                refine lv_icmp_ne (tgt := 512) hx hb dL_law_505 (by decide) (fun c9 => absurd hok1.2 c9) (fun _ => ?_)
                refine lv_iconst (v := 1) hx hb dL_law_508 (by decide) ?_
                refine lv_goto (tgt := 513) hx hb dL_law_509 (by decide) ?_
                refine lv_istore (lv' := [(14, .int 1), (20, .int (nI (T9 + d9))), (19, .int (nI d9)), (18, .int zv), (17, .int act), (16, .int v), (0, .ref b), (1, .ref x0), (2, .ref (la 0)), (3, .ref (la 1)), (4, .ref (la 2)), (5, .ref (la 3)), (6, .ref (la 4)), (7, .ref (la 5)), (8, .ref (la 6)), (9, .ref (la 7)), (10, .ref (la 8)), (11, .ref (la 9)), (12, .ref (la 10)), (13, .ref (la 11)), (15, .int (nI i))]) hx hb dL_law_513 hl (by decide) rfl (fun ls hl => ?_)
                refine W.widen (k := cells + 8) (n := slots + 342) (by omega) (by omega) ?_
                exact J515 zv (g, (XS S (21, nI d9, 0, 0)), (up L 11 0 (nI (T9 + d9)))) _ _ ls ⟨hK, hI, hR, lv_sub hl [6, 7, 8, 9, 10, 11, 12, 13, 14, 15, 16, 17, 18, 19, 0, 20, 3] rfl⟩
              · skip
                refine lv_aload hx hb dL_law_479 (lv_at hl 18 rfl) ?_
                refine lv_iconst (v := 0) hx hb dL_law_481 (by decide) ?_
                refine xr_ld hC hI 11 (by decide) (nx_in (by decide : (0 : Int32) = nI 0) (by decide) (by decide)) (v := (L 11 0)) (congrArg (L 11) (by decide : ix 0 = 0)) dL_law_482 ?_
                refine lv_goto (tgt := 488) hx hb dL_law_483 (by decide) ?_
                refine xr_st hC hK hI 11 (by decide) (nx_in (by decide : (0 : Int32) = nI 0) (by decide) (by decide)) (n := 0) (by decide : ix 0 = 0) dL_law_488 (fun H locs hI => ?_)
                refine lv_iload hx hb dL_law_489 (lv_at hl 0 rfl) ?_
                refine lv_sipush (v := 3000) hx hb dL_law_491 (by decide) ?_
                refine lv_icmp_gt (tgt := 508) hx hb dL_law_494 (by decide) (fun _ => ?_) (fun c9 => absurd (gt_nle c_15) c9)
                refine lv_iconst (v := 1) hx hb dL_law_508 (by decide) ?_
                refine lv_goto (tgt := 513) hx hb dL_law_509 (by decide) ?_
                refine lv_istore (lv' := [(14, .int 1), (20, .int (nI (T9 + d9))), (19, .int (nI d9)), (18, .int zv), (17, .int act), (16, .int v), (0, .ref b), (1, .ref x0), (2, .ref (la 0)), (3, .ref (la 1)), (4, .ref (la 2)), (5, .ref (la 3)), (6, .ref (la 4)), (7, .ref (la 5)), (8, .ref (la 6)), (9, .ref (la 7)), (10, .ref (la 8)), (11, .ref (la 9)), (12, .ref (la 10)), (13, .ref (la 11)), (15, .int (nI i))]) hx hb dL_law_513 hl (by decide) rfl (fun ls hl => ?_)
                refine W.widen (k := cells + 8) (n := slots + 342) (by omega) (by omega) ?_
                exact J515 zv (g, S, (up L 11 0 (L 11 0))) _ _ ls ⟨hK, hI, (show REL (M + 3000) S ((up L 11 0 (L 11 0))) by rw [up_same rfl]; exact hR.up (Nat.le_add_right M 3000)), lv_sub hl [6, 7, 8, 9, 10, 11, 12, 13, 14, 15, 16, 17, 18, 19, 0, 20, 3] rfl⟩
          · skip
            refine lv_aload_n hx hb dL_law_374 rfl (lv_at hl 4 rfl) ?_
            refine lv_iload hx hb dL_law_375 (lv_at hl 1 rfl) ?_
            refine lv_bipush (v := 38) hx hb dL_law_377 (by decide) ?_
            refine w_join (σ := Int32) 409 (fun y409 H locs ls => XI A B D cy g n0 la s S L H locs ∧ lv_has ls 21 [(18, .int zv), (17, .int act), (16, .int v), (0, .ref b), (1, .ref x0), (2, .ref (la 0)), (3, .ref (la 1)), (4, .ref (la 2)), (5, .ref (la 3)), (6, .ref (la 4)), (7, .ref (la 5)), (8, .ref (la 6)), (9, .ref (la 7)), (10, .ref (la 8)), (11, .ref (la 9)), (12, .ref (la 10)), (13, .ref (la 11)), (14, .int 1), (15, .int (nI i))]) (fun y409 => [.int y409, .ref x0]) ?_ (fun J409 => ?_)
            · intro y409 H locs ls ⟨hI, hl⟩
              refine lv_iload hx hb dL_law_409 (lv_at hl 0 rfl) ?_
              refine lv_aload hx hb dL_law_411 (lv_at hl 9 rfl) ?_
              refine lv_aload hx hb dL_law_413 (lv_at hl 11 rfl) ?_
              refine lv_aload hx hb dL_law_415 (lv_at hl 14 rfl) ?_
              refine lv_aload hx hb dL_law_417 (lv_at hl 15 rfl) ?_
              refine lv_aload hx hb dL_law_419 (lv_at hl 16 rfl) ?_
              have hV := hR.v hK.i.m
              obtain ⟨f9, hf9, ef9⟩ := low_n zv (n := 3) (N := 3) (by decide) (by decide) (by decide)
              obtain ⟨t9, ht9, et9⟩ := low_n (zv >>> ((2 : Int32) &&& 31)) (n := 5) (N := 5) (by decide) (by decide) (by decide)
              have hok := (wages_ok hR hK.i hMb y409 zv hf9 ht9).up (Nat.le_add_right M 3000)
              refine xr_act (As := [.ref x0, .int y409, .int zv, .ref (la 4), .ref (la 6), .ref (la 9), .ref (la 10), .ref (la 11)]) (rest := []) hC hI (qL_wages l hC.2.1 A B D cy g S e0 mi n0 x0 la hK L hV y409 zv f9 hf9 t9 ht9 ef9 et9 (emp_in hR ht9) hok.1) (va_cwS 8 htsL gL_law_L_wages rfl rfl rfl (by decide +kernel) ⟨Nat.le_of_ble_eq_true rfl, Nat.le_of_ble_eq_true rfl⟩) rfl hl.1 rfl (Nat.le_of_ble_eq_true rfl) dL_law_421 ⟨by show _ ≤ 600130; omega, by show _ ≤ 7301080; omega⟩ (fun g H locs hK hI => ?_)
              have hR := hok.2
              refine lv_istore (lv' := [(14, .int 1), (18, .int zv), (17, .int act), (16, .int v), (0, .ref b), (1, .ref x0), (2, .ref (la 0)), (3, .ref (la 1)), (4, .ref (la 2)), (5, .ref (la 3)), (6, .ref (la 4)), (7, .ref (la 5)), (8, .ref (la 6)), (9, .ref (la 7)), (10, .ref (la 8)), (11, .ref (la 9)), (12, .ref (la 10)), (13, .ref (la 11)), (15, .int (nI i))]) hx hb dL_law_424 hl (by decide) rfl (fun ls hl => ?_)
              refine lv_goto (tgt := 515) hx hb dL_law_426 (by decide) ?_
              refine W.widen (k := cells + 8) (n := slots + 342) (by omega) (by omega) ?_
              exact J515 zv (g, (XS S (fL_wages L y409 zv f9 t9).2.1), (fL_wages L y409 zv f9 t9).1) _ _ ls ⟨hK, hI, hR, lv_sub hl [4, 5, 6, 7, 8, 9, 10, 11, 12, 13, 14, 15, 16, 17, 0, 18, 1] rfl⟩
            · skip
              refine lv_icmp_ge (tgt := 386) hx hb dL_law_379 (by decide) (fun c_16 => ?_) (fun c_16 => ?_)
              · skip
                refine lv_iload hx hb dL_law_386 (lv_at hl 1 rfl) ?_
                refine lv_bipush (v := 40) hx hb dL_law_388 (by decide) ?_
                refine lv_icmp_ge (tgt := 397) hx hb dL_law_390 (by decide) (fun c_17 => ?_) (fun c_17 => ?_)
                · skip
                  refine lv_iload hx hb dL_law_397 (lv_at hl 1 rfl) ?_
                  refine lv_bipush (v := 42) hx hb dL_law_399 (by decide) ?_
                  refine lv_icmp_ge (tgt := 408) hx hb dL_law_401 (by decide) (fun c_18 => ?_) (fun c_18 => ?_)
                  · skip
                    refine lv_iconst (v := 3) hx hb dL_law_408 (by decide) ?_
                    exact J409 3 _ _ ls ⟨hI, lv_sub hl [0, 1, 2, 3, 4, 5, 6, 7, 8, 9, 10, 11, 12, 13, 14, 15, 16, 17, 18] rfl⟩
                  · skip
                    refine lv_iconst (v := 2) hx hb dL_law_404 (by decide) ?_
                    refine lv_goto (tgt := 409) hx hb dL_law_405 (by decide) ?_
                    exact J409 2 _ _ ls ⟨hI, lv_sub hl [0, 1, 2, 3, 4, 5, 6, 7, 8, 9, 10, 11, 12, 13, 14, 15, 16, 17, 18] rfl⟩
                · skip
                  refine lv_iconst (v := 1) hx hb dL_law_393 (by decide) ?_
                  refine lv_goto (tgt := 409) hx hb dL_law_394 (by decide) ?_
                  exact J409 1 _ _ ls ⟨hI, lv_sub hl [0, 1, 2, 3, 4, 5, 6, 7, 8, 9, 10, 11, 12, 13, 14, 15, 16, 17, 18] rfl⟩
              · skip
                refine lv_iconst (v := 0) hx hb dL_law_382 (by decide) ?_
                refine lv_goto (tgt := 409) hx hb dL_law_383 (by decide) ?_
                exact J409 0 _ _ ls ⟨hI, lv_sub hl [0, 1, 2, 3, 4, 5, 6, 7, 8, 9, 10, 11, 12, 13, 14, 15, 16, 17, 18] rfl⟩
        · skip
          refine lv_aload_n hx hb dL_law_298 rfl (lv_at hl 4 rfl) ?_
          refine lv_iload hx hb dL_law_299 (lv_at hl 1 rfl) ?_
          refine lv_bipush (v := 28) hx hb dL_law_301 (by decide) ?_
          refine w_join (σ := Int32) 337 (fun y337 H locs ls => XI A B D cy g n0 la s S L H locs ∧ lv_has ls 21 [(18, .int zv), (17, .int act), (16, .int v), (0, .ref b), (1, .ref x0), (2, .ref (la 0)), (3, .ref (la 1)), (4, .ref (la 2)), (5, .ref (la 3)), (6, .ref (la 4)), (7, .ref (la 5)), (8, .ref (la 6)), (9, .ref (la 7)), (10, .ref (la 8)), (11, .ref (la 9)), (12, .ref (la 10)), (13, .ref (la 11)), (14, .int 1), (15, .int (nI i))]) (fun y337 => [.int y337, .ref x0]) ?_ (fun J337 => ?_)
          · intro y337 H locs ls ⟨hI, hl⟩
            refine lv_iload hx hb dL_law_337 (lv_at hl 0 rfl) ?_
            refine lv_aload_n hx hb dL_law_339 rfl (lv_at hl 5 rfl) ?_
            refine lv_aload_n hx hb dL_law_340 rfl (lv_at hl 6 rfl) ?_
            refine lv_aload hx hb dL_law_341 (lv_at hl 7 rfl) ?_
            refine lv_aload hx hb dL_law_343 (lv_at hl 8 rfl) ?_
            refine lv_aload hx hb dL_law_345 (lv_at hl 9 rfl) ?_
            refine lv_aload hx hb dL_law_347 (lv_at hl 10 rfl) ?_
            refine lv_aload hx hb dL_law_349 (lv_at hl 11 rfl) ?_
            refine lv_aload hx hb dL_law_351 (lv_at hl 12 rfl) ?_
            refine lv_aload hx hb dL_law_353 (lv_at hl 13 rfl) ?_
            refine lv_aload hx hb dL_law_355 (lv_at hl 14 rfl) ?_
            refine lv_aload hx hb dL_law_357 (lv_at hl 16 rfl) ?_
            have hV := hR.v hK.i.m
            obtain ⟨k9, hk9, ek9⟩ := low_n zv (n := L 11 4) (N := q4 L) hV.n4 (cnt_pos hV.n4 (by assumption)) (by have := hV.b4; omega)
            have hk98 : k9 < 8 := by have := hV.b4; omega
            have hok := (suits_ok hR hK.i hMb y337 zv (by rw [← hR.q4e]; exact hk9)).up (Nat.le_add_right M 3000)
            obtain ⟨N9, hN0, hN1, eN9⟩ := due_num hR hK.i hMb (by rw [← hR.q4e]; exact hk9)
            refine xr_act (As := [.ref x0, .int y337, .int zv, .ref (la 0), .ref (la 1), .ref (la 2), .ref (la 3), .ref (la 4), .ref (la 5), .ref (la 6), .ref (la 7), .ref (la 8), .ref (la 9), .ref (la 11)]) (rest := []) hC hI (qL_suits l hC.2.1 A B D cy g S e0 mi n0 x0 la hK L hV y337 zv k9 hk98 (by assumption) ek9 (by rw [eN9]; exact nI_ne0 hN0 (by omega)) hok.1) (va_cwS 14 htsL gL_law_L_suits rfl rfl rfl (by decide +kernel) ⟨Nat.le_of_ble_eq_true rfl, Nat.le_of_ble_eq_true rfl⟩) rfl hl.1 rfl (Nat.le_of_ble_eq_true rfl) dL_law_359 ⟨by show _ ≤ 600130; omega, by show _ ≤ 7301080; omega⟩ (fun g H locs hK hI => ?_)
            have hR := hok.2
            refine lv_istore (lv' := [(14, .int 1), (18, .int zv), (17, .int act), (16, .int v), (0, .ref b), (1, .ref x0), (2, .ref (la 0)), (3, .ref (la 1)), (4, .ref (la 2)), (5, .ref (la 3)), (6, .ref (la 4)), (7, .ref (la 5)), (8, .ref (la 6)), (9, .ref (la 7)), (10, .ref (la 8)), (11, .ref (la 9)), (12, .ref (la 10)), (13, .ref (la 11)), (15, .int (nI i))]) hx hb dL_law_362 hl (by decide) rfl (fun ls hl => ?_)
            refine lv_goto (tgt := 515) hx hb dL_law_364 (by decide) ?_
            refine W.widen (k := cells + 8) (n := slots + 342) (by omega) (by omega) ?_
            exact J515 zv (g, (XS S (fL_suits L y337 zv k9).2.1), (fL_suits L y337 zv k9).1) _ _ ls ⟨hK, hI, hR, lv_sub hl [4, 5, 6, 7, 8, 9, 10, 11, 12, 13, 14, 15, 16, 17, 0, 18, 1] rfl⟩
          · skip
            refine lv_icmp_ge (tgt := 310) hx hb dL_law_303 (by decide) (fun c_19 => ?_) (fun c_19 => ?_)
            · skip
              refine lv_iload hx hb dL_law_310 (lv_at hl 1 rfl) ?_
              refine lv_bipush (v := 30) hx hb dL_law_312 (by decide) ?_
              refine lv_icmp_ge (tgt := 321) hx hb dL_law_314 (by decide) (fun c_20 => ?_) (fun c_20 => ?_)
              · skip
                refine lv_iload hx hb dL_law_321 (lv_at hl 1 rfl) ?_
                refine lv_bipush (v := 33) hx hb dL_law_323 (by decide) ?_
                refine lv_icmp_ge (tgt := 332) hx hb dL_law_325 (by decide) (fun c_21 => ?_) (fun c_21 => ?_)
                · skip
                  refine lv_iload hx hb dL_law_332 (lv_at hl 1 rfl) ?_
                  refine lv_bipush (v := 30) hx hb dL_law_334 (by decide) ?_
                  refine lv_isub hx hb dL_law_336 ?_
                  exact J337 (act - 30) _ _ ls ⟨hI, lv_sub hl [0, 1, 2, 3, 4, 5, 6, 7, 8, 9, 10, 11, 12, 13, 14, 15, 16, 17, 18] rfl⟩
                · skip
                  refine lv_iconst (v := 2) hx hb dL_law_328 (by decide) ?_
                  refine lv_goto (tgt := 337) hx hb dL_law_329 (by decide) ?_
                  exact J337 2 _ _ ls ⟨hI, lv_sub hl [0, 1, 2, 3, 4, 5, 6, 7, 8, 9, 10, 11, 12, 13, 14, 15, 16, 17, 18] rfl⟩
              · skip
                refine lv_iconst (v := 1) hx hb dL_law_317 (by decide) ?_
                refine lv_goto (tgt := 337) hx hb dL_law_318 (by decide) ?_
                exact J337 1 _ _ ls ⟨hI, lv_sub hl [0, 1, 2, 3, 4, 5, 6, 7, 8, 9, 10, 11, 12, 13, 14, 15, 16, 17, 18] rfl⟩
            · skip
              refine lv_iconst (v := 0) hx hb dL_law_306 (by decide) ?_
              refine lv_goto (tgt := 337) hx hb dL_law_307 (by decide) ?_
              exact J337 0 _ _ ls ⟨hI, lv_sub hl [0, 1, 2, 3, 4, 5, 6, 7, 8, 9, 10, 11, 12, 13, 14, 15, 16, 17, 18] rfl⟩
      · skip
        refine lv_aload_n hx hb dL_law_271 rfl (lv_at hl 4 rfl) ?_
        refine lv_iload hx hb dL_law_272 (lv_at hl 0 rfl) ?_
        refine lv_aload_n hx hb dL_law_274 rfl (lv_at hl 5 rfl) ?_
        refine lv_aload hx hb dL_law_275 (lv_at hl 9 rfl) ?_
        refine lv_aload hx hb dL_law_277 (lv_at hl 11 rfl) ?_
        refine lv_aload hx hb dL_law_279 (lv_at hl 12 rfl) ?_
        refine lv_aload hx hb dL_law_281 (lv_at hl 16 rfl) ?_
        have hV := hR.v hK.i.m
        obtain ⟨t9, ht9, et9⟩ := low_n zv (n := 5) (N := 5) (by decide) (by decide) (by decide)
        obtain ⟨f9, hf9, ef9⟩ := low_n (zv >>> ((3 : Int32) &&& 31)) (n := 3) (N := 3) (by decide) (by decide) (by decide)
        have hok := (files_ok hR hK.i zv hf9 ht9).up (Nat.le_add_right M 3000)
        refine xr_act (As := [.ref x0, .int zv, .ref (la 0), .ref (la 4), .ref (la 6), .ref (la 7), .ref (la 11)]) (rest := []) hC hI (qL_files l hC.2.1 A B D cy g S e0 mi n0 x0 la hK L hV zv f9 hf9 t9 ht9 et9 ef9 hok.1) (va_cwS 7 htsL gL_law_L_files rfl rfl rfl (by decide +kernel) ⟨Nat.le_of_ble_eq_true rfl, Nat.le_of_ble_eq_true rfl⟩) rfl hl.1 rfl (Nat.le_of_ble_eq_true rfl) dL_law_283 ⟨by show _ ≤ 600130; omega, by show _ ≤ 7301080; omega⟩ (fun g H locs hK hI => ?_)
        have hR := hok.2
        refine lv_istore (lv' := [(14, .int 1), (18, .int zv), (17, .int act), (16, .int v), (0, .ref b), (1, .ref x0), (2, .ref (la 0)), (3, .ref (la 1)), (4, .ref (la 2)), (5, .ref (la 3)), (6, .ref (la 4)), (7, .ref (la 5)), (8, .ref (la 6)), (9, .ref (la 7)), (10, .ref (la 8)), (11, .ref (la 9)), (12, .ref (la 10)), (13, .ref (la 11)), (15, .int (nI i))]) hx hb dL_law_286 hl (by decide) rfl (fun ls hl => ?_)
        refine lv_goto (tgt := 515) hx hb dL_law_288 (by decide) ?_
        refine W.widen (k := cells + 8) (n := slots + 342) (by omega) (by omega) ?_
        exact J515 zv (g, (XS S (fL_files L zv f9 t9).2.1), (fL_files L zv f9 t9).1) _ _ ls ⟨hK, hI, hR, lv_sub hl [4, 5, 6, 7, 8, 9, 10, 11, 12, 13, 14, 15, 16, 17, 0, 18, 1] rfl⟩
    · skip
      refine lv_iload hx hb dL_law_134 (lv_at hl 1 rfl) ?_
      refine lv_bipush (v := 36) hx hb dL_law_136 (by decide) ?_
      refine lv_icmp_ge (tgt := 264) hx hb dL_law_138 (by decide) (fun c_22 => ?_) (fun c_22 => ?_)
      · skip
        refine lv_iload hx hb dL_law_264 (lv_at hl 1 rfl) ?_
        refine lv_bipush (v := 24) hx hb dL_law_266 (by decide) ?_
        refine lv_icmp_ge (tgt := 291) hx hb dL_law_268 (by decide) (fun c_23 => ?_) (fun c_23 => ?_)
        · skip
          refine lv_iload hx hb dL_law_291 (lv_at hl 1 rfl) ?_
          refine lv_bipush (v := 36) hx hb dL_law_293 (by decide) ?_
          refine lv_icmp_ge (tgt := 367) hx hb dL_law_295 (by decide) (fun _ => ?_) (fun c => absurd c_22 c)
          refine lv_iload hx hb dL_law_367 (lv_at hl 1 rfl) ?_
          refine lv_bipush (v := 44) hx hb dL_law_369 (by decide) ?_
          refine lv_icmp_ge (tgt := 429) hx hb dL_law_371 (by decide) (fun c_24 => ?_) (fun c_24 => ?_)
          · skip
            refine lv_iconst (v := 1) hx hb dL_law_429 (by decide) ?_
            refine lv_iload hx hb dL_law_430 (lv_at hl 0 rfl) ?_
            refine lv_iload hx hb dL_law_432 (lv_at hl 0 rfl) ?_
            refine lv_bipush (v := 7) hx hb dL_law_434 (by decide) ?_
            refine lv_ishr hx hb dL_law_436 ?_
            refine lv_bipush (v := 9) hx hb dL_law_437 (by decide) ?_
            refine xr_callS (As := [.int (zv >>> ((7 : Int32) &&& 31)), .int 9]) (rest := [.int zv, .int 1]) hC hI (qL_low l (zv >>> ((7 : Int32) &&& 31)) 9 (by decide)) (va_cwS 2 hts gL_law_L_low rfl rfl rfl (by decide +kernel) ⟨Nat.le_of_ble_eq_true rfl, Nat.le_of_ble_eq_true rfl⟩) rfl hl.1 rfl (Nat.le_of_ble_eq_true rfl) dL_law_439 ⟨by show _ ≤ 600130; omega, by show _ ≤ 7301080; omega⟩ (fun H locs hI => ?_)
            refine lv_if_ne (tgt := 451) hx hb dL_law_442 (by decide) (fun c_25 => ?_) (fun c_25 => ?_)
            · skip
              refine lv_bipush (v := 25) hx hb dL_law_451 (by decide) ?_
              refine xr_callS (As := [.int zv, .int 25]) (rest := [.int 1]) hC hI (qL_low l zv 25 (by decide)) (va_cwS 2 hts gL_law_L_low rfl rfl rfl (by decide +kernel) ⟨Nat.le_of_ble_eq_true rfl, Nat.le_of_ble_eq_true rfl⟩) rfl hl.1 rfl (Nat.le_of_ble_eq_true rfl) dL_law_453 ⟨by show _ ≤ 600130; omega, by show _ ≤ 7301080; omega⟩ (fun H locs hI => ?_)
              refine lv_iadd hx hb dL_law_456 ?_
              obtain ⟨d9, hd0, hd1, ed9⟩ := low1_n zv (n := 25) (N := 25) (by decide) (by decide) (by decide)
              rw [ed9]
              refine lv_istore (lv' := [(19, .int (nI d9)), (18, .int zv), (17, .int act), (16, .int v), (0, .ref b), (1, .ref x0), (2, .ref (la 0)), (3, .ref (la 1)), (4, .ref (la 2)), (5, .ref (la 3)), (6, .ref (la 4)), (7, .ref (la 5)), (8, .ref (la 6)), (9, .ref (la 7)), (10, .ref (la 8)), (11, .ref (la 9)), (12, .ref (la 10)), (13, .ref (la 11)), (14, .int 1), (15, .int (nI i))]) hx hb dL_law_457 hl (by decide) rfl (fun ls hl => ?_)
              refine lv_aload hx hb dL_law_459 (lv_at hl 17 rfl) ?_
              refine lv_iconst (v := 0) hx hb dL_law_461 (by decide) ?_
              refine xr_ld hC hI 11 (by decide) (nx_in (by decide : (0 : Int32) = nI 0) (by decide) (by decide)) (v := (L 11 0)) (congrArg (L 11) (by decide : ix 0 = 0)) dL_law_462 ?_
              refine lv_iload hx hb dL_law_463 (lv_at hl 0 rfl) ?_
              refine lv_iadd hx hb dL_law_465 ?_
              obtain ⟨T9, hT9, eT9⟩ := hK.i.td
              rw [show ((L 11 0) + (nI d9)) = nI (T9 + d9) by rw [hR.q.1, eT9, nI_add]]
              refine lv_istore (lv' := [(20, .int (nI (T9 + d9))), (19, .int (nI d9)), (18, .int zv), (17, .int act), (16, .int v), (0, .ref b), (1, .ref x0), (2, .ref (la 0)), (3, .ref (la 1)), (4, .ref (la 2)), (5, .ref (la 3)), (6, .ref (la 4)), (7, .ref (la 5)), (8, .ref (la 6)), (9, .ref (la 7)), (10, .ref (la 8)), (11, .ref (la 9)), (12, .ref (la 10)), (13, .ref (la 11)), (14, .int 1), (15, .int (nI i))]) hx hb dL_law_466 hl (by decide) rfl (fun ls hl => ?_)
              refine lv_aload hx hb dL_law_468 (lv_at hl 18 rfl) ?_
              refine lv_iconst (v := 0) hx hb dL_law_470 (by decide) ?_
              refine lv_iload hx hb dL_law_471 (lv_at hl 0 rfl) ?_
              refine lv_sipush (v := 3000) hx hb dL_law_473 (by decide) ?_
              refine lv_icmp_le (tgt := 486) hx hb dL_law_476 (by decide) (fun c_26 => ?_) (fun c_26 => ?_)
              · skip
                refine lv_iload hx hb dL_law_486 (lv_at hl 0 rfl) ?_
                refine xr_st hC hK hI 11 (by decide) (nx_in (by decide : (0 : Int32) = nI 0) (by decide) (by decide)) (n := 0) (by decide : ix 0 = 0) dL_law_488 (fun H locs hI => ?_)
                refine lv_iload hx hb dL_law_489 (lv_at hl 0 rfl) ?_
                refine lv_sipush (v := 3000) hx hb dL_law_491 (by decide) ?_
                refine lv_icmp_gt (tgt := 508) hx hb dL_law_494 (by decide) (fun c9 => absurd c9 (ngt_le c_26)) (fun _ => ?_)
                refine lv_aload_n hx hb dL_law_497 rfl (lv_at hl 6 rfl) ?_
                refine lv_iload hx hb dL_law_498 (lv_at hl 1 rfl) ?_
                have hok := (g_pass hR hK.i eT9 hd0 (by omega) (le_3000 (by omega) c_26)).up (Nat.le_add_right M 3000)
                have hok1 := XOK.d hok.1 (by decide)
                refine xr_q (As := [.int (nI d9)]) (rest := []) 21 (nI d9) 0 0 hC hK hI (qX7_pass l hC.2.1 A D cy g hK.1 S e0 hK.v (nI d9)) (k7_pass S (nI d9)) hok1.1 (cwV 1 htsL gL_law_X7_pass rfl rfl rfl (by decide +kernel) ⟨Nat.le_of_ble_eq_true rfl, Nat.le_of_ble_eq_true rfl⟩) rfl hl.1 rfl (Nat.le_of_ble_eq_true rfl) dL_law_500 ⟨by show _ ≤ 600130; omega, by show _ ≤ 7301080; omega⟩ (fun H locs hK hI => ?_)
                have hR := hok.2
                refine lv_iload hx hb dL_law_503 (lv_at hl 0 rfl) ?_
                refine lv_icmp_ne (tgt := 512) hx hb dL_law_505 (by decide) (fun c9 => absurd hok1.2 c9) (fun _ => ?_)
                refine lv_iconst (v := 1) hx hb dL_law_508 (by decide) ?_
                refine lv_goto (tgt := 513) hx hb dL_law_509 (by decide) ?_
                refine lv_istore (lv' := [(14, .int 1), (20, .int (nI (T9 + d9))), (19, .int (nI d9)), (18, .int zv), (17, .int act), (16, .int v), (0, .ref b), (1, .ref x0), (2, .ref (la 0)), (3, .ref (la 1)), (4, .ref (la 2)), (5, .ref (la 3)), (6, .ref (la 4)), (7, .ref (la 5)), (8, .ref (la 6)), (9, .ref (la 7)), (10, .ref (la 8)), (11, .ref (la 9)), (12, .ref (la 10)), (13, .ref (la 11)), (15, .int (nI i))]) hx hb dL_law_513 hl (by decide) rfl (fun ls hl => ?_)
                refine W.widen (k := cells + 8) (n := slots + 342) (by omega) (by omega) ?_
                exact J515 zv (g, (XS S (21, nI d9, 0, 0)), (up L 11 0 (nI (T9 + d9)))) _ _ ls ⟨hK, hI, hR, lv_sub hl [6, 7, 8, 9, 10, 11, 12, 13, 14, 15, 16, 17, 18, 19, 0, 20, 3] rfl⟩
              · skip
                refine lv_aload hx hb dL_law_479 (lv_at hl 18 rfl) ?_
                refine lv_iconst (v := 0) hx hb dL_law_481 (by decide) ?_
                refine xr_ld hC hI 11 (by decide) (nx_in (by decide : (0 : Int32) = nI 0) (by decide) (by decide)) (v := (L 11 0)) (congrArg (L 11) (by decide : ix 0 = 0)) dL_law_482 ?_
                refine lv_goto (tgt := 488) hx hb dL_law_483 (by decide) ?_
                refine xr_st hC hK hI 11 (by decide) (nx_in (by decide : (0 : Int32) = nI 0) (by decide) (by decide)) (n := 0) (by decide : ix 0 = 0) dL_law_488 (fun H locs hI => ?_)
                refine lv_iload hx hb dL_law_489 (lv_at hl 0 rfl) ?_
                refine lv_sipush (v := 3000) hx hb dL_law_491 (by decide) ?_
                refine lv_icmp_gt (tgt := 508) hx hb dL_law_494 (by decide) (fun _ => ?_) (fun c9 => absurd (gt_nle c_26) c9)
                refine lv_iconst (v := 1) hx hb dL_law_508 (by decide) ?_
                refine lv_goto (tgt := 513) hx hb dL_law_509 (by decide) ?_
                refine lv_istore (lv' := [(14, .int 1), (20, .int (nI (T9 + d9))), (19, .int (nI d9)), (18, .int zv), (17, .int act), (16, .int v), (0, .ref b), (1, .ref x0), (2, .ref (la 0)), (3, .ref (la 1)), (4, .ref (la 2)), (5, .ref (la 3)), (6, .ref (la 4)), (7, .ref (la 5)), (8, .ref (la 6)), (9, .ref (la 7)), (10, .ref (la 8)), (11, .ref (la 9)), (12, .ref (la 10)), (13, .ref (la 11)), (15, .int (nI i))]) hx hb dL_law_513 hl (by decide) rfl (fun ls hl => ?_)
                refine W.widen (k := cells + 8) (n := slots + 342) (by omega) (by omega) ?_
                exact J515 zv (g, S, (up L 11 0 (L 11 0))) _ _ ls ⟨hK, hI, (show REL (M + 3000) S ((up L 11 0 (L 11 0))) by rw [up_same rfl]; exact hR.up (Nat.le_add_right M 3000)), lv_sub hl [6, 7, 8, 9, 10, 11, 12, 13, 14, 15, 16, 17, 18, 19, 0, 20, 3] rfl⟩
            · skip
              refine lv_sipush (v := 300) hx hb dL_law_445 (by decide) ?_
              refine lv_goto (tgt := 453) hx hb dL_law_448 (by decide) ?_
              refine xr_callS (As := [.int zv, .int 300]) (rest := [.int 1]) hC hI (qL_low l zv 300 (by decide)) (va_cwS 2 hts gL_law_L_low rfl rfl rfl (by decide +kernel) ⟨Nat.le_of_ble_eq_true rfl, Nat.le_of_ble_eq_true rfl⟩) rfl hl.1 rfl (Nat.le_of_ble_eq_true rfl) dL_law_453 ⟨by show _ ≤ 600130; omega, by show _ ≤ 7301080; omega⟩ (fun H locs hI => ?_)
              refine lv_iadd hx hb dL_law_456 ?_
              obtain ⟨d9, hd0, hd1, ed9⟩ := low1_n zv (n := 300) (N := 300) (by decide) (by decide) (by decide)
              rw [ed9]
              refine lv_istore (lv' := [(19, .int (nI d9)), (18, .int zv), (17, .int act), (16, .int v), (0, .ref b), (1, .ref x0), (2, .ref (la 0)), (3, .ref (la 1)), (4, .ref (la 2)), (5, .ref (la 3)), (6, .ref (la 4)), (7, .ref (la 5)), (8, .ref (la 6)), (9, .ref (la 7)), (10, .ref (la 8)), (11, .ref (la 9)), (12, .ref (la 10)), (13, .ref (la 11)), (14, .int 1), (15, .int (nI i))]) hx hb dL_law_457 hl (by decide) rfl (fun ls hl => ?_)
              refine lv_aload hx hb dL_law_459 (lv_at hl 17 rfl) ?_
              refine lv_iconst (v := 0) hx hb dL_law_461 (by decide) ?_
              refine xr_ld hC hI 11 (by decide) (nx_in (by decide : (0 : Int32) = nI 0) (by decide) (by decide)) (v := (L 11 0)) (congrArg (L 11) (by decide : ix 0 = 0)) dL_law_462 ?_
              refine lv_iload hx hb dL_law_463 (lv_at hl 0 rfl) ?_
              refine lv_iadd hx hb dL_law_465 ?_
              obtain ⟨T9, hT9, eT9⟩ := hK.i.td
              rw [show ((L 11 0) + (nI d9)) = nI (T9 + d9) by rw [hR.q.1, eT9, nI_add]]
              refine lv_istore (lv' := [(20, .int (nI (T9 + d9))), (19, .int (nI d9)), (18, .int zv), (17, .int act), (16, .int v), (0, .ref b), (1, .ref x0), (2, .ref (la 0)), (3, .ref (la 1)), (4, .ref (la 2)), (5, .ref (la 3)), (6, .ref (la 4)), (7, .ref (la 5)), (8, .ref (la 6)), (9, .ref (la 7)), (10, .ref (la 8)), (11, .ref (la 9)), (12, .ref (la 10)), (13, .ref (la 11)), (14, .int 1), (15, .int (nI i))]) hx hb dL_law_466 hl (by decide) rfl (fun ls hl => ?_)
              refine lv_aload hx hb dL_law_468 (lv_at hl 18 rfl) ?_
              refine lv_iconst (v := 0) hx hb dL_law_470 (by decide) ?_
              refine lv_iload hx hb dL_law_471 (lv_at hl 0 rfl) ?_
              refine lv_sipush (v := 3000) hx hb dL_law_473 (by decide) ?_
              refine lv_icmp_le (tgt := 486) hx hb dL_law_476 (by decide) (fun c_27 => ?_) (fun c_27 => ?_)
              · skip
                refine lv_iload hx hb dL_law_486 (lv_at hl 0 rfl) ?_
                refine xr_st hC hK hI 11 (by decide) (nx_in (by decide : (0 : Int32) = nI 0) (by decide) (by decide)) (n := 0) (by decide : ix 0 = 0) dL_law_488 (fun H locs hI => ?_)
                refine lv_iload hx hb dL_law_489 (lv_at hl 0 rfl) ?_
                refine lv_sipush (v := 3000) hx hb dL_law_491 (by decide) ?_
                refine lv_icmp_gt (tgt := 508) hx hb dL_law_494 (by decide) (fun c9 => absurd c9 (ngt_le c_27)) (fun _ => ?_)
                refine lv_aload_n hx hb dL_law_497 rfl (lv_at hl 6 rfl) ?_
                refine lv_iload hx hb dL_law_498 (lv_at hl 1 rfl) ?_
                have hok := (g_pass hR hK.i eT9 hd0 (by omega) (le_3000 (by omega) c_27)).up (Nat.le_add_right M 3000)
                have hok1 := XOK.d hok.1 (by decide)
                refine xr_q (As := [.int (nI d9)]) (rest := []) 21 (nI d9) 0 0 hC hK hI (qX7_pass l hC.2.1 A D cy g hK.1 S e0 hK.v (nI d9)) (k7_pass S (nI d9)) hok1.1 (cwV 1 htsL gL_law_X7_pass rfl rfl rfl (by decide +kernel) ⟨Nat.le_of_ble_eq_true rfl, Nat.le_of_ble_eq_true rfl⟩) rfl hl.1 rfl (Nat.le_of_ble_eq_true rfl) dL_law_500 ⟨by show _ ≤ 600130; omega, by show _ ≤ 7301080; omega⟩ (fun H locs hK hI => ?_)
                have hR := hok.2
                refine lv_iload hx hb dL_law_503 (lv_at hl 0 rfl) ?_
                refine lv_icmp_ne (tgt := 512) hx hb dL_law_505 (by decide) (fun c9 => absurd hok1.2 c9) (fun _ => ?_)
                refine lv_iconst (v := 1) hx hb dL_law_508 (by decide) ?_
                refine lv_goto (tgt := 513) hx hb dL_law_509 (by decide) ?_
                refine lv_istore (lv' := [(14, .int 1), (20, .int (nI (T9 + d9))), (19, .int (nI d9)), (18, .int zv), (17, .int act), (16, .int v), (0, .ref b), (1, .ref x0), (2, .ref (la 0)), (3, .ref (la 1)), (4, .ref (la 2)), (5, .ref (la 3)), (6, .ref (la 4)), (7, .ref (la 5)), (8, .ref (la 6)), (9, .ref (la 7)), (10, .ref (la 8)), (11, .ref (la 9)), (12, .ref (la 10)), (13, .ref (la 11)), (15, .int (nI i))]) hx hb dL_law_513 hl (by decide) rfl (fun ls hl => ?_)
                refine W.widen (k := cells + 8) (n := slots + 342) (by omega) (by omega) ?_
                exact J515 zv (g, (XS S (21, nI d9, 0, 0)), (up L 11 0 (nI (T9 + d9)))) _ _ ls ⟨hK, hI, hR, lv_sub hl [6, 7, 8, 9, 10, 11, 12, 13, 14, 15, 16, 17, 18, 19, 0, 20, 3] rfl⟩
              · skip
                refine lv_aload hx hb dL_law_479 (lv_at hl 18 rfl) ?_
                refine lv_iconst (v := 0) hx hb dL_law_481 (by decide) ?_
                refine xr_ld hC hI 11 (by decide) (nx_in (by decide : (0 : Int32) = nI 0) (by decide) (by decide)) (v := (L 11 0)) (congrArg (L 11) (by decide : ix 0 = 0)) dL_law_482 ?_
                refine lv_goto (tgt := 488) hx hb dL_law_483 (by decide) ?_
                refine xr_st hC hK hI 11 (by decide) (nx_in (by decide : (0 : Int32) = nI 0) (by decide) (by decide)) (n := 0) (by decide : ix 0 = 0) dL_law_488 (fun H locs hI => ?_)
                refine lv_iload hx hb dL_law_489 (lv_at hl 0 rfl) ?_
                refine lv_sipush (v := 3000) hx hb dL_law_491 (by decide) ?_
                refine lv_icmp_gt (tgt := 508) hx hb dL_law_494 (by decide) (fun _ => ?_) (fun c9 => absurd (gt_nle c_27) c9)
                refine lv_iconst (v := 1) hx hb dL_law_508 (by decide) ?_
                refine lv_goto (tgt := 513) hx hb dL_law_509 (by decide) ?_
                refine lv_istore (lv' := [(14, .int 1), (20, .int (nI (T9 + d9))), (19, .int (nI d9)), (18, .int zv), (17, .int act), (16, .int v), (0, .ref b), (1, .ref x0), (2, .ref (la 0)), (3, .ref (la 1)), (4, .ref (la 2)), (5, .ref (la 3)), (6, .ref (la 4)), (7, .ref (la 5)), (8, .ref (la 6)), (9, .ref (la 7)), (10, .ref (la 8)), (11, .ref (la 9)), (12, .ref (la 10)), (13, .ref (la 11)), (15, .int (nI i))]) hx hb dL_law_513 hl (by decide) rfl (fun ls hl => ?_)
                refine W.widen (k := cells + 8) (n := slots + 342) (by omega) (by omega) ?_
                exact J515 zv (g, S, (up L 11 0 (L 11 0))) _ _ ls ⟨hK, hI, (show REL (M + 3000) S ((up L 11 0 (L 11 0))) by rw [up_same rfl]; exact hR.up (Nat.le_add_right M 3000)), lv_sub hl [6, 7, 8, 9, 10, 11, 12, 13, 14, 15, 16, 17, 18, 19, 0, 20, 3] rfl⟩
          · skip
            refine lv_aload_n hx hb dL_law_374 rfl (lv_at hl 4 rfl) ?_
            refine lv_iload hx hb dL_law_375 (lv_at hl 1 rfl) ?_
            refine lv_bipush (v := 38) hx hb dL_law_377 (by decide) ?_
            refine w_join (σ := Int32) 409 (fun y409 H locs ls => XI A B D cy g n0 la s S L H locs ∧ lv_has ls 21 [(18, .int zv), (17, .int act), (16, .int v), (0, .ref b), (1, .ref x0), (2, .ref (la 0)), (3, .ref (la 1)), (4, .ref (la 2)), (5, .ref (la 3)), (6, .ref (la 4)), (7, .ref (la 5)), (8, .ref (la 6)), (9, .ref (la 7)), (10, .ref (la 8)), (11, .ref (la 9)), (12, .ref (la 10)), (13, .ref (la 11)), (14, .int 1), (15, .int (nI i))]) (fun y409 => [.int y409, .ref x0]) ?_ (fun J409 => ?_)
            · intro y409 H locs ls ⟨hI, hl⟩
              refine lv_iload hx hb dL_law_409 (lv_at hl 0 rfl) ?_
              refine lv_aload hx hb dL_law_411 (lv_at hl 9 rfl) ?_
              refine lv_aload hx hb dL_law_413 (lv_at hl 11 rfl) ?_
              refine lv_aload hx hb dL_law_415 (lv_at hl 14 rfl) ?_
              refine lv_aload hx hb dL_law_417 (lv_at hl 15 rfl) ?_
              refine lv_aload hx hb dL_law_419 (lv_at hl 16 rfl) ?_
              have hV := hR.v hK.i.m
              obtain ⟨f9, hf9, ef9⟩ := low_n zv (n := 3) (N := 3) (by decide) (by decide) (by decide)
              obtain ⟨t9, ht9, et9⟩ := low_n (zv >>> ((2 : Int32) &&& 31)) (n := 5) (N := 5) (by decide) (by decide) (by decide)
              have hok := (wages_ok hR hK.i hMb y409 zv hf9 ht9).up (Nat.le_add_right M 3000)
              refine xr_act (As := [.ref x0, .int y409, .int zv, .ref (la 4), .ref (la 6), .ref (la 9), .ref (la 10), .ref (la 11)]) (rest := []) hC hI (qL_wages l hC.2.1 A B D cy g S e0 mi n0 x0 la hK L hV y409 zv f9 hf9 t9 ht9 ef9 et9 (emp_in hR ht9) hok.1) (va_cwS 8 htsL gL_law_L_wages rfl rfl rfl (by decide +kernel) ⟨Nat.le_of_ble_eq_true rfl, Nat.le_of_ble_eq_true rfl⟩) rfl hl.1 rfl (Nat.le_of_ble_eq_true rfl) dL_law_421 ⟨by show _ ≤ 600130; omega, by show _ ≤ 7301080; omega⟩ (fun g H locs hK hI => ?_)
              have hR := hok.2
              refine lv_istore (lv' := [(14, .int 1), (18, .int zv), (17, .int act), (16, .int v), (0, .ref b), (1, .ref x0), (2, .ref (la 0)), (3, .ref (la 1)), (4, .ref (la 2)), (5, .ref (la 3)), (6, .ref (la 4)), (7, .ref (la 5)), (8, .ref (la 6)), (9, .ref (la 7)), (10, .ref (la 8)), (11, .ref (la 9)), (12, .ref (la 10)), (13, .ref (la 11)), (15, .int (nI i))]) hx hb dL_law_424 hl (by decide) rfl (fun ls hl => ?_)
              refine lv_goto (tgt := 515) hx hb dL_law_426 (by decide) ?_
              refine W.widen (k := cells + 8) (n := slots + 342) (by omega) (by omega) ?_
              exact J515 zv (g, (XS S (fL_wages L y409 zv f9 t9).2.1), (fL_wages L y409 zv f9 t9).1) _ _ ls ⟨hK, hI, hR, lv_sub hl [4, 5, 6, 7, 8, 9, 10, 11, 12, 13, 14, 15, 16, 17, 0, 18, 1] rfl⟩
            · skip
              refine lv_icmp_ge (tgt := 386) hx hb dL_law_379 (by decide) (fun c_28 => ?_) (fun c_28 => ?_)
              · skip
                refine lv_iload hx hb dL_law_386 (lv_at hl 1 rfl) ?_
                refine lv_bipush (v := 40) hx hb dL_law_388 (by decide) ?_
                refine lv_icmp_ge (tgt := 397) hx hb dL_law_390 (by decide) (fun c_29 => ?_) (fun c_29 => ?_)
                · skip
                  refine lv_iload hx hb dL_law_397 (lv_at hl 1 rfl) ?_
                  refine lv_bipush (v := 42) hx hb dL_law_399 (by decide) ?_
                  refine lv_icmp_ge (tgt := 408) hx hb dL_law_401 (by decide) (fun c_30 => ?_) (fun c_30 => ?_)
                  · skip
                    refine lv_iconst (v := 3) hx hb dL_law_408 (by decide) ?_
                    exact J409 3 _ _ ls ⟨hI, lv_sub hl [0, 1, 2, 3, 4, 5, 6, 7, 8, 9, 10, 11, 12, 13, 14, 15, 16, 17, 18] rfl⟩
                  · skip
                    refine lv_iconst (v := 2) hx hb dL_law_404 (by decide) ?_
                    refine lv_goto (tgt := 409) hx hb dL_law_405 (by decide) ?_
                    exact J409 2 _ _ ls ⟨hI, lv_sub hl [0, 1, 2, 3, 4, 5, 6, 7, 8, 9, 10, 11, 12, 13, 14, 15, 16, 17, 18] rfl⟩
                · skip
                  refine lv_iconst (v := 1) hx hb dL_law_393 (by decide) ?_
                  refine lv_goto (tgt := 409) hx hb dL_law_394 (by decide) ?_
                  exact J409 1 _ _ ls ⟨hI, lv_sub hl [0, 1, 2, 3, 4, 5, 6, 7, 8, 9, 10, 11, 12, 13, 14, 15, 16, 17, 18] rfl⟩
              · skip
                refine lv_iconst (v := 0) hx hb dL_law_382 (by decide) ?_
                refine lv_goto (tgt := 409) hx hb dL_law_383 (by decide) ?_
                exact J409 0 _ _ ls ⟨hI, lv_sub hl [0, 1, 2, 3, 4, 5, 6, 7, 8, 9, 10, 11, 12, 13, 14, 15, 16, 17, 18] rfl⟩
        · skip
          refine lv_aload_n hx hb dL_law_271 rfl (lv_at hl 4 rfl) ?_
          refine lv_iload hx hb dL_law_272 (lv_at hl 0 rfl) ?_
          refine lv_aload_n hx hb dL_law_274 rfl (lv_at hl 5 rfl) ?_
          refine lv_aload hx hb dL_law_275 (lv_at hl 9 rfl) ?_
          refine lv_aload hx hb dL_law_277 (lv_at hl 11 rfl) ?_
          refine lv_aload hx hb dL_law_279 (lv_at hl 12 rfl) ?_
          refine lv_aload hx hb dL_law_281 (lv_at hl 16 rfl) ?_
          have hV := hR.v hK.i.m
          obtain ⟨t9, ht9, et9⟩ := low_n zv (n := 5) (N := 5) (by decide) (by decide) (by decide)
          obtain ⟨f9, hf9, ef9⟩ := low_n (zv >>> ((3 : Int32) &&& 31)) (n := 3) (N := 3) (by decide) (by decide) (by decide)
          have hok := (files_ok hR hK.i zv hf9 ht9).up (Nat.le_add_right M 3000)
          refine xr_act (As := [.ref x0, .int zv, .ref (la 0), .ref (la 4), .ref (la 6), .ref (la 7), .ref (la 11)]) (rest := []) hC hI (qL_files l hC.2.1 A B D cy g S e0 mi n0 x0 la hK L hV zv f9 hf9 t9 ht9 et9 ef9 hok.1) (va_cwS 7 htsL gL_law_L_files rfl rfl rfl (by decide +kernel) ⟨Nat.le_of_ble_eq_true rfl, Nat.le_of_ble_eq_true rfl⟩) rfl hl.1 rfl (Nat.le_of_ble_eq_true rfl) dL_law_283 ⟨by show _ ≤ 600130; omega, by show _ ≤ 7301080; omega⟩ (fun g H locs hK hI => ?_)
          have hR := hok.2
          refine lv_istore (lv' := [(14, .int 1), (18, .int zv), (17, .int act), (16, .int v), (0, .ref b), (1, .ref x0), (2, .ref (la 0)), (3, .ref (la 1)), (4, .ref (la 2)), (5, .ref (la 3)), (6, .ref (la 4)), (7, .ref (la 5)), (8, .ref (la 6)), (9, .ref (la 7)), (10, .ref (la 8)), (11, .ref (la 9)), (12, .ref (la 10)), (13, .ref (la 11)), (15, .int (nI i))]) hx hb dL_law_286 hl (by decide) rfl (fun ls hl => ?_)
          refine lv_goto (tgt := 515) hx hb dL_law_288 (by decide) ?_
          refine W.widen (k := cells + 8) (n := slots + 342) (by omega) (by omega) ?_
          exact J515 zv (g, (XS S (fL_files L zv f9 t9).2.1), (fL_files L zv f9 t9).1) _ _ ls ⟨hK, hI, hR, lv_sub hl [4, 5, 6, 7, 8, 9, 10, 11, 12, 13, 14, 15, 16, 17, 0, 18, 1] rfl⟩
      · skip
        refine lv_iload hx hb dL_law_141 (lv_at hl 1 rfl) ?_
        refine lv_bipush (v := 23) hx hb dL_law_143 (by decide) ?_
        refine lv_icmp_le (tgt := 166) hx hb dL_law_145 (by decide) (fun c_31 => ?_) (fun c_31 => ?_)
        · skip
          refine lv_aload_n hx hb dL_law_166 rfl (lv_at hl 4 rfl) ?_
          refine lv_iload hx hb dL_law_167 (lv_at hl 1 rfl) ?_
          refine lv_iconst (v := 2) hx hb dL_law_169 (by decide) ?_
          refine w_join (σ := Int32) 236 (fun y236 H locs ls => XI A B D cy g n0 la s S L H locs ∧ lv_has ls 21 [(18, .int zv), (17, .int act), (16, .int v), (0, .ref b), (1, .ref x0), (2, .ref (la 0)), (3, .ref (la 1)), (4, .ref (la 2)), (5, .ref (la 3)), (6, .ref (la 4)), (7, .ref (la 5)), (8, .ref (la 6)), (9, .ref (la 7)), (10, .ref (la 8)), (11, .ref (la 9)), (12, .ref (la 10)), (13, .ref (la 11)), (14, .int 1), (15, .int (nI i))]) (fun y236 => [.int y236, .ref x0]) ?_ (fun J236 => ?_)
          · intro y236 H locs ls ⟨hI, hl⟩
            refine lv_iload hx hb dL_law_236 (lv_at hl 0 rfl) ?_
            refine lv_aload_n hx hb dL_law_238 rfl (lv_at hl 5 rfl) ?_
            refine lv_aload_n hx hb dL_law_239 rfl (lv_at hl 6 rfl) ?_
            refine lv_aload hx hb dL_law_240 (lv_at hl 7 rfl) ?_
            refine lv_aload hx hb dL_law_242 (lv_at hl 8 rfl) ?_
            refine lv_aload hx hb dL_law_244 (lv_at hl 9 rfl) ?_
            refine lv_aload hx hb dL_law_246 (lv_at hl 10 rfl) ?_
            refine lv_aload hx hb dL_law_248 (lv_at hl 11 rfl) ?_
            refine lv_aload hx hb dL_law_250 (lv_at hl 12 rfl) ?_
            refine lv_aload hx hb dL_law_252 (lv_at hl 14 rfl) ?_
            refine lv_aload hx hb dL_law_254 (lv_at hl 16 rfl) ?_
            have hV := hR.v hK.i.m
            obtain ⟨f9, hf9, ef9⟩ := low_n zv (n := 3) (N := 3) (by decide) (by decide) (by decide)
            obtain ⟨t9, ht9, et9⟩ := low_n (zv >>> ((2 : Int32) &&& 31)) (n := 5) (N := 5) (by decide) (by decide) (by decide)
            obtain ⟨b9, hb9, eb9⟩ := low_n (zv >>> ((4 : Int32) &&& 31)) (n := 8) (N := 8) (by decide) (by decide) (by decide)
            obtain ⟨s9, hs9, es9⟩ := scheme_g hV (zv >>> ((3 : Int32) &&& 31))
            have hok := tells_ok hR hK.i hMb y236 zv hf9 ht9 hb9 (fun q => (es9 q).2)
            refine xr_act (As := [.ref x0, .int y236, .int zv, .ref (la 0), .ref (la 1), .ref (la 2), .ref (la 3), .ref (la 4), .ref (la 5), .ref (la 6), .ref (la 7), .ref (la 9), .ref (la 11)]) (rest := []) hC hI (qL_tells l hC.2.1 A B D cy g S e0 mi n0 x0 la hK L hV y236 zv f9 hf9 t9 ht9 b9 hb9 s9 hs9 ef9 et9 eb9 es9 hok.1) (va_cwS 13 htsL gL_law_L_tells rfl rfl rfl (by decide +kernel) ⟨Nat.le_of_ble_eq_true rfl, Nat.le_of_ble_eq_true rfl⟩) rfl hl.1 rfl (Nat.le_of_ble_eq_true rfl) dL_law_256 ⟨by show _ ≤ 600130; omega, by show _ ≤ 7301080; omega⟩ (fun g H locs hK hI => ?_)
            have hR := hok.2
            refine lv_istore (lv' := [(14, .int 1), (18, .int zv), (17, .int act), (16, .int v), (0, .ref b), (1, .ref x0), (2, .ref (la 0)), (3, .ref (la 1)), (4, .ref (la 2)), (5, .ref (la 3)), (6, .ref (la 4)), (7, .ref (la 5)), (8, .ref (la 6)), (9, .ref (la 7)), (10, .ref (la 8)), (11, .ref (la 9)), (12, .ref (la 10)), (13, .ref (la 11)), (15, .int (nI i))]) hx hb dL_law_259 hl (by decide) rfl (fun ls hl => ?_)
            refine lv_goto (tgt := 515) hx hb dL_law_261 (by decide) ?_
            refine W.widen (k := cells + 8) (n := slots + 342) (by omega) (by omega) ?_
            exact J515 zv (g, (XS S (fL_tells L y236 zv f9 t9 b9 s9).2.1), (fL_tells L y236 zv f9 t9 b9 s9).1) _ _ ls ⟨hK, hI, hR, lv_sub hl [4, 5, 6, 7, 8, 9, 10, 11, 12, 13, 14, 15, 16, 17, 0, 18, 1] rfl⟩
          · skip
            refine lv_icmp_ge (tgt := 177) hx hb dL_law_170 (by decide) (fun c_32 => ?_) (fun c_32 => ?_)
            · skip
              refine lv_iload hx hb dL_law_177 (lv_at hl 1 rfl) ?_
              refine lv_iconst (v := 4) hx hb dL_law_179 (by decide) ?_
              refine lv_icmp_ge (tgt := 187) hx hb dL_law_180 (by decide) (fun c_33 => ?_) (fun c_33 => ?_)
              · skip
                refine lv_iload hx hb dL_law_187 (lv_at hl 1 rfl) ?_
                refine lv_bipush (v := 9) hx hb dL_law_189 (by decide) ?_
                refine lv_icmp_ge (tgt := 198) hx hb dL_law_191 (by decide) (fun c_34 => ?_) (fun c_34 => ?_)
                · skip
                  refine lv_iload hx hb dL_law_198 (lv_at hl 1 rfl) ?_
                  refine lv_bipush (v := 12) hx hb dL_law_200 (by decide) ?_
                  refine lv_icmp_ge (tgt := 209) hx hb dL_law_202 (by decide) (fun c_35 => ?_) (fun c_35 => ?_)
                  · skip
                    refine lv_iload hx hb dL_law_209 (lv_at hl 1 rfl) ?_
                    refine lv_bipush (v := 16) hx hb dL_law_211 (by decide) ?_
                    refine lv_icmp_ge (tgt := 220) hx hb dL_law_213 (by decide) (fun c_36 => ?_) (fun c_36 => ?_)
                    · skip
                      refine lv_iload hx hb dL_law_220 (lv_at hl 1 rfl) ?_
                      refine lv_bipush (v := 21) hx hb dL_law_222 (by decide) ?_
                      refine lv_icmp_ge (tgt := 235) hx hb dL_law_224 (by decide) (fun c_37 => ?_) (fun c_37 => ?_)
                      · skip
                        refine lv_iconst (v := 4) hx hb dL_law_235 (by decide) ?_
                        exact J236 4 _ _ ls ⟨hI, lv_sub hl [0, 1, 2, 3, 4, 5, 6, 7, 8, 9, 10, 11, 12, 13, 14, 15, 16, 17, 18] rfl⟩
                      · skip
                        refine lv_iload hx hb dL_law_227 (lv_at hl 1 rfl) ?_
                        refine lv_bipush (v := 11) hx hb dL_law_229 (by decide) ?_
                        refine lv_isub hx hb dL_law_231 ?_
                        refine lv_goto (tgt := 236) hx hb dL_law_232 (by decide) ?_
                        exact J236 (act - 11) _ _ ls ⟨hI, lv_sub hl [0, 1, 2, 3, 4, 5, 6, 7, 8, 9, 10, 11, 12, 13, 14, 15, 16, 17, 18] rfl⟩
                    · skip
                      refine lv_iconst (v := 4) hx hb dL_law_216 (by decide) ?_
                      refine lv_goto (tgt := 236) hx hb dL_law_217 (by decide) ?_
                      exact J236 4 _ _ ls ⟨hI, lv_sub hl [0, 1, 2, 3, 4, 5, 6, 7, 8, 9, 10, 11, 12, 13, 14, 15, 16, 17, 18] rfl⟩
                  · skip
                    refine lv_iconst (v := 3) hx hb dL_law_205 (by decide) ?_
                    refine lv_goto (tgt := 236) hx hb dL_law_206 (by decide) ?_
                    exact J236 3 _ _ ls ⟨hI, lv_sub hl [0, 1, 2, 3, 4, 5, 6, 7, 8, 9, 10, 11, 12, 13, 14, 15, 16, 17, 18] rfl⟩
                · skip
                  refine lv_iconst (v := 2) hx hb dL_law_194 (by decide) ?_
                  refine lv_goto (tgt := 236) hx hb dL_law_195 (by decide) ?_
                  exact J236 2 _ _ ls ⟨hI, lv_sub hl [0, 1, 2, 3, 4, 5, 6, 7, 8, 9, 10, 11, 12, 13, 14, 15, 16, 17, 18] rfl⟩
              · skip
                refine lv_iconst (v := 1) hx hb dL_law_183 (by decide) ?_
                refine lv_goto (tgt := 236) hx hb dL_law_184 (by decide) ?_
                exact J236 1 _ _ ls ⟨hI, lv_sub hl [0, 1, 2, 3, 4, 5, 6, 7, 8, 9, 10, 11, 12, 13, 14, 15, 16, 17, 18] rfl⟩
            · skip
              refine lv_iconst (v := 0) hx hb dL_law_173 (by decide) ?_
              refine lv_goto (tgt := 236) hx hb dL_law_174 (by decide) ?_
              exact J236 0 _ _ ls ⟨hI, lv_sub hl [0, 1, 2, 3, 4, 5, 6, 7, 8, 9, 10, 11, 12, 13, 14, 15, 16, 17, 18] rfl⟩
        · skip
          refine lv_aload_n hx hb dL_law_148 rfl (lv_at hl 4 rfl) ?_
          refine lv_iload hx hb dL_law_149 (lv_at hl 0 rfl) ?_
          refine lv_aload_n hx hb dL_law_151 rfl (lv_at hl 5 rfl) ?_
          refine lv_aload hx hb dL_law_152 (lv_at hl 9 rfl) ?_
          refine lv_aload hx hb dL_law_154 (lv_at hl 11 rfl) ?_
          refine lv_aload hx hb dL_law_156 (lv_at hl 12 rfl) ?_
          refine lv_aload hx hb dL_law_158 (lv_at hl 16 rfl) ?_
          have hV := hR.v hK.i.m
          obtain ⟨t9, ht9, et9⟩ := low_n zv (n := 5) (N := 5) (by decide) (by decide) (by decide)
          obtain ⟨f9, hf9, ef9⟩ := low_n (zv >>> ((3 : Int32) &&& 31)) (n := 3) (N := 3) (by decide) (by decide) (by decide)
          have hok := (files_ok hR hK.i zv hf9 ht9).up (Nat.le_add_right M 3000)
          refine xr_act (As := [.ref x0, .int zv, .ref (la 0), .ref (la 4), .ref (la 6), .ref (la 7), .ref (la 11)]) (rest := []) hC hI (qL_files l hC.2.1 A B D cy g S e0 mi n0 x0 la hK L hV zv f9 hf9 t9 ht9 et9 ef9 hok.1) (va_cwS 7 htsL gL_law_L_files rfl rfl rfl (by decide +kernel) ⟨Nat.le_of_ble_eq_true rfl, Nat.le_of_ble_eq_true rfl⟩) rfl hl.1 rfl (Nat.le_of_ble_eq_true rfl) dL_law_160 ⟨by show _ ≤ 600130; omega, by show _ ≤ 7301080; omega⟩ (fun g H locs hK hI => ?_)
          have hR := hok.2
          refine lv_goto (tgt := 259) hx hb dL_law_163 (by decide) ?_
          refine lv_istore (lv' := [(14, .int 1), (18, .int zv), (17, .int act), (16, .int v), (0, .ref b), (1, .ref x0), (2, .ref (la 0)), (3, .ref (la 1)), (4, .ref (la 2)), (5, .ref (la 3)), (6, .ref (la 4)), (7, .ref (la 5)), (8, .ref (la 6)), (9, .ref (la 7)), (10, .ref (la 8)), (11, .ref (la 9)), (12, .ref (la 10)), (13, .ref (la 11)), (15, .int (nI i))]) hx hb dL_law_259 hl (by decide) rfl (fun ls hl => ?_)
          refine lv_goto (tgt := 515) hx hb dL_law_261 (by decide) ?_
          refine W.widen (k := cells + 8) (n := slots + 342) (by omega) (by omega) ?_
          exact J515 zv (g, (XS S (fL_files L zv f9 t9).2.1), (fL_files L zv f9 t9).1) _ _ ls ⟨hK, hI, hR, lv_sub hl [4, 5, 6, 7, 8, 9, 10, 11, 12, 13, 14, 15, 16, 17, 0, 18, 1] rfl⟩
