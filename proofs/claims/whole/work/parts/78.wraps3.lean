/-! the law's wrappers, walked -/
set_option maxHeartbeats 4000000 in
set_option maxRecDepth 100000 in
theorem qL_covers (l : Launch) (hfl : l.stackTraces = false) (A : Nat → Prop) (D : va_G) (cy : Nat → ClassId) (g : CWt) (hL : CL A g) (S : St) (e0 mi n0 oa : Nat) (hA : ∀ q, n0 ≤ q → A q) (hoA : ¬ A oa) (hV : CV e0 g S) (hZ : ZR S) (hPP : NPK S) (p0 p1 : Int32) : vx_Met l yL_covers wsL_covers ({ frames := 9, cells := 6, slots := 326, locals := 240 } : Room) (va_Pc [.ref (ga g 18 0), .int p0, .int p1, .ref oa] (LPw A D cy g S e0 mi n0 oa)) (va_Qi (fun (r : Int32) (g1 : CWt) => r = mp3 (fX7_covers S p0 p1).2.1 ∧ LG A g e0 g1 (fX7_covers S p0 p1).2.2) (fun g1 t => CH D cy g1 (fX7_covers S p0 p1).2.2 t.heap ∧ ∃ v, at1 D oa (LA cy v) t.heap ∧ ((fX7_covers S p0 p1).2.1 = 0 → v = ((fX7_covers S p0 p1).1.toInt64))) (fun q => A q ∨ q = oa)) LF 6 326 (fun q => A q ∨ q = oa) := by
  refine vx_ofWH (cc := cL_covers) (maxL := 5) (ret := (some .int)) (hh := [(0, 10, 13, 13)]) (by decide) rfl ?_
  intro p e s m args below meth c s₁ B hml hv
  obtain ⟨rfl, ⟨⟨⟨hM, hK⟩, hJ⟩, hX, hO, hn0⟩, hNc, v0, hOut⟩ := hv
  have hx := B.exec
  have hb := B.bytes
  have hr := B.returns
  have hts := atoms_spec (ws := wsL_covers) B.pre
  have hown : s.vm.findClass RL = some m.cls := findClass_of_methodNamed B.named
  have hct := vx_table (p := p) (x := yL_covers) B (hts (.codeWith yL_covers cL_covers 5 (some .int) [(0, 10, 13, 13)]) List.mem_cons_self)
  have hC : CC p s m _ c cL_covers 5 RL D cy wsL_covers := ⟨⟨hx, hb, hml, hown, hts⟩, hK⟩
  have hI : CI A D cy g s S s.heap [] := ⟨hM, va_S.rf⟩
  have hS : va_S (fun q => A q ∨ q = oa) s.heap s.heap [] := va_S.rf
  have k_13 := hts (.classLink RL 13 "java/lang/IndexOutOfBoundsException") (List.mem_cons_of_mem _ (List.mem_append_left _ (List.mem_append_left _ (List.mem_append_left _ (List.mem_append_left _ (List.mem_append_left _ (List.mem_append_left _ (List.mem_append_left _ (List.mem_of_getElem? (i := 0) rfl)))))))))
  have hl := lv_entry ([.ref (ga g 18 0), .int p0, .int p1, .ref oa]) (n := 5) (Nat.le_of_ble_eq_true rfl)
  rw [lg_entry_eq]
  generalize (lg_sl ([.ref (ga g 18 0), .int p0, .int p1, .ref oa]) ++ List.replicate (5 - (lg_sl ([.ref (ga g 18 0), .int p0, .int p1, .ref oa])).length) Slot.unset).toArray = ls at hl ⊢
  have hl : lv_has ls 5 [(0, .ref (ga g 18 0)), (1, .int p0), (2, .int p1), (3, .ref oa)] := hl
  refine lv_aload_n hx hb dL_covers_0 rfl (lv_at hl 3 rfl) ?_
  refine lv_iconst (v := 0) hx hb dL_covers_1 (by decide) ?_
  refine lv_aload_n hx hb dL_covers_2 rfl (lv_at hl 0 rfl) ?_
  refine lv_iload_n hx hb dL_covers_3 rfl (lv_at hl 1 rfl) ?_
  refine lv_iload_n hx hb dL_covers_4 rfl (lv_at hl 2 rfl) ?_
  refine vx_calli (vx_runV (As := [.int p0, .int p1]) (rest := [.int 0, .ref oa]) hC.1 (qX7_covers l hfl A D cy g hL S e0 hV p0 p1) (cwV 2 hts gL_covers_X7_covers rfl rfl rfl (by decide +kernel) ⟨Nat.le_of_ble_eq_true rfl, Nat.le_of_ble_eq_true rfl⟩) ⟨CTh_blind, cr_recv (ci := 8) hC.2 hI 18 0 rfl rfl rfl, fun U hU hW => ⟨rfl, ⟨by rw [hU]; exact hM, va_K.moved hW.alike hK⟩, by rw [hU]; exact JT.warm hW hJ⟩⟩ rfl rfl hl.1 rfl (lv_room (Nat.le_of_ble_eq_true rfl)) dL_covers_5 ⟨Nat.le_of_ble_eq_true rfl, Nat.le_of_ble_eq_true rfl⟩) hS (fun q _ h => Or.inl h) (fun q h => Or.inl h) (fun q _ h => Or.inl h) (fun E ce q9 u t H1 locs1 ht hvm hp hE hz1 hk1 hS1 hce hcv hcl => ?_) (fun r u t H1 locs1 ht hvm hp hB hz1 hk1 hS1 => ?_)
  · obtain ⟨hE, hM1⟩ := hE
    rw [ht] at hM1
    have hOut1 : at1 D oa (LA cy v0) H1 := hOut.kept (hk1 oa hOut.lt hoA)
    obtain ⟨hc7, hs7⟩ := c7_covers S p0 p1
    have hS2 := hs7 hp
    rcases hc7 with h0 | h0
    · exact absurd h0 hp
    · have hE : E = "java/lang/IndexOutOfBoundsException" := hE.trans (by rw [h0]; rfl)
      subst hE
      refine vx_catch hown [] ⟨0, 10, 13, 13⟩ [] (by rw [hct]; rfl) (fun _ hz => absurd hz List.not_mem_nil) rfl (by decide) k_13 (va_Nw.use (jwl_tab _ (List.mem_of_getElem? (i := 0) rfl)) (hJ.2.2.2 _ (List.mem_of_getElem? (i := 0) rfl))) hce hcv hcl ?_
      refine lv_astore (lv' := [(4, .ref q9), (0, .ref (ga g 18 0)), (1, .int p0), (2, .int p1), (3, .ref oa)]) hx hb dL_covers_13 hl (by decide) rfl (fun ls hl => ?_)
      refine lv_iconst (v := 1) hx hb dL_covers_15 (by decide) ?_
      refine vx_ret ?_
      refine W.widen (k := 6) (n := 326) (Nat.le_of_ble_eq_true rfl) (Nat.le_of_ble_eq_true rfl) ?_
      exact W.iret (v := 1) hx hb hr (fun t9 ht9 hW9 => ⟨⟨1, g, rfl, ⟨by rw [h0]; rfl, hL, hV.1, by rw [hS2]; exact hV.2.1, rfl⟩, ⟨by rw [ht9, hS2]; exact hM1, v0, by rw [ht9]; exact hOut1, fun q => absurd q hp⟩⟩, hS1.F ht9⟩) hS1.2.2 dL_covers_16
  · rw [ht] at hB
    have hOut1 : at1 D oa (LA cy v0) H1 := hOut.kept (hk1 oa hOut.lt hoA)
    obtain ⟨hp0, hr1⟩ := hp
    refine lv_i2l hx hb dL_covers_8 rfl ?_
    refine lw_put (x := r.toInt64) hx hb hK hOut1 dL_covers_9 (fun H2 j hO2 hz2 oq2 => ?_)
    have hS2 := S_put j hS1 hz2 oq2 (Or.inr rfl)
    refine lv_goto (tgt := 17) hx hb dL_covers_10 (by decide) ?_
    refine lv_iconst (v := 0) hx hb dL_covers_17 (by decide) ?_
    refine vx_ret ?_
    refine W.widen (k := 6) (n := 326) (Nat.le_of_ble_eq_true rfl) (Nat.le_of_ble_eq_true rfl) ?_
    exact W.iret (v := 0) hx hb hr (fun t9 ht9 hW9 => ⟨⟨0, g, rfl, ⟨by rw [hp0]; rfl, hL, hV.1, (k7_covers S p0 p1).ct hV.2.1, rfl⟩, ⟨by rw [ht9]; exact hB.off hL hoA oq2, r.toInt64, by rw [ht9]; exact hO2, fun _ => by rw [hr1]⟩⟩, hS2.F ht9⟩) hS2.2.2 dL_covers_18
set_option maxHeartbeats 4000000 in
set_option maxRecDepth 100000 in
theorem qL_bars (l : Launch) (hfl : l.stackTraces = false) (A : Nat → Prop) (D : va_G) (cy : Nat → ClassId) (g : CWt) (hL : CL A g) (S : St) (e0 mi n0 oa : Nat) (hA : ∀ q, n0 ≤ q → A q) (hoA : ¬ A oa) (hV : CV e0 g S) (hZ : ZR S) (hPP : NPK S) (p0 p1 : Int32) : vx_Met l yL_bars wsL_bars ({ frames := 9, cells := 6, slots := 326, locals := 240 } : Room) (va_Pc [.ref (ga g 18 0), .int p0, .int p1, .ref oa] (LPw A D cy g S e0 mi n0 oa)) (va_Qi (fun (r : Int32) (g1 : CWt) => r = mp3 (fX7_bars S p0 p1).2.1 ∧ LG A g e0 g1 (fX7_bars S p0 p1).2.2) (fun g1 t => CH D cy g1 (fX7_bars S p0 p1).2.2 t.heap ∧ ∃ v, at1 D oa (LA cy v) t.heap ∧ ((fX7_bars S p0 p1).2.1 = 0 → v = ((fX7_bars S p0 p1).1.toInt64))) (fun q => A q ∨ q = oa)) LF 6 326 (fun q => A q ∨ q = oa) := by
  refine vx_ofWH (cc := cL_bars) (maxL := 5) (ret := (some .int)) (hh := [(0, 10, 13, 13)]) (by decide) rfl ?_
  intro p e s m args below meth c s₁ B hml hv
  obtain ⟨rfl, ⟨⟨⟨hM, hK⟩, hJ⟩, hX, hO, hn0⟩, hNc, v0, hOut⟩ := hv
  have hx := B.exec
  have hb := B.bytes
  have hr := B.returns
  have hts := atoms_spec (ws := wsL_bars) B.pre
  have hown : s.vm.findClass RL = some m.cls := findClass_of_methodNamed B.named
  have hct := vx_table (p := p) (x := yL_bars) B (hts (.codeWith yL_bars cL_bars 5 (some .int) [(0, 10, 13, 13)]) List.mem_cons_self)
  have hC : CC p s m _ c cL_bars 5 RL D cy wsL_bars := ⟨⟨hx, hb, hml, hown, hts⟩, hK⟩
  have hI : CI A D cy g s S s.heap [] := ⟨hM, va_S.rf⟩
  have hS : va_S (fun q => A q ∨ q = oa) s.heap s.heap [] := va_S.rf
  have k_13 := hts (.classLink RL 13 "java/lang/IndexOutOfBoundsException") (List.mem_cons_of_mem _ (List.mem_append_left _ (List.mem_append_left _ (List.mem_append_left _ (List.mem_append_left _ (List.mem_append_left _ (List.mem_append_left _ (List.mem_append_left _ (List.mem_of_getElem? (i := 0) rfl)))))))))
  have hl := lv_entry ([.ref (ga g 18 0), .int p0, .int p1, .ref oa]) (n := 5) (Nat.le_of_ble_eq_true rfl)
  rw [lg_entry_eq]
  generalize (lg_sl ([.ref (ga g 18 0), .int p0, .int p1, .ref oa]) ++ List.replicate (5 - (lg_sl ([.ref (ga g 18 0), .int p0, .int p1, .ref oa])).length) Slot.unset).toArray = ls at hl ⊢
  have hl : lv_has ls 5 [(0, .ref (ga g 18 0)), (1, .int p0), (2, .int p1), (3, .ref oa)] := hl
  refine lv_aload_n hx hb dL_bars_0 rfl (lv_at hl 3 rfl) ?_
  refine lv_iconst (v := 0) hx hb dL_bars_1 (by decide) ?_
  refine lv_aload_n hx hb dL_bars_2 rfl (lv_at hl 0 rfl) ?_
  refine lv_iload_n hx hb dL_bars_3 rfl (lv_at hl 1 rfl) ?_
  refine lv_iload_n hx hb dL_bars_4 rfl (lv_at hl 2 rfl) ?_
  refine vx_calli (vx_runV (As := [.int p0, .int p1]) (rest := [.int 0, .ref oa]) hC.1 (qX7_bars l hfl A D cy g hL S e0 hV p0 p1) (cwV 2 hts gL_bars_X7_bars rfl rfl rfl (by decide +kernel) ⟨Nat.le_of_ble_eq_true rfl, Nat.le_of_ble_eq_true rfl⟩) ⟨CTh_blind, cr_recv (ci := 8) hC.2 hI 18 0 rfl rfl rfl, fun U hU hW => ⟨rfl, ⟨by rw [hU]; exact hM, va_K.moved hW.alike hK⟩, by rw [hU]; exact JT.warm hW hJ⟩⟩ rfl rfl hl.1 rfl (lv_room (Nat.le_of_ble_eq_true rfl)) dL_bars_5 ⟨Nat.le_of_ble_eq_true rfl, Nat.le_of_ble_eq_true rfl⟩) hS (fun q _ h => Or.inl h) (fun q h => Or.inl h) (fun q _ h => Or.inl h) (fun E ce q9 u t H1 locs1 ht hvm hp hE hz1 hk1 hS1 hce hcv hcl => ?_) (fun r u t H1 locs1 ht hvm hp hB hz1 hk1 hS1 => ?_)
  · obtain ⟨hE, hM1⟩ := hE
    rw [ht] at hM1
    have hOut1 : at1 D oa (LA cy v0) H1 := hOut.kept (hk1 oa hOut.lt hoA)
    obtain ⟨hc7, hs7⟩ := c7_bars S p0 p1
    have hS2 := hs7 hp
    rcases hc7 with h0 | h0
    · exact absurd h0 hp
    · have hE : E = "java/lang/IndexOutOfBoundsException" := hE.trans (by rw [h0]; rfl)
      subst hE
      refine vx_catch hown [] ⟨0, 10, 13, 13⟩ [] (by rw [hct]; rfl) (fun _ hz => absurd hz List.not_mem_nil) rfl (by decide) k_13 (va_Nw.use (jwl_tab _ (List.mem_of_getElem? (i := 0) rfl)) (hJ.2.2.2 _ (List.mem_of_getElem? (i := 0) rfl))) hce hcv hcl ?_
      refine lv_astore (lv' := [(4, .ref q9), (0, .ref (ga g 18 0)), (1, .int p0), (2, .int p1), (3, .ref oa)]) hx hb dL_bars_13 hl (by decide) rfl (fun ls hl => ?_)
      refine lv_iconst (v := 1) hx hb dL_bars_15 (by decide) ?_
      refine vx_ret ?_
      refine W.widen (k := 6) (n := 326) (Nat.le_of_ble_eq_true rfl) (Nat.le_of_ble_eq_true rfl) ?_
      exact W.iret (v := 1) hx hb hr (fun t9 ht9 hW9 => ⟨⟨1, g, rfl, ⟨by rw [h0]; rfl, hL, hV.1, by rw [hS2]; exact hV.2.1, rfl⟩, ⟨by rw [ht9, hS2]; exact hM1, v0, by rw [ht9]; exact hOut1, fun q => absurd q hp⟩⟩, hS1.F ht9⟩) hS1.2.2 dL_bars_16
  · rw [ht] at hB
    have hOut1 : at1 D oa (LA cy v0) H1 := hOut.kept (hk1 oa hOut.lt hoA)
    obtain ⟨hp0, hr1⟩ := hp
    refine lv_i2l hx hb dL_bars_8 rfl ?_
    refine lw_put (x := r.toInt64) hx hb hK hOut1 dL_bars_9 (fun H2 j hO2 hz2 oq2 => ?_)
    have hS2 := S_put j hS1 hz2 oq2 (Or.inr rfl)
    refine lv_goto (tgt := 17) hx hb dL_bars_10 (by decide) ?_
    refine lv_iconst (v := 0) hx hb dL_bars_17 (by decide) ?_
    refine vx_ret ?_
    refine W.widen (k := 6) (n := 326) (Nat.le_of_ble_eq_true rfl) (Nat.le_of_ble_eq_true rfl) ?_
    exact W.iret (v := 0) hx hb hr (fun t9 ht9 hW9 => ⟨⟨0, g, rfl, ⟨by rw [hp0]; rfl, hL, hV.1, (k7_bars S p0 p1).ct hV.2.1, rfl⟩, ⟨by rw [ht9]; exact hB.off hL hoA oq2, r.toInt64, by rw [ht9]; exact hO2, fun _ => by rw [hr1]⟩⟩, hS2.F ht9⟩) hS2.2.2 dL_bars_18
set_option maxHeartbeats 4000000 in
set_option maxRecDepth 100000 in
theorem qL_first (l : Launch) (hfl : l.stackTraces = false) (A : Nat → Prop) (D : va_G) (cy : Nat → ClassId) (g : CWt) (hL : CL A g) (S : St) (e0 mi n0 oa : Nat) (hA : ∀ q, n0 ≤ q → A q) (hoA : ¬ A oa) (hV : CV e0 g S) (hZ : ZR S) (hPP : NPK S) (p0 : Int32) : vx_Met l yL_first wsL_first ({ frames := 9, cells := 6, slots := 326, locals := 240 } : Room) (va_Pc [.ref (ga g 18 0), .int p0, .ref oa] (LPw A D cy g S e0 mi n0 oa)) (va_Qi (fun (r : Int32) (g1 : CWt) => r = mp3 (fX7_first S p0).2.1 ∧ LG A g e0 g1 (fX7_first S p0).2.2) (fun g1 t => CH D cy g1 (fX7_first S p0).2.2 t.heap ∧ ∃ v, at1 D oa (LA cy v) t.heap ∧ ((fX7_first S p0).2.1 = 0 → v = ((fX7_first S p0).1.toInt64))) (fun q => A q ∨ q = oa)) LF 6 326 (fun q => A q ∨ q = oa) := by
  refine vx_ofWH (cc := cL_first) (maxL := 4) (ret := (some .int)) (hh := [(0, 9, 12, 13)]) (by decide) rfl ?_
  intro p e s m args below meth c s₁ B hml hv
  obtain ⟨rfl, ⟨⟨⟨hM, hK⟩, hJ⟩, hX, hO, hn0⟩, hNc, v0, hOut⟩ := hv
  have hx := B.exec
  have hb := B.bytes
  have hr := B.returns
  have hts := atoms_spec (ws := wsL_first) B.pre
  have hown : s.vm.findClass RL = some m.cls := findClass_of_methodNamed B.named
  have hct := vx_table (p := p) (x := yL_first) B (hts (.codeWith yL_first cL_first 4 (some .int) [(0, 9, 12, 13)]) List.mem_cons_self)
  have hC : CC p s m _ c cL_first 4 RL D cy wsL_first := ⟨⟨hx, hb, hml, hown, hts⟩, hK⟩
  have hI : CI A D cy g s S s.heap [] := ⟨hM, va_S.rf⟩
  have hS : va_S (fun q => A q ∨ q = oa) s.heap s.heap [] := va_S.rf
  have k_13 := hts (.classLink RL 13 "java/lang/IndexOutOfBoundsException") (List.mem_cons_of_mem _ (List.mem_append_left _ (List.mem_append_left _ (List.mem_append_left _ (List.mem_append_left _ (List.mem_append_left _ (List.mem_append_left _ (List.mem_append_left _ (List.mem_of_getElem? (i := 0) rfl)))))))))
  have hl := lv_entry ([.ref (ga g 18 0), .int p0, .ref oa]) (n := 4) (Nat.le_of_ble_eq_true rfl)
  rw [lg_entry_eq]
  generalize (lg_sl ([.ref (ga g 18 0), .int p0, .ref oa]) ++ List.replicate (4 - (lg_sl ([.ref (ga g 18 0), .int p0, .ref oa])).length) Slot.unset).toArray = ls at hl ⊢
  have hl : lv_has ls 4 [(0, .ref (ga g 18 0)), (1, .int p0), (2, .ref oa)] := hl
  refine lv_aload_n hx hb dL_first_0 rfl (lv_at hl 2 rfl) ?_
  refine lv_iconst (v := 0) hx hb dL_first_1 (by decide) ?_
  refine lv_aload_n hx hb dL_first_2 rfl (lv_at hl 0 rfl) ?_
  refine lv_iload_n hx hb dL_first_3 rfl (lv_at hl 1 rfl) ?_
  refine vx_calli (vx_runV (As := [.int p0]) (rest := [.int 0, .ref oa]) hC.1 (qX7_first l hfl A D cy g hL S e0 hV p0) (cwV 1 hts gL_first_X7_first rfl rfl rfl (by decide +kernel) ⟨Nat.le_of_ble_eq_true rfl, Nat.le_of_ble_eq_true rfl⟩) ⟨CTh_blind, cr_recv (ci := 8) hC.2 hI 18 0 rfl rfl rfl, fun U hU hW => ⟨rfl, ⟨by rw [hU]; exact hM, va_K.moved hW.alike hK⟩, by rw [hU]; exact JT.warm hW hJ⟩⟩ rfl rfl hl.1 rfl (lv_room (Nat.le_of_ble_eq_true rfl)) dL_first_4 ⟨Nat.le_of_ble_eq_true rfl, Nat.le_of_ble_eq_true rfl⟩) hS (fun q _ h => Or.inl h) (fun q h => Or.inl h) (fun q _ h => Or.inl h) (fun E ce q9 u t H1 locs1 ht hvm hp hE hz1 hk1 hS1 hce hcv hcl => ?_) (fun r u t H1 locs1 ht hvm hp hB hz1 hk1 hS1 => ?_)
  · obtain ⟨hE, hM1⟩ := hE
    rw [ht] at hM1
    have hOut1 : at1 D oa (LA cy v0) H1 := hOut.kept (hk1 oa hOut.lt hoA)
    obtain ⟨hc7, hs7⟩ := c7_first S p0
    have hS2 := hs7 hp
    rcases hc7 with h0 | h0
    · exact absurd h0 hp
    · have hE : E = "java/lang/IndexOutOfBoundsException" := hE.trans (by rw [h0]; rfl)
      subst hE
      refine vx_catch hown [] ⟨0, 9, 12, 13⟩ [] (by rw [hct]; rfl) (fun _ hz => absurd hz List.not_mem_nil) rfl (by decide) k_13 (va_Nw.use (jwl_tab _ (List.mem_of_getElem? (i := 0) rfl)) (hJ.2.2.2 _ (List.mem_of_getElem? (i := 0) rfl))) hce hcv hcl ?_
      refine lv_astore_n (lv' := [(3, .ref q9), (0, .ref (ga g 18 0)), (1, .int p0), (2, .ref oa)]) hx hb dL_first_12 rfl hl (by decide) rfl (fun ls hl => ?_)
      refine lv_iconst (v := 1) hx hb dL_first_13 (by decide) ?_
      refine vx_ret ?_
      refine W.widen (k := 6) (n := 326) (Nat.le_of_ble_eq_true rfl) (Nat.le_of_ble_eq_true rfl) ?_
      exact W.iret (v := 1) hx hb hr (fun t9 ht9 hW9 => ⟨⟨1, g, rfl, ⟨by rw [h0]; rfl, hL, hV.1, by rw [hS2]; exact hV.2.1, rfl⟩, ⟨by rw [ht9, hS2]; exact hM1, v0, by rw [ht9]; exact hOut1, fun q => absurd q hp⟩⟩, hS1.F ht9⟩) hS1.2.2 dL_first_14
  · rw [ht] at hB
    have hOut1 : at1 D oa (LA cy v0) H1 := hOut.kept (hk1 oa hOut.lt hoA)
    obtain ⟨hp0, hr1⟩ := hp
    refine lv_i2l hx hb dL_first_7 rfl ?_
    refine lw_put (x := r.toInt64) hx hb hK hOut1 dL_first_8 (fun H2 j hO2 hz2 oq2 => ?_)
    have hS2 := S_put j hS1 hz2 oq2 (Or.inr rfl)
    refine lv_goto (tgt := 15) hx hb dL_first_9 (by decide) ?_
    refine lv_iconst (v := 0) hx hb dL_first_15 (by decide) ?_
    refine vx_ret ?_
    refine W.widen (k := 6) (n := 326) (Nat.le_of_ble_eq_true rfl) (Nat.le_of_ble_eq_true rfl) ?_
    exact W.iret (v := 0) hx hb hr (fun t9 ht9 hW9 => ⟨⟨0, g, rfl, ⟨by rw [hp0]; rfl, hL, hV.1, (k7_first S p0).ct hV.2.1, rfl⟩, ⟨by rw [ht9]; exact hB.off hL hoA oq2, r.toInt64, by rw [ht9]; exact hO2, fun _ => by rw [hr1]⟩⟩, hS2.F ht9⟩) hS2.2.2 dL_first_16
set_option maxHeartbeats 4000000 in
set_option maxRecDepth 100000 in
theorem qL_firstAnew (l : Launch) (hfl : l.stackTraces = false) (A : Nat → Prop) (D : va_G) (cy : Nat → ClassId) (g : CWt) (hL : CL A g) (S : St) (e0 mi n0 oa : Nat) (hA : ∀ q, n0 ≤ q → A q) (hoA : ¬ A oa) (hV : CV e0 g S) (hZ : ZR S) (hPP : NPK S) (p0 : Int32) : vx_Met l yL_firstAnew wsL_firstAnew ({ frames := 9, cells := 6, slots := 326, locals := 240 } : Room) (va_Pc [.ref (ga g 18 0), .int p0, .ref oa] (LPw A D cy g S e0 mi n0 oa)) (va_Qi (fun (r : Int32) (g1 : CWt) => r = mp3 (fX7_firstAnew S p0).2.1 ∧ LG A g e0 g1 (fX7_firstAnew S p0).2.2) (fun g1 t => CH D cy g1 (fX7_firstAnew S p0).2.2 t.heap ∧ ∃ v, at1 D oa (LA cy v) t.heap ∧ ((fX7_firstAnew S p0).2.1 = 0 → v = ((fX7_firstAnew S p0).1.toInt64))) (fun q => A q ∨ q = oa)) LF 6 326 (fun q => A q ∨ q = oa) := by
  refine vx_ofWH (cc := cL_firstAnew) (maxL := 4) (ret := (some .int)) (hh := [(0, 9, 12, 13)]) (by decide) rfl ?_
  intro p e s m args below meth c s₁ B hml hv
  obtain ⟨rfl, ⟨⟨⟨hM, hK⟩, hJ⟩, hX, hO, hn0⟩, hNc, v0, hOut⟩ := hv
  have hx := B.exec
  have hb := B.bytes
  have hr := B.returns
  have hts := atoms_spec (ws := wsL_firstAnew) B.pre
  have hown : s.vm.findClass RL = some m.cls := findClass_of_methodNamed B.named
  have hct := vx_table (p := p) (x := yL_firstAnew) B (hts (.codeWith yL_firstAnew cL_firstAnew 4 (some .int) [(0, 9, 12, 13)]) List.mem_cons_self)
  have hC : CC p s m _ c cL_firstAnew 4 RL D cy wsL_firstAnew := ⟨⟨hx, hb, hml, hown, hts⟩, hK⟩
  have hI : CI A D cy g s S s.heap [] := ⟨hM, va_S.rf⟩
  have hS : va_S (fun q => A q ∨ q = oa) s.heap s.heap [] := va_S.rf
  have k_13 := hts (.classLink RL 13 "java/lang/IndexOutOfBoundsException") (List.mem_cons_of_mem _ (List.mem_append_left _ (List.mem_append_left _ (List.mem_append_left _ (List.mem_append_left _ (List.mem_append_left _ (List.mem_append_left _ (List.mem_append_left _ (List.mem_of_getElem? (i := 0) rfl)))))))))
  have hl := lv_entry ([.ref (ga g 18 0), .int p0, .ref oa]) (n := 4) (Nat.le_of_ble_eq_true rfl)
  rw [lg_entry_eq]
  generalize (lg_sl ([.ref (ga g 18 0), .int p0, .ref oa]) ++ List.replicate (4 - (lg_sl ([.ref (ga g 18 0), .int p0, .ref oa])).length) Slot.unset).toArray = ls at hl ⊢
  have hl : lv_has ls 4 [(0, .ref (ga g 18 0)), (1, .int p0), (2, .ref oa)] := hl
  refine lv_aload_n hx hb dL_firstAnew_0 rfl (lv_at hl 2 rfl) ?_
  refine lv_iconst (v := 0) hx hb dL_firstAnew_1 (by decide) ?_
  refine lv_aload_n hx hb dL_firstAnew_2 rfl (lv_at hl 0 rfl) ?_
  refine lv_iload_n hx hb dL_firstAnew_3 rfl (lv_at hl 1 rfl) ?_
  refine vx_calli (vx_runV (As := [.int p0]) (rest := [.int 0, .ref oa]) hC.1 (qX7_firstAnew l hfl A D cy g hL S e0 hV p0) (cwV 1 hts gL_firstAnew_X7_firstAnew rfl rfl rfl (by decide +kernel) ⟨Nat.le_of_ble_eq_true rfl, Nat.le_of_ble_eq_true rfl⟩) ⟨CTh_blind, cr_recv (ci := 8) hC.2 hI 18 0 rfl rfl rfl, fun U hU hW => ⟨rfl, ⟨by rw [hU]; exact hM, va_K.moved hW.alike hK⟩, by rw [hU]; exact JT.warm hW hJ⟩⟩ rfl rfl hl.1 rfl (lv_room (Nat.le_of_ble_eq_true rfl)) dL_firstAnew_4 ⟨Nat.le_of_ble_eq_true rfl, Nat.le_of_ble_eq_true rfl⟩) hS (fun q _ h => Or.inl h) (fun q h => Or.inl h) (fun q _ h => Or.inl h) (fun E ce q9 u t H1 locs1 ht hvm hp hE hz1 hk1 hS1 hce hcv hcl => ?_) (fun r u t H1 locs1 ht hvm hp hB hz1 hk1 hS1 => ?_)
  · obtain ⟨hE, hM1⟩ := hE
    rw [ht] at hM1
    have hOut1 : at1 D oa (LA cy v0) H1 := hOut.kept (hk1 oa hOut.lt hoA)
    obtain ⟨hc7, hs7⟩ := c7_firstAnew S p0
    have hS2 := hs7 hp
    rcases hc7 with h0 | h0
    · exact absurd h0 hp
    · have hE : E = "java/lang/IndexOutOfBoundsException" := hE.trans (by rw [h0]; rfl)
      subst hE
      refine vx_catch hown [] ⟨0, 9, 12, 13⟩ [] (by rw [hct]; rfl) (fun _ hz => absurd hz List.not_mem_nil) rfl (by decide) k_13 (va_Nw.use (jwl_tab _ (List.mem_of_getElem? (i := 0) rfl)) (hJ.2.2.2 _ (List.mem_of_getElem? (i := 0) rfl))) hce hcv hcl ?_
      refine lv_astore_n (lv' := [(3, .ref q9), (0, .ref (ga g 18 0)), (1, .int p0), (2, .ref oa)]) hx hb dL_firstAnew_12 rfl hl (by decide) rfl (fun ls hl => ?_)
      refine lv_iconst (v := 1) hx hb dL_firstAnew_13 (by decide) ?_
      refine vx_ret ?_
      refine W.widen (k := 6) (n := 326) (Nat.le_of_ble_eq_true rfl) (Nat.le_of_ble_eq_true rfl) ?_
      exact W.iret (v := 1) hx hb hr (fun t9 ht9 hW9 => ⟨⟨1, g, rfl, ⟨by rw [h0]; rfl, hL, hV.1, by rw [hS2]; exact hV.2.1, rfl⟩, ⟨by rw [ht9, hS2]; exact hM1, v0, by rw [ht9]; exact hOut1, fun q => absurd q hp⟩⟩, hS1.F ht9⟩) hS1.2.2 dL_firstAnew_14
  · rw [ht] at hB
    have hOut1 : at1 D oa (LA cy v0) H1 := hOut.kept (hk1 oa hOut.lt hoA)
    obtain ⟨hp0, hr1⟩ := hp
    refine lv_i2l hx hb dL_firstAnew_7 rfl ?_
    refine lw_put (x := r.toInt64) hx hb hK hOut1 dL_firstAnew_8 (fun H2 j hO2 hz2 oq2 => ?_)
    have hS2 := S_put j hS1 hz2 oq2 (Or.inr rfl)
    refine lv_goto (tgt := 15) hx hb dL_firstAnew_9 (by decide) ?_
    refine lv_iconst (v := 0) hx hb dL_firstAnew_15 (by decide) ?_
    refine vx_ret ?_
    refine W.widen (k := 6) (n := 326) (Nat.le_of_ble_eq_true rfl) (Nat.le_of_ble_eq_true rfl) ?_
    exact W.iret (v := 0) hx hb hr (fun t9 ht9 hW9 => ⟨⟨0, g, rfl, ⟨by rw [hp0]; rfl, hL, hV.1, (k7_firstAnew S p0).ct hV.2.1, rfl⟩, ⟨by rw [ht9]; exact hB.off hL hoA oq2, r.toInt64, by rw [ht9]; exact hO2, fun _ => by rw [hr1]⟩⟩, hS2.F ht9⟩) hS2.2.2 dL_firstAnew_16
set_option maxHeartbeats 4000000 in
set_option maxRecDepth 100000 in
theorem qL_due (l : Launch) (hfl : l.stackTraces = false) (A : Nat → Prop) (D : va_G) (cy : Nat → ClassId) (g : CWt) (hL : CL A g) (S : St) (e0 mi n0 oa : Nat) (hA : ∀ q, n0 ≤ q → A q) (hoA : ¬ A oa) (hV : CV e0 g S) (hZ : ZR S) (hPP : NPK S) (p0 : Int32) : vx_Met l yL_due wsL_due ({ frames := 9, cells := 6, slots := 326, locals := 240 } : Room) (va_Pc [.ref (ga g 18 0), .int p0, .ref oa] (LPw A D cy g S e0 mi n0 oa)) (va_Qi (fun (r : Int32) (g1 : CWt) => r = mp3 (fX7_due S p0).2.1 ∧ LG A g e0 g1 (fX7_due S p0).2.2) (fun g1 t => CH D cy g1 (fX7_due S p0).2.2 t.heap ∧ ∃ v, at1 D oa (LA cy v) t.heap ∧ ((fX7_due S p0).2.1 = 0 → v = ((fX7_due S p0).1.toInt64))) (fun q => A q ∨ q = oa)) LF 6 326 (fun q => A q ∨ q = oa) := by
  refine vx_ofWH (cc := cL_due) (maxL := 4) (ret := (some .int)) (hh := [(0, 9, 12, 13)]) (by decide) rfl ?_
  intro p e s m args below meth c s₁ B hml hv
  obtain ⟨rfl, ⟨⟨⟨hM, hK⟩, hJ⟩, hX, hO, hn0⟩, hNc, v0, hOut⟩ := hv
  have hx := B.exec
  have hb := B.bytes
  have hr := B.returns
  have hts := atoms_spec (ws := wsL_due) B.pre
  have hown : s.vm.findClass RL = some m.cls := findClass_of_methodNamed B.named
  have hct := vx_table (p := p) (x := yL_due) B (hts (.codeWith yL_due cL_due 4 (some .int) [(0, 9, 12, 13)]) List.mem_cons_self)
  have hC : CC p s m _ c cL_due 4 RL D cy wsL_due := ⟨⟨hx, hb, hml, hown, hts⟩, hK⟩
  have hI : CI A D cy g s S s.heap [] := ⟨hM, va_S.rf⟩
  have hS : va_S (fun q => A q ∨ q = oa) s.heap s.heap [] := va_S.rf
  have k_13 := hts (.classLink RL 13 "java/lang/IndexOutOfBoundsException") (List.mem_cons_of_mem _ (List.mem_append_left _ (List.mem_append_left _ (List.mem_append_left _ (List.mem_append_left _ (List.mem_append_left _ (List.mem_append_left _ (List.mem_append_left _ (List.mem_append_left _ (List.mem_of_getElem? (i := 0) rfl))))))))))
  have hl := lv_entry ([.ref (ga g 18 0), .int p0, .ref oa]) (n := 4) (Nat.le_of_ble_eq_true rfl)
  rw [lg_entry_eq]
  generalize (lg_sl ([.ref (ga g 18 0), .int p0, .ref oa]) ++ List.replicate (4 - (lg_sl ([.ref (ga g 18 0), .int p0, .ref oa])).length) Slot.unset).toArray = ls at hl ⊢
  have hl : lv_has ls 4 [(0, .ref (ga g 18 0)), (1, .int p0), (2, .ref oa)] := hl
  refine lv_aload_n hx hb dL_due_0 rfl (lv_at hl 2 rfl) ?_
  refine lv_iconst (v := 0) hx hb dL_due_1 (by decide) ?_
  refine lv_aload_n hx hb dL_due_2 rfl (lv_at hl 0 rfl) ?_
  refine lv_iload_n hx hb dL_due_3 rfl (lv_at hl 1 rfl) ?_
  refine vx_calli (vx_runV (As := [.int p0]) (rest := [.int 0, .ref oa]) hC.1 (qX7_due l hfl A D cy g hL S e0 hV p0) (cwV 1 hts gL_due_X7_due rfl rfl rfl (by decide +kernel) ⟨Nat.le_of_ble_eq_true rfl, Nat.le_of_ble_eq_true rfl⟩) ⟨CTh_blind, cr_recv (ci := 8) hC.2 hI 18 0 rfl rfl rfl, fun U hU hW => ⟨rfl, ⟨by rw [hU]; exact hM, va_K.moved hW.alike hK⟩, by rw [hU]; exact JT.warm hW hJ⟩⟩ rfl rfl hl.1 rfl (lv_room (Nat.le_of_ble_eq_true rfl)) dL_due_4 ⟨Nat.le_of_ble_eq_true rfl, Nat.le_of_ble_eq_true rfl⟩) hS (fun q _ h => Or.inl h) (fun q h => Or.inl h) (fun q _ h => Or.inl h) (fun E ce q9 u t H1 locs1 ht hvm hp hE hz1 hk1 hS1 hce hcv hcl => ?_) (fun r u t H1 locs1 ht hvm hp hB hz1 hk1 hS1 => ?_)
  · obtain ⟨hE, hM1⟩ := hE
    rw [ht] at hM1
    have hOut1 : at1 D oa (LA cy v0) H1 := hOut.kept (hk1 oa hOut.lt hoA)
    obtain ⟨hc7, hs7⟩ := c7_due S p0
    have hS2 := hs7 hp
    rcases hc7 with h0 | h0
    · exact absurd h0 hp
    · have hE : E = "java/lang/IndexOutOfBoundsException" := hE.trans (by rw [h0]; rfl)
      subst hE
      refine vx_catch hown [] ⟨0, 9, 12, 13⟩ [] (by rw [hct]; rfl) (fun _ hz => absurd hz List.not_mem_nil) rfl (by decide) k_13 (va_Nw.use (jwl_tab _ (List.mem_of_getElem? (i := 0) rfl)) (hJ.2.2.2 _ (List.mem_of_getElem? (i := 0) rfl))) hce hcv hcl ?_
      refine lv_astore_n (lv' := [(3, .ref q9), (0, .ref (ga g 18 0)), (1, .int p0), (2, .ref oa)]) hx hb dL_due_12 rfl hl (by decide) rfl (fun ls hl => ?_)
      refine lv_iconst (v := 1) hx hb dL_due_13 (by decide) ?_
      refine vx_ret ?_
      refine W.widen (k := 6) (n := 326) (Nat.le_of_ble_eq_true rfl) (Nat.le_of_ble_eq_true rfl) ?_
      exact W.iret (v := 1) hx hb hr (fun t9 ht9 hW9 => ⟨⟨1, g, rfl, ⟨by rw [h0]; rfl, hL, hV.1, by rw [hS2]; exact hV.2.1, rfl⟩, ⟨by rw [ht9, hS2]; exact hM1, v0, by rw [ht9]; exact hOut1, fun q => absurd q hp⟩⟩, hS1.F ht9⟩) hS1.2.2 dL_due_14
  · rw [ht] at hB
    have hOut1 : at1 D oa (LA cy v0) H1 := hOut.kept (hk1 oa hOut.lt hoA)
    obtain ⟨hp0, hr1⟩ := hp
    refine lv_i2l hx hb dL_due_7 rfl ?_
    refine lw_put (x := r.toInt64) hx hb hK hOut1 dL_due_8 (fun H2 j hO2 hz2 oq2 => ?_)
    have hS2 := S_put j hS1 hz2 oq2 (Or.inr rfl)
    refine lv_goto (tgt := 15) hx hb dL_due_9 (by decide) ?_
    refine lv_iconst (v := 0) hx hb dL_due_15 (by decide) ?_
    refine vx_ret ?_
    refine W.widen (k := 6) (n := 326) (Nat.le_of_ble_eq_true rfl) (Nat.le_of_ble_eq_true rfl) ?_
    exact W.iret (v := 0) hx hb hr (fun t9 ht9 hW9 => ⟨⟨0, g, rfl, ⟨by rw [hp0]; rfl, hL, hV.1, (k7_due S p0).ct hV.2.1, rfl⟩, ⟨by rw [ht9]; exact hB.off hL hoA oq2, r.toInt64, by rw [ht9]; exact hO2, fun _ => by rw [hr1]⟩⟩, hS2.F ht9⟩) hS2.2.2 dL_due_16
set_option maxHeartbeats 4000000 in
set_option maxRecDepth 100000 in
theorem qL_sees (l : Launch) (hfl : l.stackTraces = false) (A : Nat → Prop) (D : va_G) (cy : Nat → ClassId) (g : CWt) (hL : CL A g) (S : St) (e0 mi n0 oa : Nat) (hA : ∀ q, n0 ≤ q → A q) (hoA : ¬ A oa) (hV : CV e0 g S) (hZ : ZR S) (hPP : NPK S) (p0 p1 : Int32) : vx_Met l yL_sees wsL_sees ({ frames := 9, cells := 6, slots := 326, locals := 240 } : Room) (va_Pc [.ref (ga g 18 0), .int p0, .int p1, .ref oa] (LPw A D cy g S e0 mi n0 oa)) (va_Qi (fun (r : Int32) (g1 : CWt) => r = mp3 (fX7_sees S p0 p1).2.1 ∧ LG A g e0 g1 (fX7_sees S p0 p1).2.2) (fun g1 t => CH D cy g1 (fX7_sees S p0 p1).2.2 t.heap ∧ ∃ v, at1 D oa (LA cy v) t.heap ∧ ((fX7_sees S p0 p1).2.1 = 0 → v = (if (fX7_sees S p0 p1).1 = 0 then (0 : Int64) else 1))) (fun q => A q ∨ q = oa)) LF 6 326 (fun q => A q ∨ q = oa) := by
  refine vx_ofWH (cc := cL_sees) (maxL := 5) (ret := (some .int)) (hh := [(0, 17, 20, 13)]) (by decide) rfl ?_
  intro p e s m args below meth c s₁ B hml hv
  obtain ⟨rfl, ⟨⟨⟨hM, hK⟩, hJ⟩, hX, hO, hn0⟩, hNc, v0, hOut⟩ := hv
  have hx := B.exec
  have hb := B.bytes
  have hr := B.returns
  have hts := atoms_spec (ws := wsL_sees) B.pre
  have hown : s.vm.findClass RL = some m.cls := findClass_of_methodNamed B.named
  have hct := vx_table (p := p) (x := yL_sees) B (hts (.codeWith yL_sees cL_sees 5 (some .int) [(0, 17, 20, 13)]) List.mem_cons_self)
  have hC : CC p s m _ c cL_sees 5 RL D cy wsL_sees := ⟨⟨hx, hb, hml, hown, hts⟩, hK⟩
  have hI : CI A D cy g s S s.heap [] := ⟨hM, va_S.rf⟩
  have hS : va_S (fun q => A q ∨ q = oa) s.heap s.heap [] := va_S.rf
  have k_13 := hts (.classLink RL 13 "java/lang/IndexOutOfBoundsException") (List.mem_cons_of_mem _ (List.mem_append_left _ (List.mem_append_left _ (List.mem_append_left _ (List.mem_append_left _ (List.mem_append_left _ (List.mem_of_getElem? (i := 0) rfl)))))))
  have hl := lv_entry ([.ref (ga g 18 0), .int p0, .int p1, .ref oa]) (n := 5) (Nat.le_of_ble_eq_true rfl)
  rw [lg_entry_eq]
  generalize (lg_sl ([.ref (ga g 18 0), .int p0, .int p1, .ref oa]) ++ List.replicate (5 - (lg_sl ([.ref (ga g 18 0), .int p0, .int p1, .ref oa])).length) Slot.unset).toArray = ls at hl ⊢
  have hl : lv_has ls 5 [(0, .ref (ga g 18 0)), (1, .int p0), (2, .int p1), (3, .ref oa)] := hl
  refine lv_aload_n hx hb dL_sees_0 rfl (lv_at hl 3 rfl) ?_
  refine lv_iconst (v := 0) hx hb dL_sees_1 (by decide) ?_
  refine lv_aload_n hx hb dL_sees_2 rfl (lv_at hl 0 rfl) ?_
  refine lv_iload_n hx hb dL_sees_3 rfl (lv_at hl 1 rfl) ?_
  refine lv_iload_n hx hb dL_sees_4 rfl (lv_at hl 2 rfl) ?_
  refine vx_calli (vx_runV (As := [.int p0, .int p1]) (rest := [.int 0, .ref oa]) hC.1 (qX7_sees l hfl A D cy g hL S e0 hV p0 p1) (cwV 2 hts gL_sees_X7_sees rfl rfl rfl (by decide +kernel) ⟨Nat.le_of_ble_eq_true rfl, Nat.le_of_ble_eq_true rfl⟩) ⟨CTh_blind, cr_recv (ci := 8) hC.2 hI 18 0 rfl rfl rfl, fun U hU hW => ⟨rfl, ⟨by rw [hU]; exact hM, va_K.moved hW.alike hK⟩, by rw [hU]; exact JT.warm hW hJ⟩⟩ rfl rfl hl.1 rfl (lv_room (Nat.le_of_ble_eq_true rfl)) dL_sees_5 ⟨Nat.le_of_ble_eq_true rfl, Nat.le_of_ble_eq_true rfl⟩) hS (fun q _ h => Or.inl h) (fun q h => Or.inl h) (fun q _ h => Or.inl h) (fun E ce q9 u t H1 locs1 ht hvm hp hE hz1 hk1 hS1 hce hcv hcl => ?_) (fun r u t H1 locs1 ht hvm hp hB hz1 hk1 hS1 => ?_)
  · obtain ⟨hE, hM1⟩ := hE
    rw [ht] at hM1
    have hOut1 : at1 D oa (LA cy v0) H1 := hOut.kept (hk1 oa hOut.lt hoA)
    obtain ⟨hc7, hs7⟩ := c7_sees S p0 p1
    have hS2 := hs7 hp
    rcases hc7 with h0 | h0
    · exact absurd h0 hp
    · have hE : E = "java/lang/IndexOutOfBoundsException" := hE.trans (by rw [h0]; rfl)
      subst hE
      refine vx_catch hown [] ⟨0, 17, 20, 13⟩ [] (by rw [hct]; rfl) (fun _ hz => absurd hz List.not_mem_nil) rfl (by decide) k_13 (va_Nw.use (jwl_tab _ (List.mem_of_getElem? (i := 0) rfl)) (hJ.2.2.2 _ (List.mem_of_getElem? (i := 0) rfl))) hce hcv hcl ?_
      refine lv_astore (lv' := [(4, .ref q9), (0, .ref (ga g 18 0)), (1, .int p0), (2, .int p1), (3, .ref oa)]) hx hb dL_sees_20 hl (by decide) rfl (fun ls hl => ?_)
      refine lv_iconst (v := 1) hx hb dL_sees_22 (by decide) ?_
      refine vx_ret ?_
      refine W.widen (k := 6) (n := 326) (Nat.le_of_ble_eq_true rfl) (Nat.le_of_ble_eq_true rfl) ?_
      exact W.iret (v := 1) hx hb hr (fun t9 ht9 hW9 => ⟨⟨1, g, rfl, ⟨by rw [h0]; rfl, hL, hV.1, by rw [hS2]; exact hV.2.1, rfl⟩, ⟨by rw [ht9, hS2]; exact hM1, v0, by rw [ht9]; exact hOut1, fun q => absurd q hp⟩⟩, hS1.F ht9⟩) hS1.2.2 dL_sees_23
  · rw [ht] at hB
    have hOut1 : at1 D oa (LA cy v0) H1 := hOut.kept (hk1 oa hOut.lt hoA)
    obtain ⟨hp0, hr1⟩ := hp
    refine lv_if_eq (tgt := 15) hx hb dL_sees_8 (by decide) (fun c0 => ?_) (fun c0 => ?_)
    · refine lv_lconst (v := 0) hx hb dL_sees_15 rfl ?_
      refine lw_put (x := (0 : Int64)) hx hb hK hOut1 dL_sees_16 (fun H2 j hO2 hz2 oq2 => ?_)
      have hS2 := S_put j hS1 hz2 oq2 (Or.inr rfl)
      refine lv_goto (tgt := 24) hx hb dL_sees_17 (by decide) ?_
      refine lv_iconst (v := 0) hx hb dL_sees_24 (by decide) ?_
      refine vx_ret ?_
      refine W.widen (k := 6) (n := 326) (Nat.le_of_ble_eq_true rfl) (Nat.le_of_ble_eq_true rfl) ?_
      exact W.iret (v := 0) hx hb hr (fun t9 ht9 hW9 => ⟨⟨0, g, rfl, ⟨by rw [hp0]; rfl, hL, hV.1, (k7_sees S p0 p1).ct hV.2.1, rfl⟩, ⟨by rw [ht9]; exact hB.off hL hoA oq2, (0 : Int64), by rw [ht9]; exact hO2, fun _ => by rw [← hr1, if_pos c0]⟩⟩, hS2.F ht9⟩) hS2.2.2 dL_sees_25
    · refine lv_lconst (v := 1) hx hb dL_sees_11 rfl ?_
      refine lv_goto (tgt := 16) hx hb dL_sees_12 (by decide) ?_
      refine lw_put (x := (1 : Int64)) hx hb hK hOut1 dL_sees_16 (fun H2 j hO2 hz2 oq2 => ?_)
      have hS2 := S_put j hS1 hz2 oq2 (Or.inr rfl)
      refine lv_goto (tgt := 24) hx hb dL_sees_17 (by decide) ?_
      refine lv_iconst (v := 0) hx hb dL_sees_24 (by decide) ?_
      refine vx_ret ?_
      refine W.widen (k := 6) (n := 326) (Nat.le_of_ble_eq_true rfl) (Nat.le_of_ble_eq_true rfl) ?_
      exact W.iret (v := 0) hx hb hr (fun t9 ht9 hW9 => ⟨⟨0, g, rfl, ⟨by rw [hp0]; rfl, hL, hV.1, (k7_sees S p0 p1).ct hV.2.1, rfl⟩, ⟨by rw [ht9]; exact hB.off hL hoA oq2, (1 : Int64), by rw [ht9]; exact hO2, fun _ => by rw [← hr1, if_neg c0]⟩⟩, hS2.F ht9⟩) hS2.2.2 dL_sees_25
set_option maxHeartbeats 4000000 in
set_option maxRecDepth 100000 in
theorem qL_ofSuit (l : Launch) (hfl : l.stackTraces = false) (A : Nat → Prop) (D : va_G) (cy : Nat → ClassId) (g : CWt) (hL : CL A g) (S : St) (e0 mi n0 oa : Nat) (hA : ∀ q, n0 ≤ q → A q) (hoA : ¬ A oa) (hV : CV e0 g S) (hZ : ZR S) (hPP : NPK S) (p0 p1 : Int32) : vx_Met l yL_ofSuit wsL_ofSuit ({ frames := 9, cells := 6, slots := 326, locals := 240 } : Room) (va_Pc [.ref (ga g 18 0), .int p0, .int p1, .ref oa] (LPw A D cy g S e0 mi n0 oa)) (va_Qi (fun (r : Int32) (g1 : CWt) => r = mp3 (fX7_ofSuit S p0 p1).2.1 ∧ LG A g e0 g1 (fX7_ofSuit S p0 p1).2.2) (fun g1 t => CH D cy g1 (fX7_ofSuit S p0 p1).2.2 t.heap ∧ ∃ v, at1 D oa (LA cy v) t.heap ∧ ((fX7_ofSuit S p0 p1).2.1 = 0 → v = ((fX7_ofSuit S p0 p1).1.toInt64))) (fun q => A q ∨ q = oa)) LF 6 326 (fun q => A q ∨ q = oa) := by
  refine vx_ofWH (cc := cL_ofSuit) (maxL := 5) (ret := (some .int)) (hh := [(0, 10, 13, 13)]) (by decide) rfl ?_
  intro p e s m args below meth c s₁ B hml hv
  obtain ⟨rfl, ⟨⟨⟨hM, hK⟩, hJ⟩, hX, hO, hn0⟩, hNc, v0, hOut⟩ := hv
  have hx := B.exec
  have hb := B.bytes
  have hr := B.returns
  have hts := atoms_spec (ws := wsL_ofSuit) B.pre
  have hown : s.vm.findClass RL = some m.cls := findClass_of_methodNamed B.named
  have hct := vx_table (p := p) (x := yL_ofSuit) B (hts (.codeWith yL_ofSuit cL_ofSuit 5 (some .int) [(0, 10, 13, 13)]) List.mem_cons_self)
  have hC : CC p s m _ c cL_ofSuit 5 RL D cy wsL_ofSuit := ⟨⟨hx, hb, hml, hown, hts⟩, hK⟩
  have hI : CI A D cy g s S s.heap [] := ⟨hM, va_S.rf⟩
  have hS : va_S (fun q => A q ∨ q = oa) s.heap s.heap [] := va_S.rf
  have k_13 := hts (.classLink RL 13 "java/lang/IndexOutOfBoundsException") (List.mem_cons_of_mem _ (List.mem_append_left _ (List.mem_append_left _ (List.mem_append_left _ (List.mem_append_left _ (List.mem_append_left _ (List.mem_append_left _ (List.mem_append_left _ (List.mem_of_getElem? (i := 0) rfl)))))))))
  have hl := lv_entry ([.ref (ga g 18 0), .int p0, .int p1, .ref oa]) (n := 5) (Nat.le_of_ble_eq_true rfl)
  rw [lg_entry_eq]
  generalize (lg_sl ([.ref (ga g 18 0), .int p0, .int p1, .ref oa]) ++ List.replicate (5 - (lg_sl ([.ref (ga g 18 0), .int p0, .int p1, .ref oa])).length) Slot.unset).toArray = ls at hl ⊢
  have hl : lv_has ls 5 [(0, .ref (ga g 18 0)), (1, .int p0), (2, .int p1), (3, .ref oa)] := hl
  refine lv_aload_n hx hb dL_ofSuit_0 rfl (lv_at hl 3 rfl) ?_
  refine lv_iconst (v := 0) hx hb dL_ofSuit_1 (by decide) ?_
  refine lv_aload_n hx hb dL_ofSuit_2 rfl (lv_at hl 0 rfl) ?_
  refine lv_iload_n hx hb dL_ofSuit_3 rfl (lv_at hl 1 rfl) ?_
  refine lv_iload_n hx hb dL_ofSuit_4 rfl (lv_at hl 2 rfl) ?_
  refine vx_calli (vx_runV (As := [.int p0, .int p1]) (rest := [.int 0, .ref oa]) hC.1 (qX7_ofSuit l hfl A D cy g hL S e0 hV p0 p1) (cwV 2 hts gL_ofSuit_X7_ofSuit rfl rfl rfl (by decide +kernel) ⟨Nat.le_of_ble_eq_true rfl, Nat.le_of_ble_eq_true rfl⟩) ⟨CTh_blind, cr_recv (ci := 8) hC.2 hI 18 0 rfl rfl rfl, fun U hU hW => ⟨rfl, ⟨by rw [hU]; exact hM, va_K.moved hW.alike hK⟩, by rw [hU]; exact JT.warm hW hJ⟩⟩ rfl rfl hl.1 rfl (lv_room (Nat.le_of_ble_eq_true rfl)) dL_ofSuit_5 ⟨Nat.le_of_ble_eq_true rfl, Nat.le_of_ble_eq_true rfl⟩) hS (fun q _ h => Or.inl h) (fun q h => Or.inl h) (fun q _ h => Or.inl h) (fun E ce q9 u t H1 locs1 ht hvm hp hE hz1 hk1 hS1 hce hcv hcl => ?_) (fun r u t H1 locs1 ht hvm hp hB hz1 hk1 hS1 => ?_)
  · obtain ⟨hE, hM1⟩ := hE
    rw [ht] at hM1
    have hOut1 : at1 D oa (LA cy v0) H1 := hOut.kept (hk1 oa hOut.lt hoA)
    obtain ⟨hc7, hs7⟩ := c7_ofSuit S p0 p1
    have hS2 := hs7 hp
    rcases hc7 with h0 | h0
    · exact absurd h0 hp
    · have hE : E = "java/lang/IndexOutOfBoundsException" := hE.trans (by rw [h0]; rfl)
      subst hE
      refine vx_catch hown [] ⟨0, 10, 13, 13⟩ [] (by rw [hct]; rfl) (fun _ hz => absurd hz List.not_mem_nil) rfl (by decide) k_13 (va_Nw.use (jwl_tab _ (List.mem_of_getElem? (i := 0) rfl)) (hJ.2.2.2 _ (List.mem_of_getElem? (i := 0) rfl))) hce hcv hcl ?_
      refine lv_astore (lv' := [(4, .ref q9), (0, .ref (ga g 18 0)), (1, .int p0), (2, .int p1), (3, .ref oa)]) hx hb dL_ofSuit_13 hl (by decide) rfl (fun ls hl => ?_)
      refine lv_iconst (v := 1) hx hb dL_ofSuit_15 (by decide) ?_
      refine vx_ret ?_
      refine W.widen (k := 6) (n := 326) (Nat.le_of_ble_eq_true rfl) (Nat.le_of_ble_eq_true rfl) ?_
      exact W.iret (v := 1) hx hb hr (fun t9 ht9 hW9 => ⟨⟨1, g, rfl, ⟨by rw [h0]; rfl, hL, hV.1, by rw [hS2]; exact hV.2.1, rfl⟩, ⟨by rw [ht9, hS2]; exact hM1, v0, by rw [ht9]; exact hOut1, fun q => absurd q hp⟩⟩, hS1.F ht9⟩) hS1.2.2 dL_ofSuit_16
  · rw [ht] at hB
    have hOut1 : at1 D oa (LA cy v0) H1 := hOut.kept (hk1 oa hOut.lt hoA)
    obtain ⟨hp0, hr1⟩ := hp
    refine lv_i2l hx hb dL_ofSuit_8 rfl ?_
    refine lw_put (x := r.toInt64) hx hb hK hOut1 dL_ofSuit_9 (fun H2 j hO2 hz2 oq2 => ?_)
    have hS2 := S_put j hS1 hz2 oq2 (Or.inr rfl)
    refine lv_goto (tgt := 17) hx hb dL_ofSuit_10 (by decide) ?_
    refine lv_iconst (v := 0) hx hb dL_ofSuit_17 (by decide) ?_
    refine vx_ret ?_
    refine W.widen (k := 6) (n := 326) (Nat.le_of_ble_eq_true rfl) (Nat.le_of_ble_eq_true rfl) ?_
    exact W.iret (v := 0) hx hb hr (fun t9 ht9 hW9 => ⟨⟨0, g, rfl, ⟨by rw [hp0]; rfl, hL, hV.1, (k7_ofSuit S p0 p1).ct hV.2.1, rfl⟩, ⟨by rw [ht9]; exact hB.off hL hoA oq2, r.toInt64, by rw [ht9]; exact hO2, fun _ => by rw [hr1]⟩⟩, hS2.F ht9⟩) hS2.2.2 dL_ofSuit_18
set_option maxHeartbeats 4000000 in
set_option maxRecDepth 100000 in
theorem qL_ofClaim (l : Launch) (hfl : l.stackTraces = false) (A : Nat → Prop) (D : va_G) (cy : Nat → ClassId) (g : CWt) (hL : CL A g) (S : St) (e0 mi n0 oa : Nat) (hA : ∀ q, n0 ≤ q → A q) (hoA : ¬ A oa) (hV : CV e0 g S) (hZ : ZR S) (hPP : NPK S) (p0 p1 : Int32) : vx_Met l yL_ofClaim wsL_ofClaim ({ frames := 9, cells := 6, slots := 326, locals := 240 } : Room) (va_Pc [.ref (ga g 18 0), .int p0, .int p1, .ref oa] (LPw A D cy g S e0 mi n0 oa)) (va_Qi (fun (r : Int32) (g1 : CWt) => r = mp3 (fX7_ofClaim S p0 p1).2.1 ∧ LG A g e0 g1 (fX7_ofClaim S p0 p1).2.2) (fun g1 t => CH D cy g1 (fX7_ofClaim S p0 p1).2.2 t.heap ∧ ∃ v, at1 D oa (LA cy v) t.heap ∧ ((fX7_ofClaim S p0 p1).2.1 = 0 → v = ((fX7_ofClaim S p0 p1).1.toInt64))) (fun q => A q ∨ q = oa)) LF 6 326 (fun q => A q ∨ q = oa) := by
  refine vx_ofWH (cc := cL_ofClaim) (maxL := 5) (ret := (some .int)) (hh := [(0, 10, 13, 13)]) (by decide) rfl ?_
  intro p e s m args below meth c s₁ B hml hv
  obtain ⟨rfl, ⟨⟨⟨hM, hK⟩, hJ⟩, hX, hO, hn0⟩, hNc, v0, hOut⟩ := hv
  have hx := B.exec
  have hb := B.bytes
  have hr := B.returns
  have hts := atoms_spec (ws := wsL_ofClaim) B.pre
  have hown : s.vm.findClass RL = some m.cls := findClass_of_methodNamed B.named
  have hct := vx_table (p := p) (x := yL_ofClaim) B (hts (.codeWith yL_ofClaim cL_ofClaim 5 (some .int) [(0, 10, 13, 13)]) List.mem_cons_self)
  have hC : CC p s m _ c cL_ofClaim 5 RL D cy wsL_ofClaim := ⟨⟨hx, hb, hml, hown, hts⟩, hK⟩
  have hI : CI A D cy g s S s.heap [] := ⟨hM, va_S.rf⟩
  have hS : va_S (fun q => A q ∨ q = oa) s.heap s.heap [] := va_S.rf
  have k_13 := hts (.classLink RL 13 "java/lang/IndexOutOfBoundsException") (List.mem_cons_of_mem _ (List.mem_append_left _ (List.mem_append_left _ (List.mem_append_left _ (List.mem_append_left _ (List.mem_append_left _ (List.mem_of_getElem? (i := 0) rfl)))))))
  have hl := lv_entry ([.ref (ga g 18 0), .int p0, .int p1, .ref oa]) (n := 5) (Nat.le_of_ble_eq_true rfl)
  rw [lg_entry_eq]
  generalize (lg_sl ([.ref (ga g 18 0), .int p0, .int p1, .ref oa]) ++ List.replicate (5 - (lg_sl ([.ref (ga g 18 0), .int p0, .int p1, .ref oa])).length) Slot.unset).toArray = ls at hl ⊢
  have hl : lv_has ls 5 [(0, .ref (ga g 18 0)), (1, .int p0), (2, .int p1), (3, .ref oa)] := hl
  refine lv_aload_n hx hb dL_ofClaim_0 rfl (lv_at hl 3 rfl) ?_
  refine lv_iconst (v := 0) hx hb dL_ofClaim_1 (by decide) ?_
  refine lv_aload_n hx hb dL_ofClaim_2 rfl (lv_at hl 0 rfl) ?_
  refine lv_iload_n hx hb dL_ofClaim_3 rfl (lv_at hl 1 rfl) ?_
  refine lv_iload_n hx hb dL_ofClaim_4 rfl (lv_at hl 2 rfl) ?_
  refine vx_calli (vx_runV (As := [.int p0, .int p1]) (rest := [.int 0, .ref oa]) hC.1 (qX7_ofClaim l hfl A D cy g hL S e0 hV p0 p1) (cwV 2 hts gL_ofClaim_X7_ofClaim rfl rfl rfl (by decide +kernel) ⟨Nat.le_of_ble_eq_true rfl, Nat.le_of_ble_eq_true rfl⟩) ⟨CTh_blind, cr_recv (ci := 8) hC.2 hI 18 0 rfl rfl rfl, fun U hU hW => ⟨rfl, ⟨by rw [hU]; exact hM, va_K.moved hW.alike hK⟩, by rw [hU]; exact JT.warm hW hJ⟩⟩ rfl rfl hl.1 rfl (lv_room (Nat.le_of_ble_eq_true rfl)) dL_ofClaim_5 ⟨Nat.le_of_ble_eq_true rfl, Nat.le_of_ble_eq_true rfl⟩) hS (fun q _ h => Or.inl h) (fun q h => Or.inl h) (fun q _ h => Or.inl h) (fun E ce q9 u t H1 locs1 ht hvm hp hE hz1 hk1 hS1 hce hcv hcl => ?_) (fun r u t H1 locs1 ht hvm hp hB hz1 hk1 hS1 => ?_)
  · obtain ⟨hE, hM1⟩ := hE
    rw [ht] at hM1
    have hOut1 : at1 D oa (LA cy v0) H1 := hOut.kept (hk1 oa hOut.lt hoA)
    obtain ⟨hc7, hs7⟩ := c7_ofClaim S p0 p1
    have hS2 := hs7 hp
    rcases hc7 with h0 | h0
    · exact absurd h0 hp
    · have hE : E = "java/lang/IndexOutOfBoundsException" := hE.trans (by rw [h0]; rfl)
      subst hE
      refine vx_catch hown [] ⟨0, 10, 13, 13⟩ [] (by rw [hct]; rfl) (fun _ hz => absurd hz List.not_mem_nil) rfl (by decide) k_13 (va_Nw.use (jwl_tab _ (List.mem_of_getElem? (i := 0) rfl)) (hJ.2.2.2 _ (List.mem_of_getElem? (i := 0) rfl))) hce hcv hcl ?_
      refine lv_astore (lv' := [(4, .ref q9), (0, .ref (ga g 18 0)), (1, .int p0), (2, .int p1), (3, .ref oa)]) hx hb dL_ofClaim_13 hl (by decide) rfl (fun ls hl => ?_)
      refine lv_iconst (v := 1) hx hb dL_ofClaim_15 (by decide) ?_
      refine vx_ret ?_
      refine W.widen (k := 6) (n := 326) (Nat.le_of_ble_eq_true rfl) (Nat.le_of_ble_eq_true rfl) ?_
      exact W.iret (v := 1) hx hb hr (fun t9 ht9 hW9 => ⟨⟨1, g, rfl, ⟨by rw [h0]; rfl, hL, hV.1, by rw [hS2]; exact hV.2.1, rfl⟩, ⟨by rw [ht9, hS2]; exact hM1, v0, by rw [ht9]; exact hOut1, fun q => absurd q hp⟩⟩, hS1.F ht9⟩) hS1.2.2 dL_ofClaim_16
  · rw [ht] at hB
    have hOut1 : at1 D oa (LA cy v0) H1 := hOut.kept (hk1 oa hOut.lt hoA)
    obtain ⟨hp0, hr1⟩ := hp
    refine lv_i2l hx hb dL_ofClaim_8 rfl ?_
    refine lw_put (x := r.toInt64) hx hb hK hOut1 dL_ofClaim_9 (fun H2 j hO2 hz2 oq2 => ?_)
    have hS2 := S_put j hS1 hz2 oq2 (Or.inr rfl)
    refine lv_goto (tgt := 17) hx hb dL_ofClaim_10 (by decide) ?_
    refine lv_iconst (v := 0) hx hb dL_ofClaim_17 (by decide) ?_
    refine vx_ret ?_
    refine W.widen (k := 6) (n := 326) (Nat.le_of_ble_eq_true rfl) (Nat.le_of_ble_eq_true rfl) ?_
    exact W.iret (v := 0) hx hb hr (fun t9 ht9 hW9 => ⟨⟨0, g, rfl, ⟨by rw [hp0]; rfl, hL, hV.1, (k7_ofClaim S p0 p1).ct hV.2.1, rfl⟩, ⟨by rw [ht9]; exact hB.off hL hoA oq2, r.toInt64, by rw [ht9]; exact hO2, fun _ => by rw [hr1]⟩⟩, hS2.F ht9⟩) hS2.2.2 dL_ofClaim_18
set_option maxHeartbeats 4000000 in
set_option maxRecDepth 100000 in
theorem qL_got (l : Launch) (hfl : l.stackTraces = false) (A : Nat → Prop) (D : va_G) (cy : Nat → ClassId) (g : CWt) (hL : CL A g) (S : St) (e0 mi n0 oa : Nat) (hA : ∀ q, n0 ≤ q → A q) (hoA : ¬ A oa) (hV : CV e0 g S) (hZ : ZR S) (hPP : NPK S) (p0 p1 : Int32) : vx_Met l yL_got wsL_got ({ frames := 9, cells := 6, slots := 326, locals := 240 } : Room) (va_Pc [.ref (ga g 18 0), .int p0, .int p1, .ref oa] (LPw A D cy g S e0 mi n0 oa)) (va_Qi (fun (r : Int32) (g1 : CWt) => r = mp3 (fX7_got S p0 p1).2.1 ∧ LG A g e0 g1 (fX7_got S p0 p1).2.2) (fun g1 t => CH D cy g1 (fX7_got S p0 p1).2.2 t.heap ∧ ∃ v, at1 D oa (LA cy v) t.heap ∧ ((fX7_got S p0 p1).2.1 = 0 → v = ((fX7_got S p0 p1).1.toInt64))) (fun q => A q ∨ q = oa)) LF 6 326 (fun q => A q ∨ q = oa) := by
  refine vx_ofWH (cc := cL_got) (maxL := 5) (ret := (some .int)) (hh := [(0, 10, 13, 13)]) (by decide) rfl ?_
  intro p e s m args below meth c s₁ B hml hv
  obtain ⟨rfl, ⟨⟨⟨hM, hK⟩, hJ⟩, hX, hO, hn0⟩, hNc, v0, hOut⟩ := hv
  have hx := B.exec
  have hb := B.bytes
  have hr := B.returns
  have hts := atoms_spec (ws := wsL_got) B.pre
  have hown : s.vm.findClass RL = some m.cls := findClass_of_methodNamed B.named
  have hct := vx_table (p := p) (x := yL_got) B (hts (.codeWith yL_got cL_got 5 (some .int) [(0, 10, 13, 13)]) List.mem_cons_self)
  have hC : CC p s m _ c cL_got 5 RL D cy wsL_got := ⟨⟨hx, hb, hml, hown, hts⟩, hK⟩
  have hI : CI A D cy g s S s.heap [] := ⟨hM, va_S.rf⟩
  have hS : va_S (fun q => A q ∨ q = oa) s.heap s.heap [] := va_S.rf
  have k_13 := hts (.classLink RL 13 "java/lang/IndexOutOfBoundsException") (List.mem_cons_of_mem _ (List.mem_append_left _ (List.mem_append_left _ (List.mem_append_left _ (List.mem_of_getElem? (i := 0) rfl)))))
  have hl := lv_entry ([.ref (ga g 18 0), .int p0, .int p1, .ref oa]) (n := 5) (Nat.le_of_ble_eq_true rfl)
  rw [lg_entry_eq]
  generalize (lg_sl ([.ref (ga g 18 0), .int p0, .int p1, .ref oa]) ++ List.replicate (5 - (lg_sl ([.ref (ga g 18 0), .int p0, .int p1, .ref oa])).length) Slot.unset).toArray = ls at hl ⊢
  have hl : lv_has ls 5 [(0, .ref (ga g 18 0)), (1, .int p0), (2, .int p1), (3, .ref oa)] := hl
  refine lv_aload_n hx hb dL_got_0 rfl (lv_at hl 3 rfl) ?_
  refine lv_iconst (v := 0) hx hb dL_got_1 (by decide) ?_
  refine lv_aload_n hx hb dL_got_2 rfl (lv_at hl 0 rfl) ?_
  refine lv_iload_n hx hb dL_got_3 rfl (lv_at hl 1 rfl) ?_
  refine lv_iload_n hx hb dL_got_4 rfl (lv_at hl 2 rfl) ?_
  refine vx_calli (vx_runV (As := [.int p0, .int p1]) (rest := [.int 0, .ref oa]) hC.1 (qX7_got l hfl A D cy g hL S e0 hV p0 p1) (cwV 2 hts gL_got_X7_got rfl rfl rfl (by decide +kernel) ⟨Nat.le_of_ble_eq_true rfl, Nat.le_of_ble_eq_true rfl⟩) ⟨CTh_blind, cr_recv (ci := 8) hC.2 hI 18 0 rfl rfl rfl, fun U hU hW => ⟨rfl, ⟨by rw [hU]; exact hM, va_K.moved hW.alike hK⟩, by rw [hU]; exact JT.warm hW hJ⟩⟩ rfl rfl hl.1 rfl (lv_room (Nat.le_of_ble_eq_true rfl)) dL_got_5 ⟨Nat.le_of_ble_eq_true rfl, Nat.le_of_ble_eq_true rfl⟩) hS (fun q _ h => Or.inl h) (fun q h => Or.inl h) (fun q _ h => Or.inl h) (fun E ce q9 u t H1 locs1 ht hvm hp hE hz1 hk1 hS1 hce hcv hcl => ?_) (fun r u t H1 locs1 ht hvm hp hB hz1 hk1 hS1 => ?_)
  · obtain ⟨hE, hM1⟩ := hE
    rw [ht] at hM1
    have hOut1 : at1 D oa (LA cy v0) H1 := hOut.kept (hk1 oa hOut.lt hoA)
    obtain ⟨hc7, hs7⟩ := c7_got S p0 p1
    have hS2 := hs7 hp
    rcases hc7 with h0 | h0
    · exact absurd h0 hp
    · have hE : E = "java/lang/IndexOutOfBoundsException" := hE.trans (by rw [h0]; rfl)
      subst hE
      refine vx_catch hown [] ⟨0, 10, 13, 13⟩ [] (by rw [hct]; rfl) (fun _ hz => absurd hz List.not_mem_nil) rfl (by decide) k_13 (va_Nw.use (jwl_tab _ (List.mem_of_getElem? (i := 0) rfl)) (hJ.2.2.2 _ (List.mem_of_getElem? (i := 0) rfl))) hce hcv hcl ?_
      refine lv_astore (lv' := [(4, .ref q9), (0, .ref (ga g 18 0)), (1, .int p0), (2, .int p1), (3, .ref oa)]) hx hb dL_got_13 hl (by decide) rfl (fun ls hl => ?_)
      refine lv_iconst (v := 1) hx hb dL_got_15 (by decide) ?_
      refine vx_ret ?_
      refine W.widen (k := 6) (n := 326) (Nat.le_of_ble_eq_true rfl) (Nat.le_of_ble_eq_true rfl) ?_
      exact W.iret (v := 1) hx hb hr (fun t9 ht9 hW9 => ⟨⟨1, g, rfl, ⟨by rw [h0]; rfl, hL, hV.1, by rw [hS2]; exact hV.2.1, rfl⟩, ⟨by rw [ht9, hS2]; exact hM1, v0, by rw [ht9]; exact hOut1, fun q => absurd q hp⟩⟩, hS1.F ht9⟩) hS1.2.2 dL_got_16
  · rw [ht] at hB
    have hOut1 : at1 D oa (LA cy v0) H1 := hOut.kept (hk1 oa hOut.lt hoA)
    obtain ⟨hp0, hr1⟩ := hp
    refine lv_i2l hx hb dL_got_8 rfl ?_
    refine lw_put (x := r.toInt64) hx hb hK hOut1 dL_got_9 (fun H2 j hO2 hz2 oq2 => ?_)
    have hS2 := S_put j hS1 hz2 oq2 (Or.inr rfl)
    refine lv_goto (tgt := 17) hx hb dL_got_10 (by decide) ?_
    refine lv_iconst (v := 0) hx hb dL_got_17 (by decide) ?_
    refine vx_ret ?_
    refine W.widen (k := 6) (n := 326) (Nat.le_of_ble_eq_true rfl) (Nat.le_of_ble_eq_true rfl) ?_
    exact W.iret (v := 0) hx hb hr (fun t9 ht9 hW9 => ⟨⟨0, g, rfl, ⟨by rw [hp0]; rfl, hL, hV.1, (k7_got S p0 p1).ct hV.2.1, rfl⟩, ⟨by rw [ht9]; exact hB.off hL hoA oq2, r.toInt64, by rw [ht9]; exact hO2, fun _ => by rw [hr1]⟩⟩, hS2.F ht9⟩) hS2.2.2 dL_got_18
set_option maxHeartbeats 4000000 in
set_option maxRecDepth 100000 in
theorem qL_ofFirm (l : Launch) (hfl : l.stackTraces = false) (A : Nat → Prop) (D : va_G) (cy : Nat → ClassId) (g : CWt) (hL : CL A g) (S : St) (e0 mi n0 oa : Nat) (hA : ∀ q, n0 ≤ q → A q) (hoA : ¬ A oa) (hV : CV e0 g S) (hZ : ZR S) (hPP : NPK S) (p0 p1 : Int32) : vx_Met l yL_ofFirm wsL_ofFirm ({ frames := 9, cells := 6, slots := 326, locals := 240 } : Room) (va_Pc [.ref (ga g 18 0), .int p0, .int p1, .ref oa] (LPw A D cy g S e0 mi n0 oa)) (va_Qi (fun (r : Int32) (g1 : CWt) => r = mp3 (fX7_ofFirm S p0 p1).2.1 ∧ LG A g e0 g1 (fX7_ofFirm S p0 p1).2.2) (fun g1 t => CH D cy g1 (fX7_ofFirm S p0 p1).2.2 t.heap ∧ ∃ v, at1 D oa (LA cy v) t.heap ∧ ((fX7_ofFirm S p0 p1).2.1 = 0 → v = ((fX7_ofFirm S p0 p1).1.toInt64))) (fun q => A q ∨ q = oa)) LF 6 326 (fun q => A q ∨ q = oa) := by
  refine vx_ofWH (cc := cL_ofFirm) (maxL := 5) (ret := (some .int)) (hh := [(0, 10, 13, 13)]) (by decide) rfl ?_
  intro p e s m args below meth c s₁ B hml hv
  obtain ⟨rfl, ⟨⟨⟨hM, hK⟩, hJ⟩, hX, hO, hn0⟩, hNc, v0, hOut⟩ := hv
  have hx := B.exec
  have hb := B.bytes
  have hr := B.returns
  have hts := atoms_spec (ws := wsL_ofFirm) B.pre
  have hown : s.vm.findClass RL = some m.cls := findClass_of_methodNamed B.named
  have hct := vx_table (p := p) (x := yL_ofFirm) B (hts (.codeWith yL_ofFirm cL_ofFirm 5 (some .int) [(0, 10, 13, 13)]) List.mem_cons_self)
  have hC : CC p s m _ c cL_ofFirm 5 RL D cy wsL_ofFirm := ⟨⟨hx, hb, hml, hown, hts⟩, hK⟩
  have hI : CI A D cy g s S s.heap [] := ⟨hM, va_S.rf⟩
  have hS : va_S (fun q => A q ∨ q = oa) s.heap s.heap [] := va_S.rf
  have k_13 := hts (.classLink RL 13 "java/lang/IndexOutOfBoundsException") (List.mem_cons_of_mem _ (List.mem_append_left _ (List.mem_append_left _ (List.mem_append_left _ (List.mem_of_getElem? (i := 0) rfl)))))
  have hl := lv_entry ([.ref (ga g 18 0), .int p0, .int p1, .ref oa]) (n := 5) (Nat.le_of_ble_eq_true rfl)
  rw [lg_entry_eq]
  generalize (lg_sl ([.ref (ga g 18 0), .int p0, .int p1, .ref oa]) ++ List.replicate (5 - (lg_sl ([.ref (ga g 18 0), .int p0, .int p1, .ref oa])).length) Slot.unset).toArray = ls at hl ⊢
  have hl : lv_has ls 5 [(0, .ref (ga g 18 0)), (1, .int p0), (2, .int p1), (3, .ref oa)] := hl
  refine lv_aload_n hx hb dL_ofFirm_0 rfl (lv_at hl 3 rfl) ?_
  refine lv_iconst (v := 0) hx hb dL_ofFirm_1 (by decide) ?_
  refine lv_aload_n hx hb dL_ofFirm_2 rfl (lv_at hl 0 rfl) ?_
  refine lv_iload_n hx hb dL_ofFirm_3 rfl (lv_at hl 1 rfl) ?_
  refine lv_iload_n hx hb dL_ofFirm_4 rfl (lv_at hl 2 rfl) ?_
  refine vx_calli (vx_runV (As := [.int p0, .int p1]) (rest := [.int 0, .ref oa]) hC.1 (qX7_ofFirm l hfl A D cy g hL S e0 hV p0 p1) (cwV 2 hts gL_ofFirm_X7_ofFirm rfl rfl rfl (by decide +kernel) ⟨Nat.le_of_ble_eq_true rfl, Nat.le_of_ble_eq_true rfl⟩) ⟨CTh_blind, cr_recv (ci := 8) hC.2 hI 18 0 rfl rfl rfl, fun U hU hW => ⟨rfl, ⟨by rw [hU]; exact hM, va_K.moved hW.alike hK⟩, by rw [hU]; exact JT.warm hW hJ⟩⟩ rfl rfl hl.1 rfl (lv_room (Nat.le_of_ble_eq_true rfl)) dL_ofFirm_5 ⟨Nat.le_of_ble_eq_true rfl, Nat.le_of_ble_eq_true rfl⟩) hS (fun q _ h => Or.inl h) (fun q h => Or.inl h) (fun q _ h => Or.inl h) (fun E ce q9 u t H1 locs1 ht hvm hp hE hz1 hk1 hS1 hce hcv hcl => ?_) (fun r u t H1 locs1 ht hvm hp hB hz1 hk1 hS1 => ?_)
  · obtain ⟨hE, hM1⟩ := hE
    rw [ht] at hM1
    have hOut1 : at1 D oa (LA cy v0) H1 := hOut.kept (hk1 oa hOut.lt hoA)
    obtain ⟨hc7, hs7⟩ := c7_ofFirm S p0 p1
    have hS2 := hs7 hp
    rcases hc7 with h0 | h0
    · exact absurd h0 hp
    · have hE : E = "java/lang/IndexOutOfBoundsException" := hE.trans (by rw [h0]; rfl)
      subst hE
      refine vx_catch hown [] ⟨0, 10, 13, 13⟩ [] (by rw [hct]; rfl) (fun _ hz => absurd hz List.not_mem_nil) rfl (by decide) k_13 (va_Nw.use (jwl_tab _ (List.mem_of_getElem? (i := 0) rfl)) (hJ.2.2.2 _ (List.mem_of_getElem? (i := 0) rfl))) hce hcv hcl ?_
      refine lv_astore (lv' := [(4, .ref q9), (0, .ref (ga g 18 0)), (1, .int p0), (2, .int p1), (3, .ref oa)]) hx hb dL_ofFirm_13 hl (by decide) rfl (fun ls hl => ?_)
      refine lv_iconst (v := 1) hx hb dL_ofFirm_15 (by decide) ?_
      refine vx_ret ?_
      refine W.widen (k := 6) (n := 326) (Nat.le_of_ble_eq_true rfl) (Nat.le_of_ble_eq_true rfl) ?_
      exact W.iret (v := 1) hx hb hr (fun t9 ht9 hW9 => ⟨⟨1, g, rfl, ⟨by rw [h0]; rfl, hL, hV.1, by rw [hS2]; exact hV.2.1, rfl⟩, ⟨by rw [ht9, hS2]; exact hM1, v0, by rw [ht9]; exact hOut1, fun q => absurd q hp⟩⟩, hS1.F ht9⟩) hS1.2.2 dL_ofFirm_16
  · rw [ht] at hB
    have hOut1 : at1 D oa (LA cy v0) H1 := hOut.kept (hk1 oa hOut.lt hoA)
    obtain ⟨hp0, hr1⟩ := hp
    refine lv_i2l hx hb dL_ofFirm_8 rfl ?_
    refine lw_put (x := r.toInt64) hx hb hK hOut1 dL_ofFirm_9 (fun H2 j hO2 hz2 oq2 => ?_)
    have hS2 := S_put j hS1 hz2 oq2 (Or.inr rfl)
    refine lv_goto (tgt := 17) hx hb dL_ofFirm_10 (by decide) ?_
    refine lv_iconst (v := 0) hx hb dL_ofFirm_17 (by decide) ?_
    refine vx_ret ?_
    refine W.widen (k := 6) (n := 326) (Nat.le_of_ble_eq_true rfl) (Nat.le_of_ble_eq_true rfl) ?_
    exact W.iret (v := 0) hx hb hr (fun t9 ht9 hW9 => ⟨⟨0, g, rfl, ⟨by rw [hp0]; rfl, hL, hV.1, (k7_ofFirm S p0 p1).ct hV.2.1, rfl⟩, ⟨by rw [ht9]; exact hB.off hL hoA oq2, r.toInt64, by rw [ht9]; exact hO2, fun _ => by rw [hr1]⟩⟩, hS2.F ht9⟩) hS2.2.2 dL_ofFirm_18
set_option maxHeartbeats 4000000 in
set_option maxRecDepth 100000 in
theorem qL_all (l : Launch) (hfl : l.stackTraces = false) (A : Nat → Prop) (D : va_G) (cy : Nat → ClassId) (g : CWt) (hL : CL A g) (S : St) (e0 mi n0 oa : Nat) (hA : ∀ q, n0 ≤ q → A q) (hoA : ¬ A oa) (hV : CV e0 g S) (hZ : ZR S) (hPP : NPK S) (p0 : Int32) : vx_Met l yL_all wsL_all ({ frames := 9, cells := 6, slots := 326, locals := 240 } : Room) (va_Pc [.ref (ga g 18 0), .int p0, .ref oa] (LPw A D cy g S e0 mi n0 oa)) (va_Qi (fun (r : Int32) (g1 : CWt) => r = mp3 (fX7_all S p0).2.1 ∧ LG A g e0 g1 (fX7_all S p0).2.2) (fun g1 t => CH D cy g1 (fX7_all S p0).2.2 t.heap ∧ ∃ v, at1 D oa (LA cy v) t.heap ∧ ((fX7_all S p0).2.1 = 0 → v = ((fX7_all S p0).1.toInt64))) (fun q => A q ∨ q = oa)) LF 6 326 (fun q => A q ∨ q = oa) := by
  refine vx_ofWH (cc := cL_all) (maxL := 4) (ret := (some .int)) (hh := [(0, 9, 12, 13)]) (by decide) rfl ?_
  intro p e s m args below meth c s₁ B hml hv
  obtain ⟨rfl, ⟨⟨⟨hM, hK⟩, hJ⟩, hX, hO, hn0⟩, hNc, v0, hOut⟩ := hv
  have hx := B.exec
  have hb := B.bytes
  have hr := B.returns
  have hts := atoms_spec (ws := wsL_all) B.pre
  have hown : s.vm.findClass RL = some m.cls := findClass_of_methodNamed B.named
  have hct := vx_table (p := p) (x := yL_all) B (hts (.codeWith yL_all cL_all 4 (some .int) [(0, 9, 12, 13)]) List.mem_cons_self)
  have hC : CC p s m _ c cL_all 4 RL D cy wsL_all := ⟨⟨hx, hb, hml, hown, hts⟩, hK⟩
  have hI : CI A D cy g s S s.heap [] := ⟨hM, va_S.rf⟩
  have hS : va_S (fun q => A q ∨ q = oa) s.heap s.heap [] := va_S.rf
  have k_13 := hts (.classLink RL 13 "java/lang/IndexOutOfBoundsException") (List.mem_cons_of_mem _ (List.mem_append_left _ (List.mem_append_left _ (List.mem_append_left _ (List.mem_append_left _ (List.mem_append_left _ (List.mem_of_getElem? (i := 0) rfl)))))))
  have hl := lv_entry ([.ref (ga g 18 0), .int p0, .ref oa]) (n := 4) (Nat.le_of_ble_eq_true rfl)
  rw [lg_entry_eq]
  generalize (lg_sl ([.ref (ga g 18 0), .int p0, .ref oa]) ++ List.replicate (4 - (lg_sl ([.ref (ga g 18 0), .int p0, .ref oa])).length) Slot.unset).toArray = ls at hl ⊢
  have hl : lv_has ls 4 [(0, .ref (ga g 18 0)), (1, .int p0), (2, .ref oa)] := hl
  refine lv_aload_n hx hb dL_all_0 rfl (lv_at hl 2 rfl) ?_
  refine lv_iconst (v := 0) hx hb dL_all_1 (by decide) ?_
  refine lv_aload_n hx hb dL_all_2 rfl (lv_at hl 0 rfl) ?_
  refine lv_iload_n hx hb dL_all_3 rfl (lv_at hl 1 rfl) ?_
  refine vx_calli (vx_runV (As := [.int p0]) (rest := [.int 0, .ref oa]) hC.1 (qX7_all l hfl A D cy g hL S e0 hV p0) (cwV 1 hts gL_all_X7_all rfl rfl rfl (by decide +kernel) ⟨Nat.le_of_ble_eq_true rfl, Nat.le_of_ble_eq_true rfl⟩) ⟨CTh_blind, cr_recv (ci := 8) hC.2 hI 18 0 rfl rfl rfl, fun U hU hW => ⟨rfl, ⟨by rw [hU]; exact hM, va_K.moved hW.alike hK⟩, by rw [hU]; exact JT.warm hW hJ⟩⟩ rfl rfl hl.1 rfl (lv_room (Nat.le_of_ble_eq_true rfl)) dL_all_4 ⟨Nat.le_of_ble_eq_true rfl, Nat.le_of_ble_eq_true rfl⟩) hS (fun q _ h => Or.inl h) (fun q h => Or.inl h) (fun q _ h => Or.inl h) (fun E ce q9 u t H1 locs1 ht hvm hp hE hz1 hk1 hS1 hce hcv hcl => ?_) (fun r u t H1 locs1 ht hvm hp hB hz1 hk1 hS1 => ?_)
  · obtain ⟨hE, hM1⟩ := hE
    rw [ht] at hM1
    have hOut1 : at1 D oa (LA cy v0) H1 := hOut.kept (hk1 oa hOut.lt hoA)
    obtain ⟨hc7, hs7⟩ := c7_all S p0
    have hS2 := hs7 hp
    rcases hc7 with h0 | h0
    · exact absurd h0 hp
    · have hE : E = "java/lang/IndexOutOfBoundsException" := hE.trans (by rw [h0]; rfl)
      subst hE
      refine vx_catch hown [] ⟨0, 9, 12, 13⟩ [] (by rw [hct]; rfl) (fun _ hz => absurd hz List.not_mem_nil) rfl (by decide) k_13 (va_Nw.use (jwl_tab _ (List.mem_of_getElem? (i := 0) rfl)) (hJ.2.2.2 _ (List.mem_of_getElem? (i := 0) rfl))) hce hcv hcl ?_
      refine lv_astore_n (lv' := [(3, .ref q9), (0, .ref (ga g 18 0)), (1, .int p0), (2, .ref oa)]) hx hb dL_all_12 rfl hl (by decide) rfl (fun ls hl => ?_)
      refine lv_iconst (v := 1) hx hb dL_all_13 (by decide) ?_
      refine vx_ret ?_
      refine W.widen (k := 6) (n := 326) (Nat.le_of_ble_eq_true rfl) (Nat.le_of_ble_eq_true rfl) ?_
      exact W.iret (v := 1) hx hb hr (fun t9 ht9 hW9 => ⟨⟨1, g, rfl, ⟨by rw [h0]; rfl, hL, hV.1, by rw [hS2]; exact hV.2.1, rfl⟩, ⟨by rw [ht9, hS2]; exact hM1, v0, by rw [ht9]; exact hOut1, fun q => absurd q hp⟩⟩, hS1.F ht9⟩) hS1.2.2 dL_all_14
  · rw [ht] at hB
    have hOut1 : at1 D oa (LA cy v0) H1 := hOut.kept (hk1 oa hOut.lt hoA)
    obtain ⟨hp0, hr1⟩ := hp
    refine lv_i2l hx hb dL_all_7 rfl ?_
    refine lw_put (x := r.toInt64) hx hb hK hOut1 dL_all_8 (fun H2 j hO2 hz2 oq2 => ?_)
    have hS2 := S_put j hS1 hz2 oq2 (Or.inr rfl)
    refine lv_goto (tgt := 15) hx hb dL_all_9 (by decide) ?_
    refine lv_iconst (v := 0) hx hb dL_all_15 (by decide) ?_
    refine vx_ret ?_
    refine W.widen (k := 6) (n := 326) (Nat.le_of_ble_eq_true rfl) (Nat.le_of_ble_eq_true rfl) ?_
    exact W.iret (v := 0) hx hb hr (fun t9 ht9 hW9 => ⟨⟨0, g, rfl, ⟨by rw [hp0]; rfl, hL, hV.1, (k7_all S p0).ct hV.2.1, rfl⟩, ⟨by rw [ht9]; exact hB.off hL hoA oq2, r.toInt64, by rw [ht9]; exact hO2, fun _ => by rw [hr1]⟩⟩, hS2.F ht9⟩) hS2.2.2 dL_all_16
