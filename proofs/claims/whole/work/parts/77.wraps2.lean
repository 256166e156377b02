/-! the law's wrappers, walked -/
set_option maxHeartbeats 4000000 in
set_option maxRecDepth 100000 in
theorem qL_amend (l : Launch) (hfl : l.stackTraces = false) (A : Nat → Prop) (D : va_G) (cy : Nat → ClassId) (g : CWt) (hL : CL A g) (S : St) (e0 mi n0 oa : Nat) (hA : ∀ q, n0 ≤ q → A q) (hoA : ¬ A oa) (hV : CV e0 g S) (hZ : ZR S) (hPP : NPK S) (p0 p1 : Int32) : vx_Met l yL_amend wsL_amend ({ frames := 9, cells := 6, slots := 326, locals := 240 } : Room) (va_Pc [.ref (ga g 18 0), .int p0, .int p1, .ref oa] (LPw A D cy g S e0 mi n0 oa)) (va_Qi (fun (r : Int32) (g1 : CWt) => r = mp3 (fX7_amend S p0 p1).2.1 ∧ LG A g e0 g1 (fX7_amend S p0 p1).2.2) (fun g1 t => CH D cy g1 (fX7_amend S p0 p1).2.2 t.heap ∧ ∃ v, at1 D oa (LA cy v) t.heap ∧ ((fX7_amend S p0 p1).2.1 = 0 → v = ((fX7_amend S p0 p1).1.toInt64))) (fun q => A q ∨ q = oa)) LF 6 326 (fun q => A q ∨ q = oa) := by
  refine vx_ofWH (cc := cL_amend) (maxL := 5) (ret := (some .int)) (hh := [(0, 10, 13, 13), (0, 10, 17, 15), (0, 10, 21, 17)]) (by decide) rfl ?_
  intro p e s m args below meth c s₁ B hml hv
  obtain ⟨rfl, ⟨⟨⟨hM, hK⟩, hJ⟩, hX, hO, hn0⟩, hNc, v0, hOut⟩ := hv
  have hx := B.exec
  have hb := B.bytes
  have hr := B.returns
  have hts := atoms_spec (ws := wsL_amend) B.pre
  have hown : s.vm.findClass RL = some m.cls := findClass_of_methodNamed B.named
  have hct := vx_table (p := p) (x := yL_amend) B (hts (.codeWith yL_amend cL_amend 5 (some .int) [(0, 10, 13, 13), (0, 10, 17, 15), (0, 10, 21, 17)]) List.mem_cons_self)
  have hC : CC p s m _ c cL_amend 5 RL D cy wsL_amend := ⟨⟨hx, hb, hml, hown, hts⟩, hK⟩
  have hI : CI A D cy g s S s.heap [] := ⟨hM, va_S.rf⟩
  have hS : va_S (fun q => A q ∨ q = oa) s.heap s.heap [] := va_S.rf
  have k_13 := hts (.classLink RL 13 "java/lang/IndexOutOfBoundsException") (List.mem_cons_of_mem _ (List.mem_append_left _ (List.mem_append_left _ (List.mem_append_left _ (List.mem_append_left _ (List.mem_append_left _ (List.mem_append_left _ (List.mem_append_left _ (List.mem_append_left _ (List.mem_append_left _ (List.mem_of_getElem? (i := 0) rfl)))))))))))
  have k_15 := hts (.classLink RL 15 "java/lang/IllegalArgumentException") (List.mem_cons_of_mem _ (List.mem_append_left _ (List.mem_append_left _ (List.mem_append_left _ (List.mem_append_left _ (List.mem_append_left _ (List.mem_append_left _ (List.mem_append_left _ (List.mem_append_left _ (List.mem_append_left _ (List.mem_of_getElem? (i := 1) rfl)))))))))))
  have k_17 := hts (.classLink RL 17 "java/lang/IllegalStateException") (List.mem_cons_of_mem _ (List.mem_append_left _ (List.mem_append_left _ (List.mem_append_left _ (List.mem_append_left _ (List.mem_append_left _ (List.mem_append_left _ (List.mem_append_left _ (List.mem_append_left _ (List.mem_append_left _ (List.mem_of_getElem? (i := 2) rfl)))))))))))
  have hl := lv_entry ([.ref (ga g 18 0), .int p0, .int p1, .ref oa]) (n := 5) (Nat.le_of_ble_eq_true rfl)
  rw [lg_entry_eq]
  generalize (lg_sl ([.ref (ga g 18 0), .int p0, .int p1, .ref oa]) ++ List.replicate (5 - (lg_sl ([.ref (ga g 18 0), .int p0, .int p1, .ref oa])).length) Slot.unset).toArray = ls at hl ⊢
  have hl : lv_has ls 5 [(0, .ref (ga g 18 0)), (1, .int p0), (2, .int p1), (3, .ref oa)] := hl
  refine lv_aload_n hx hb dL_amend_0 rfl (lv_at hl 3 rfl) ?_
  refine lv_iconst (v := 0) hx hb dL_amend_1 (by decide) ?_
  refine lv_aload_n hx hb dL_amend_2 rfl (lv_at hl 0 rfl) ?_
  refine lv_iload_n hx hb dL_amend_3 rfl (lv_at hl 1 rfl) ?_
  refine lv_iload_n hx hb dL_amend_4 rfl (lv_at hl 2 rfl) ?_
  refine vx_calli (vx_runV (As := [.int p0, .int p1]) (rest := [.int 0, .ref oa]) hC.1 (qX7_amend l hfl A D cy g hL S e0 mi n0 hA hV hPP p0 p1) (cwV 2 hts gL_amend_X7_amend rfl rfl rfl (by decide +kernel) ⟨Nat.le_of_ble_eq_true rfl, Nat.le_of_ble_eq_true rfl⟩) ⟨LM_blind, cr_recv (ci := 8) hC.2 hI 18 0 rfl rfl rfl, fun U hU hW => ⟨rfl, ⟨⟨by rw [hU]; exact hM, va_K.moved hW.alike hK⟩, by rw [hU]; exact JT.warm hW hJ⟩, by rw [hU]; exact JX.moved hW.alike hX, JO.warm hW hO, by rw [hU]; exact hn0⟩⟩ rfl rfl hl.1 rfl (lv_room (Nat.le_of_ble_eq_true rfl)) dL_amend_5 ⟨Nat.le_of_ble_eq_true rfl, Nat.le_of_ble_eq_true rfl⟩) hS (fun q _ h => Or.inl h) (fun q h => Or.inl h) (fun q _ h => Or.inl h) (fun E ce q9 u t H1 locs1 ht hvm hp hE hz1 hk1 hS1 hce hcv hcl => ?_) (fun r u t H1 locs1 ht hvm hp hB hz1 hk1 hS1 => ?_)
  · obtain ⟨hE, hM1⟩ := hE
    rw [ht] at hM1
    have hOut1 : at1 D oa (LA cy v0) H1 := hOut.kept (hk1 oa hOut.lt hoA)
    obtain ⟨hc7, hs7⟩ := c7_amend S p0 p1
    have hS2 := hs7 hp
    rcases hc7 with h0 | h0 | h0 | h0
    · exact absurd h0 hp
    · have hE : E = "java/lang/IndexOutOfBoundsException" := hE.trans (by rw [h0]; rfl)
      subst hE
      refine vx_catch hown [] ⟨0, 10, 13, 13⟩ [⟨0, 10, 17, 15⟩, ⟨0, 10, 21, 17⟩] (by rw [hct]; rfl) (fun _ hz => absurd hz List.not_mem_nil) rfl (by decide) k_13 (va_Nw.use (jwl_tab _ (List.mem_of_getElem? (i := 0) rfl)) (hJ.2.2.2 _ (List.mem_of_getElem? (i := 0) rfl))) hce hcv hcl ?_
      refine lv_astore (lv' := [(4, .ref q9), (0, .ref (ga g 18 0)), (1, .int p0), (2, .int p1), (3, .ref oa)]) hx hb dL_amend_13 hl (by decide) rfl (fun ls hl => ?_)
      refine lv_iconst (v := 1) hx hb dL_amend_15 (by decide) ?_
      refine vx_ret ?_
      refine W.widen (k := 6) (n := 326) (Nat.le_of_ble_eq_true rfl) (Nat.le_of_ble_eq_true rfl) ?_
      exact W.iret (v := 1) hx hb hr (fun t9 ht9 hW9 => ⟨⟨1, g, rfl, ⟨by rw [h0]; rfl, hL, hV.1, by rw [hS2]; exact hV.2.1, rfl⟩, ⟨by rw [ht9, hS2]; exact hM1, v0, by rw [ht9]; exact hOut1, fun q => absurd q hp⟩⟩, hS1.F ht9⟩) hS1.2.2 dL_amend_16
    · have hE : E = "java/lang/IllegalArgumentException" := hE.trans (by rw [h0]; rfl)
      subst hE
      refine vx_catch hown [⟨0, 10, 13, 13⟩] ⟨0, 10, 17, 15⟩ [⟨0, 10, 21, 17⟩] (by rw [hct]; rfl) (List.forall_mem_cons.mpr ⟨Or.inr ⟨by decide, _, k_13, hNc.1⟩, fun _ hz => absurd hz List.not_mem_nil⟩) rfl (by decide) k_15 (va_Nw.use (jwl_tab _ (List.mem_of_getElem? (i := 1) rfl)) (hJ.2.2.2 _ (List.mem_of_getElem? (i := 1) rfl))) hce hcv hcl ?_
      refine lv_astore (lv' := [(4, .ref q9), (0, .ref (ga g 18 0)), (1, .int p0), (2, .int p1), (3, .ref oa)]) hx hb dL_amend_17 hl (by decide) rfl (fun ls hl => ?_)
      refine lv_iconst (v := 2) hx hb dL_amend_19 (by decide) ?_
      refine vx_ret ?_
      refine W.widen (k := 6) (n := 326) (Nat.le_of_ble_eq_true rfl) (Nat.le_of_ble_eq_true rfl) ?_
      exact W.iret (v := 2) hx hb hr (fun t9 ht9 hW9 => ⟨⟨2, g, rfl, ⟨by rw [h0]; rfl, hL, hV.1, by rw [hS2]; exact hV.2.1, rfl⟩, ⟨by rw [ht9, hS2]; exact hM1, v0, by rw [ht9]; exact hOut1, fun q => absurd q hp⟩⟩, hS1.F ht9⟩) hS1.2.2 dL_amend_20
    · have hE : E = "java/lang/IllegalStateException" := hE.trans (by rw [h0]; rfl)
      subst hE
      refine vx_catch hown [⟨0, 10, 13, 13⟩, ⟨0, 10, 17, 15⟩] ⟨0, 10, 21, 17⟩ [] (by rw [hct]; rfl) (List.forall_mem_cons.mpr ⟨Or.inr ⟨by decide, _, k_13, hNc.2.1⟩, List.forall_mem_cons.mpr ⟨Or.inr ⟨by decide, _, k_15, hNc.2.2⟩, fun _ hz => absurd hz List.not_mem_nil⟩⟩) rfl (by decide) k_17 (va_Nw.use (jwl_tab _ (List.mem_of_getElem? (i := 2) rfl)) (hJ.2.2.2 _ (List.mem_of_getElem? (i := 2) rfl))) hce hcv hcl ?_
      refine lv_astore (lv' := [(4, .ref q9), (0, .ref (ga g 18 0)), (1, .int p0), (2, .int p1), (3, .ref oa)]) hx hb dL_amend_21 hl (by decide) rfl (fun ls hl => ?_)
      refine lv_iconst (v := 3) hx hb dL_amend_23 (by decide) ?_
      refine vx_ret ?_
      refine W.widen (k := 6) (n := 326) (Nat.le_of_ble_eq_true rfl) (Nat.le_of_ble_eq_true rfl) ?_
      exact W.iret (v := 3) hx hb hr (fun t9 ht9 hW9 => ⟨⟨3, g, rfl, ⟨by rw [h0]; rfl, hL, hV.1, by rw [hS2]; exact hV.2.1, rfl⟩, ⟨by rw [ht9, hS2]; exact hM1, v0, by rw [ht9]; exact hOut1, fun q => absurd q hp⟩⟩, hS1.F ht9⟩) hS1.2.2 dL_amend_24
  · rw [ht] at hB
    have hOut1 : at1 D oa (LA cy v0) H1 := hOut.kept (hk1 oa hOut.lt hoA)
    obtain ⟨hp0, hr1, hL1, hG1, hT1, h18⟩ := hp
    refine lv_i2l hx hb dL_amend_8 rfl ?_
    refine lw_put (x := r.toInt64) hx hb hK hOut1 dL_amend_9 (fun H2 j hO2 hz2 oq2 => ?_)
    have hS2 := S_put j hS1 hz2 oq2 (Or.inr rfl)
    refine lv_goto (tgt := 25) hx hb dL_amend_10 (by decide) ?_
    refine lv_iconst (v := 0) hx hb dL_amend_25 (by decide) ?_
    refine vx_ret ?_
    refine W.widen (k := 6) (n := 326) (Nat.le_of_ble_eq_true rfl) (Nat.le_of_ble_eq_true rfl) ?_
    exact W.iret (v := 0) hx hb hr (fun t9 ht9 hW9 => ⟨⟨0, u, rfl, ⟨by rw [hp0]; rfl, hL1, hG1, hT1, h18⟩, ⟨by rw [ht9]; exact hB.off hL1 hoA oq2, r.toInt64, by rw [ht9]; exact hO2, fun _ => by rw [hr1]⟩⟩, hS2.F ht9⟩) hS2.2.2 dL_amend_26
set_option maxHeartbeats 4000000 in
set_option maxRecDepth 100000 in
theorem qL_extend (l : Launch) (hfl : l.stackTraces = false) (A : Nat → Prop) (D : va_G) (cy : Nat → ClassId) (g : CWt) (hL : CL A g) (S : St) (e0 mi n0 oa : Nat) (hA : ∀ q, n0 ≤ q → A q) (hoA : ¬ A oa) (hV : CV e0 g S) (hZ : ZR S) (hPP : NPK S) (p0 : Int32) : vx_Met l yL_extend wsL_extend ({ frames := 9, cells := 6, slots := 326, locals := 240 } : Room) (va_Pc [.ref (ga g 18 0), .int p0, .ref oa] (LPw A D cy g S e0 mi n0 oa)) (va_Qi (fun (r : Int32) (g1 : CWt) => r = mp13 (fX7_extend S p0).2.1 ∧ LG A g e0 g1 (fX7_extend S p0).2.2) (fun g1 t => CH D cy g1 (fX7_extend S p0).2.2 t.heap ∧ ∃ v, at1 D oa (LA cy v) t.heap ∧ ((fX7_extend S p0).2.1 = 0 → v = ((fX7_extend S p0).1.toInt64))) (fun q => A q ∨ q = oa)) LF 6 326 (fun q => A q ∨ q = oa) := by
  refine vx_ofWH (cc := cL_extend) (maxL := 4) (ret := (some .int)) (hh := [(0, 9, 12, 13), (0, 9, 15, 17)]) (by decide) rfl ?_
  intro p e s m args below meth c s₁ B hml hv
  obtain ⟨rfl, ⟨⟨⟨hM, hK⟩, hJ⟩, hX, hO, hn0⟩, hNc, v0, hOut⟩ := hv
  have hx := B.exec
  have hb := B.bytes
  have hr := B.returns
  have hts := atoms_spec (ws := wsL_extend) B.pre
  have hown : s.vm.findClass RL = some m.cls := findClass_of_methodNamed B.named
  have hct := vx_table (p := p) (x := yL_extend) B (hts (.codeWith yL_extend cL_extend 4 (some .int) [(0, 9, 12, 13), (0, 9, 15, 17)]) List.mem_cons_self)
  have hC : CC p s m _ c cL_extend 4 RL D cy wsL_extend := ⟨⟨hx, hb, hml, hown, hts⟩, hK⟩
  have hI : CI A D cy g s S s.heap [] := ⟨hM, va_S.rf⟩
  have hS : va_S (fun q => A q ∨ q = oa) s.heap s.heap [] := va_S.rf
  have k_13 := hts (.classLink RL 13 "java/lang/IndexOutOfBoundsException") (List.mem_cons_of_mem _ (List.mem_append_left _ (List.mem_append_left _ (List.mem_append_left _ (List.mem_append_left _ (List.mem_append_left _ (List.mem_append_left _ (List.mem_of_getElem? (i := 0) rfl))))))))
  have k_17 := hts (.classLink RL 17 "java/lang/IllegalStateException") (List.mem_cons_of_mem _ (List.mem_append_left _ (List.mem_append_left _ (List.mem_append_left _ (List.mem_append_left _ (List.mem_append_left _ (List.mem_append_left _ (List.mem_of_getElem? (i := 1) rfl))))))))
  have hl := lv_entry ([.ref (ga g 18 0), .int p0, .ref oa]) (n := 4) (Nat.le_of_ble_eq_true rfl)
  rw [lg_entry_eq]
  generalize (lg_sl ([.ref (ga g 18 0), .int p0, .ref oa]) ++ List.replicate (4 - (lg_sl ([.ref (ga g 18 0), .int p0, .ref oa])).length) Slot.unset).toArray = ls at hl ⊢
  have hl : lv_has ls 4 [(0, .ref (ga g 18 0)), (1, .int p0), (2, .ref oa)] := hl
  refine lv_aload_n hx hb dL_extend_0 rfl (lv_at hl 2 rfl) ?_
  refine lv_iconst (v := 0) hx hb dL_extend_1 (by decide) ?_
  refine lv_aload_n hx hb dL_extend_2 rfl (lv_at hl 0 rfl) ?_
  refine lv_iload_n hx hb dL_extend_3 rfl (lv_at hl 1 rfl) ?_
  refine vx_calli (vx_runV (As := [.int p0]) (rest := [.int 0, .ref oa]) hC.1 (qX7_extend l hfl A D cy g hL S e0 hV p0) (cwV 1 hts gL_extend_X7_extend rfl rfl rfl (by decide +kernel) ⟨Nat.le_of_ble_eq_true rfl, Nat.le_of_ble_eq_true rfl⟩) ⟨CTh_blind, cr_recv (ci := 8) hC.2 hI 18 0 rfl rfl rfl, fun U hU hW => ⟨rfl, ⟨by rw [hU]; exact hM, va_K.moved hW.alike hK⟩, by rw [hU]; exact JT.warm hW hJ⟩⟩ rfl rfl hl.1 rfl (lv_room (Nat.le_of_ble_eq_true rfl)) dL_extend_4 ⟨Nat.le_of_ble_eq_true rfl, Nat.le_of_ble_eq_true rfl⟩) hS (fun q _ h => Or.inl h) (fun q h => Or.inl h) (fun q _ h => Or.inl h) (fun E ce q9 u t H1 locs1 ht hvm hp hE hz1 hk1 hS1 hce hcv hcl => ?_) (fun r u t H1 locs1 ht hvm hp hB hz1 hk1 hS1 => ?_)
  · obtain ⟨hE, hM1⟩ := hE
    rw [ht] at hM1
    have hOut1 : at1 D oa (LA cy v0) H1 := hOut.kept (hk1 oa hOut.lt hoA)
    obtain ⟨hc7, hs7⟩ := c7_extend S p0
    have hS2 := hs7 hp
    rcases hc7 with h0 | h0 | h0
    · exact absurd h0 hp
    · have hE : E = "java/lang/IndexOutOfBoundsException" := hE.trans (by rw [h0]; rfl)
      subst hE
      refine vx_catch hown [] ⟨0, 9, 12, 13⟩ [⟨0, 9, 15, 17⟩] (by rw [hct]; rfl) (fun _ hz => absurd hz List.not_mem_nil) rfl (by decide) k_13 (va_Nw.use (jwl_tab _ (List.mem_of_getElem? (i := 0) rfl)) (hJ.2.2.2 _ (List.mem_of_getElem? (i := 0) rfl))) hce hcv hcl ?_
      refine lv_astore_n (lv' := [(3, .ref q9), (0, .ref (ga g 18 0)), (1, .int p0), (2, .ref oa)]) hx hb dL_extend_12 rfl hl (by decide) rfl (fun ls hl => ?_)
      refine lv_iconst (v := 1) hx hb dL_extend_13 (by decide) ?_
      refine vx_ret ?_
      refine W.widen (k := 6) (n := 326) (Nat.le_of_ble_eq_true rfl) (Nat.le_of_ble_eq_true rfl) ?_
      exact W.iret (v := 1) hx hb hr (fun t9 ht9 hW9 => ⟨⟨1, g, rfl, ⟨by rw [h0]; rfl, hL, hV.1, by rw [hS2]; exact hV.2.1, rfl⟩, ⟨by rw [ht9, hS2]; exact hM1, v0, by rw [ht9]; exact hOut1, fun q => absurd q hp⟩⟩, hS1.F ht9⟩) hS1.2.2 dL_extend_14
    · have hE : E = "java/lang/IllegalStateException" := hE.trans (by rw [h0]; rfl)
      subst hE
      refine vx_catch hown [⟨0, 9, 12, 13⟩] ⟨0, 9, 15, 17⟩ [] (by rw [hct]; rfl) (List.forall_mem_cons.mpr ⟨Or.inr ⟨by decide, _, k_13, hNc.2.1⟩, fun _ hz => absurd hz List.not_mem_nil⟩) rfl (by decide) k_17 (va_Nw.use (jwl_tab _ (List.mem_of_getElem? (i := 2) rfl)) (hJ.2.2.2 _ (List.mem_of_getElem? (i := 2) rfl))) hce hcv hcl ?_
      refine lv_astore_n (lv' := [(3, .ref q9), (0, .ref (ga g 18 0)), (1, .int p0), (2, .ref oa)]) hx hb dL_extend_15 rfl hl (by decide) rfl (fun ls hl => ?_)
      refine lv_iconst (v := 2) hx hb dL_extend_16 (by decide) ?_
      refine vx_ret ?_
      refine W.widen (k := 6) (n := 326) (Nat.le_of_ble_eq_true rfl) (Nat.le_of_ble_eq_true rfl) ?_
      exact W.iret (v := 2) hx hb hr (fun t9 ht9 hW9 => ⟨⟨2, g, rfl, ⟨by rw [h0]; rfl, hL, hV.1, by rw [hS2]; exact hV.2.1, rfl⟩, ⟨by rw [ht9, hS2]; exact hM1, v0, by rw [ht9]; exact hOut1, fun q => absurd q hp⟩⟩, hS1.F ht9⟩) hS1.2.2 dL_extend_17
  · rw [ht] at hB
    have hOut1 : at1 D oa (LA cy v0) H1 := hOut.kept (hk1 oa hOut.lt hoA)
    obtain ⟨hp0, hr1⟩ := hp
    refine lv_i2l hx hb dL_extend_7 rfl ?_
    refine lw_put (x := r.toInt64) hx hb hK hOut1 dL_extend_8 (fun H2 j hO2 hz2 oq2 => ?_)
    have hS2 := S_put j hS1 hz2 oq2 (Or.inr rfl)
    refine lv_goto (tgt := 18) hx hb dL_extend_9 (by decide) ?_
    refine lv_iconst (v := 0) hx hb dL_extend_18 (by decide) ?_
    refine vx_ret ?_
    refine W.widen (k := 6) (n := 326) (Nat.le_of_ble_eq_true rfl) (Nat.le_of_ble_eq_true rfl) ?_
    exact W.iret (v := 0) hx hb hr (fun t9 ht9 hW9 => ⟨⟨0, g, rfl, ⟨by rw [hp0]; rfl, hL, hV.1, (k7_extend S p0).ct hV.2.1, rfl⟩, ⟨by rw [ht9]; exact hB.off hL hoA oq2, r.toInt64, by rw [ht9]; exact hO2, fun _ => by rw [hr1]⟩⟩, hS2.F ht9⟩) hS2.2.2 dL_extend_19
set_option maxHeartbeats 4000000 in
set_option maxRecDepth 100000 in
theorem qL_choose (l : Launch) (hfl : l.stackTraces = false) (A : Nat → Prop) (D : va_G) (cy : Nat → ClassId) (g : CWt) (hL : CL A g) (S : St) (e0 mi n0 oa : Nat) (hA : ∀ q, n0 ≤ q → A q) (hoA : ¬ A oa) (hV : CV e0 g S) (hZ : ZR S) (hPP : NPK S) (p0 p1 : Int32) : vx_Met l yL_choose wsL_choose ({ frames := 9, cells := 6, slots := 326, locals := 240 } : Room) (va_Pc [.ref (ga g 18 0), .int p0, .int p1, .ref oa] (LPw A D cy g S e0 mi n0 oa)) (va_Qi (fun (r : Int32) (g1 : CWt) => r = mp3 (fX7_choose S p0 p1).2.1 ∧ LG A g e0 g1 (fX7_choose S p0 p1).2.2) (fun g1 t => CH D cy g1 (fX7_choose S p0 p1).2.2 t.heap ∧ ∃ v, at1 D oa (LA cy v) t.heap ∧ ((fX7_choose S p0 p1).2.1 = 0 → v = ((fX7_choose S p0 p1).1.toInt64))) (fun q => A q ∨ q = oa)) LF 6 326 (fun q => A q ∨ q = oa) := by
  refine vx_ofWH (cc := cL_choose) (maxL := 5) (ret := (some .int)) (hh := [(0, 10, 13, 13), (0, 10, 17, 15), (0, 10, 21, 17)]) (by decide) rfl ?_
  intro p e s m args below meth c s₁ B hml hv
  obtain ⟨rfl, ⟨⟨⟨hM, hK⟩, hJ⟩, hX, hO, hn0⟩, hNc, v0, hOut⟩ := hv
  have hx := B.exec
  have hb := B.bytes
  have hr := B.returns
  have hts := atoms_spec (ws := wsL_choose) B.pre
  have hown : s.vm.findClass RL = some m.cls := findClass_of_methodNamed B.named
  have hct := vx_table (p := p) (x := yL_choose) B (hts (.codeWith yL_choose cL_choose 5 (some .int) [(0, 10, 13, 13), (0, 10, 17, 15), (0, 10, 21, 17)]) List.mem_cons_self)
  have hC : CC p s m _ c cL_choose 5 RL D cy wsL_choose := ⟨⟨hx, hb, hml, hown, hts⟩, hK⟩
  have hI : CI A D cy g s S s.heap [] := ⟨hM, va_S.rf⟩
  have hS : va_S (fun q => A q ∨ q = oa) s.heap s.heap [] := va_S.rf
  have k_13 := hts (.classLink RL 13 "java/lang/IndexOutOfBoundsException") (List.mem_cons_of_mem _ (List.mem_append_left _ (List.mem_append_left _ (List.mem_append_left _ (List.mem_append_left _ (List.mem_append_left _ (List.mem_append_left _ (List.mem_append_left _ (List.mem_of_getElem? (i := 0) rfl)))))))))
  have k_15 := hts (.classLink RL 15 "java/lang/IllegalArgumentException") (List.mem_cons_of_mem _ (List.mem_append_left _ (List.mem_append_left _ (List.mem_append_left _ (List.mem_append_left _ (List.mem_append_left _ (List.mem_append_left _ (List.mem_append_left _ (List.mem_of_getElem? (i := 1) rfl)))))))))
  have k_17 := hts (.classLink RL 17 "java/lang/IllegalStateException") (List.mem_cons_of_mem _ (List.mem_append_left _ (List.mem_append_left _ (List.mem_append_left _ (List.mem_append_left _ (List.mem_append_left _ (List.mem_append_left _ (List.mem_append_left _ (List.mem_of_getElem? (i := 2) rfl)))))))))
  have hl := lv_entry ([.ref (ga g 18 0), .int p0, .int p1, .ref oa]) (n := 5) (Nat.le_of_ble_eq_true rfl)
  rw [lg_entry_eq]
  generalize (lg_sl ([.ref (ga g 18 0), .int p0, .int p1, .ref oa]) ++ List.replicate (5 - (lg_sl ([.ref (ga g 18 0), .int p0, .int p1, .ref oa])).length) Slot.unset).toArray = ls at hl ⊢
  have hl : lv_has ls 5 [(0, .ref (ga g 18 0)), (1, .int p0), (2, .int p1), (3, .ref oa)] := hl
  refine lv_aload_n hx hb dL_choose_0 rfl (lv_at hl 3 rfl) ?_
  refine lv_iconst (v := 0) hx hb dL_choose_1 (by decide) ?_
  refine lv_aload_n hx hb dL_choose_2 rfl (lv_at hl 0 rfl) ?_
  refine lv_iload_n hx hb dL_choose_3 rfl (lv_at hl 1 rfl) ?_
  refine lv_iload_n hx hb dL_choose_4 rfl (lv_at hl 2 rfl) ?_
  refine vx_calli (vx_runV (As := [.int p0, .int p1]) (rest := [.int 0, .ref oa]) hC.1 (qX7_choose l hfl A D cy g hL S e0 hV p0 p1) (cwV 2 hts gL_choose_X7_choose rfl rfl rfl (by decide +kernel) ⟨Nat.le_of_ble_eq_true rfl, Nat.le_of_ble_eq_true rfl⟩) ⟨CTh_blind, cr_recv (ci := 8) hC.2 hI 18 0 rfl rfl rfl, fun U hU hW => ⟨rfl, ⟨by rw [hU]; exact hM, va_K.moved hW.alike hK⟩, by rw [hU]; exact JT.warm hW hJ⟩⟩ rfl rfl hl.1 rfl (lv_room (Nat.le_of_ble_eq_true rfl)) dL_choose_5 ⟨Nat.le_of_ble_eq_true rfl, Nat.le_of_ble_eq_true rfl⟩) hS (fun q _ h => Or.inl h) (fun q h => Or.inl h) (fun q _ h => Or.inl h) (fun E ce q9 u t H1 locs1 ht hvm hp hE hz1 hk1 hS1 hce hcv hcl => ?_) (fun r u t H1 locs1 ht hvm hp hB hz1 hk1 hS1 => ?_)
  · obtain ⟨hE, hM1⟩ := hE
    rw [ht] at hM1
    have hOut1 : at1 D oa (LA cy v0) H1 := hOut.kept (hk1 oa hOut.lt hoA)
    obtain ⟨hc7, hs7⟩ := c7_choose S p0 p1
    have hS2 := hs7 hp
    rcases hc7 with h0 | h0 | h0 | h0
    · exact absurd h0 hp
    · have hE : E = "java/lang/IndexOutOfBoundsException" := hE.trans (by rw [h0]; rfl)
      subst hE
      refine vx_catch hown [] ⟨0, 10, 13, 13⟩ [⟨0, 10, 17, 15⟩, ⟨0, 10, 21, 17⟩] (by rw [hct]; rfl) (fun _ hz => absurd hz List.not_mem_nil) rfl (by decide) k_13 (va_Nw.use (jwl_tab _ (List.mem_of_getElem? (i := 0) rfl)) (hJ.2.2.2 _ (List.mem_of_getElem? (i := 0) rfl))) hce hcv hcl ?_
      refine lv_astore (lv' := [(4, .ref q9), (0, .ref (ga g 18 0)), (1, .int p0), (2, .int p1), (3, .ref oa)]) hx hb dL_choose_13 hl (by decide) rfl (fun ls hl => ?_)
      refine lv_iconst (v := 1) hx hb dL_choose_15 (by decide) ?_
      refine vx_ret ?_
      refine W.widen (k := 6) (n := 326) (Nat.le_of_ble_eq_true rfl) (Nat.le_of_ble_eq_true rfl) ?_
      exact W.iret (v := 1) hx hb hr (fun t9 ht9 hW9 => ⟨⟨1, g, rfl, ⟨by rw [h0]; rfl, hL, hV.1, by rw [hS2]; exact hV.2.1, rfl⟩, ⟨by rw [ht9, hS2]; exact hM1, v0, by rw [ht9]; exact hOut1, fun q => absurd q hp⟩⟩, hS1.F ht9⟩) hS1.2.2 dL_choose_16
    · have hE : E = "java/lang/IllegalArgumentException" := hE.trans (by rw [h0]; rfl)
      subst hE
      refine vx_catch hown [⟨0, 10, 13, 13⟩] ⟨0, 10, 17, 15⟩ [⟨0, 10, 21, 17⟩] (by rw [hct]; rfl) (List.forall_mem_cons.mpr ⟨Or.inr ⟨by decide, _, k_13, hNc.1⟩, fun _ hz => absurd hz List.not_mem_nil⟩) rfl (by decide) k_15 (va_Nw.use (jwl_tab _ (List.mem_of_getElem? (i := 1) rfl)) (hJ.2.2.2 _ (List.mem_of_getElem? (i := 1) rfl))) hce hcv hcl ?_
      refine lv_astore (lv' := [(4, .ref q9), (0, .ref (ga g 18 0)), (1, .int p0), (2, .int p1), (3, .ref oa)]) hx hb dL_choose_17 hl (by decide) rfl (fun ls hl => ?_)
      refine lv_iconst (v := 2) hx hb dL_choose_19 (by decide) ?_
      refine vx_ret ?_
      refine W.widen (k := 6) (n := 326) (Nat.le_of_ble_eq_true rfl) (Nat.le_of_ble_eq_true rfl) ?_
      exact W.iret (v := 2) hx hb hr (fun t9 ht9 hW9 => ⟨⟨2, g, rfl, ⟨by rw [h0]; rfl, hL, hV.1, by rw [hS2]; exact hV.2.1, rfl⟩, ⟨by rw [ht9, hS2]; exact hM1, v0, by rw [ht9]; exact hOut1, fun q => absurd q hp⟩⟩, hS1.F ht9⟩) hS1.2.2 dL_choose_20
    · have hE : E = "java/lang/IllegalStateException" := hE.trans (by rw [h0]; rfl)
      subst hE
      refine vx_catch hown [⟨0, 10, 13, 13⟩, ⟨0, 10, 17, 15⟩] ⟨0, 10, 21, 17⟩ [] (by rw [hct]; rfl) (List.forall_mem_cons.mpr ⟨Or.inr ⟨by decide, _, k_13, hNc.2.1⟩, List.forall_mem_cons.mpr ⟨Or.inr ⟨by decide, _, k_15, hNc.2.2⟩, fun _ hz => absurd hz List.not_mem_nil⟩⟩) rfl (by decide) k_17 (va_Nw.use (jwl_tab _ (List.mem_of_getElem? (i := 2) rfl)) (hJ.2.2.2 _ (List.mem_of_getElem? (i := 2) rfl))) hce hcv hcl ?_
      refine lv_astore (lv' := [(4, .ref q9), (0, .ref (ga g 18 0)), (1, .int p0), (2, .int p1), (3, .ref oa)]) hx hb dL_choose_21 hl (by decide) rfl (fun ls hl => ?_)
      refine lv_iconst (v := 3) hx hb dL_choose_23 (by decide) ?_
      refine vx_ret ?_
      refine W.widen (k := 6) (n := 326) (Nat.le_of_ble_eq_true rfl) (Nat.le_of_ble_eq_true rfl) ?_
      exact W.iret (v := 3) hx hb hr (fun t9 ht9 hW9 => ⟨⟨3, g, rfl, ⟨by rw [h0]; rfl, hL, hV.1, by rw [hS2]; exact hV.2.1, rfl⟩, ⟨by rw [ht9, hS2]; exact hM1, v0, by rw [ht9]; exact hOut1, fun q => absurd q hp⟩⟩, hS1.F ht9⟩) hS1.2.2 dL_choose_24
  · rw [ht] at hB
    have hOut1 : at1 D oa (LA cy v0) H1 := hOut.kept (hk1 oa hOut.lt hoA)
    obtain ⟨hp0, hr1⟩ := hp
    refine lv_i2l hx hb dL_choose_8 rfl ?_
    refine lw_put (x := r.toInt64) hx hb hK hOut1 dL_choose_9 (fun H2 j hO2 hz2 oq2 => ?_)
    have hS2 := S_put j hS1 hz2 oq2 (Or.inr rfl)
    refine lv_goto (tgt := 25) hx hb dL_choose_10 (by decide) ?_
    refine lv_iconst (v := 0) hx hb dL_choose_25 (by decide) ?_
    refine vx_ret ?_
    refine W.widen (k := 6) (n := 326) (Nat.le_of_ble_eq_true rfl) (Nat.le_of_ble_eq_true rfl) ?_
    exact W.iret (v := 0) hx hb hr (fun t9 ht9 hW9 => ⟨⟨0, g, rfl, ⟨by rw [hp0]; rfl, hL, hV.1, (k7_choose S p0 p1).ct hV.2.1, rfl⟩, ⟨by rw [ht9]; exact hB.off hL hoA oq2, r.toInt64, by rw [ht9]; exact hO2, fun _ => by rw [hr1]⟩⟩, hS2.F ht9⟩) hS2.2.2 dL_choose_26
set_option maxHeartbeats 4000000 in
set_option maxRecDepth 100000 in
theorem qL_help (l : Launch) (hfl : l.stackTraces = false) (A : Nat → Prop) (D : va_G) (cy : Nat → ClassId) (g : CWt) (hL : CL A g) (S : St) (e0 mi n0 oa : Nat) (hA : ∀ q, n0 ≤ q → A q) (hoA : ¬ A oa) (hV : CV e0 g S) (hZ : ZR S) (hPP : NPK S) (p0 p1 : Int32) : vx_Met l yL_help wsL_help ({ frames := 9, cells := 6, slots := 326, locals := 240 } : Room) (va_Pc [.ref (ga g 18 0), .int p0, .int p1, .ref oa] (LPw A D cy g S e0 mi n0 oa)) (va_Qi (fun (r : Int32) (g1 : CWt) => r = mp3 (fX7_help S p0 p1).2.1 ∧ LG A g e0 g1 (fX7_help S p0 p1).2.2) (fun g1 t => CH D cy g1 (fX7_help S p0 p1).2.2 t.heap ∧ ∃ v, at1 D oa (LA cy v) t.heap ∧ ((fX7_help S p0 p1).2.1 = 0 → v = ((fX7_help S p0 p1).1.toInt64))) (fun q => A q ∨ q = oa)) LF 6 326 (fun q => A q ∨ q = oa) := by
  refine vx_ofWH (cc := cL_help) (maxL := 5) (ret := (some .int)) (hh := [(0, 10, 13, 13), (0, 10, 17, 15), (0, 10, 21, 17)]) (by decide) rfl ?_
  intro p e s m args below meth c s₁ B hml hv
  obtain ⟨rfl, ⟨⟨⟨hM, hK⟩, hJ⟩, hX, hO, hn0⟩, hNc, v0, hOut⟩ := hv
  have hx := B.exec
  have hb := B.bytes
  have hr := B.returns
  have hts := atoms_spec (ws := wsL_help) B.pre
  have hown : s.vm.findClass RL = some m.cls := findClass_of_methodNamed B.named
  have hct := vx_table (p := p) (x := yL_help) B (hts (.codeWith yL_help cL_help 5 (some .int) [(0, 10, 13, 13), (0, 10, 17, 15), (0, 10, 21, 17)]) List.mem_cons_self)
  have hC : CC p s m _ c cL_help 5 RL D cy wsL_help := ⟨⟨hx, hb, hml, hown, hts⟩, hK⟩
  have hI : CI A D cy g s S s.heap [] := ⟨hM, va_S.rf⟩
  have hS : va_S (fun q => A q ∨ q = oa) s.heap s.heap [] := va_S.rf
  have k_13 := hts (.classLink RL 13 "java/lang/IndexOutOfBoundsException") (List.mem_cons_of_mem _ (List.mem_append_left _ (List.mem_append_left _ (List.mem_append_left _ (List.mem_append_left _ (List.mem_append_left _ (List.mem_append_left _ (List.mem_append_left _ (List.mem_of_getElem? (i := 0) rfl)))))))))
  have k_15 := hts (.classLink RL 15 "java/lang/IllegalArgumentException") (List.mem_cons_of_mem _ (List.mem_append_left _ (List.mem_append_left _ (List.mem_append_left _ (List.mem_append_left _ (List.mem_append_left _ (List.mem_append_left _ (List.mem_append_left _ (List.mem_of_getElem? (i := 1) rfl)))))))))
  have k_17 := hts (.classLink RL 17 "java/lang/IllegalStateException") (List.mem_cons_of_mem _ (List.mem_append_left _ (List.mem_append_left _ (List.mem_append_left _ (List.mem_append_left _ (List.mem_append_left _ (List.mem_append_left _ (List.mem_append_left _ (List.mem_of_getElem? (i := 2) rfl)))))))))
  have hl := lv_entry ([.ref (ga g 18 0), .int p0, .int p1, .ref oa]) (n := 5) (Nat.le_of_ble_eq_true rfl)
  rw [lg_entry_eq]
  generalize (lg_sl ([.ref (ga g 18 0), .int p0, .int p1, .ref oa]) ++ List.replicate (5 - (lg_sl ([.ref (ga g 18 0), .int p0, .int p1, .ref oa])).length) Slot.unset).toArray = ls at hl ⊢
  have hl : lv_has ls 5 [(0, .ref (ga g 18 0)), (1, .int p0), (2, .int p1), (3, .ref oa)] := hl
  refine lv_aload_n hx hb dL_help_0 rfl (lv_at hl 3 rfl) ?_
  refine lv_iconst (v := 0) hx hb dL_help_1 (by decide) ?_
  refine lv_aload_n hx hb dL_help_2 rfl (lv_at hl 0 rfl) ?_
  refine lv_iload_n hx hb dL_help_3 rfl (lv_at hl 1 rfl) ?_
  refine lv_iload_n hx hb dL_help_4 rfl (lv_at hl 2 rfl) ?_
  refine vx_calli (vx_runV (As := [.int p0, .int p1]) (rest := [.int 0, .ref oa]) hC.1 (qX7_help l hfl A D cy g hL S e0 hV p0 p1) (cwV 2 hts gL_help_X7_help rfl rfl rfl (by decide +kernel) ⟨Nat.le_of_ble_eq_true rfl, Nat.le_of_ble_eq_true rfl⟩) ⟨CTh_blind, cr_recv (ci := 8) hC.2 hI 18 0 rfl rfl rfl, fun U hU hW => ⟨rfl, ⟨by rw [hU]; exact hM, va_K.moved hW.alike hK⟩, by rw [hU]; exact JT.warm hW hJ⟩⟩ rfl rfl hl.1 rfl (lv_room (Nat.le_of_ble_eq_true rfl)) dL_help_5 ⟨Nat.le_of_ble_eq_true rfl, Nat.le_of_ble_eq_true rfl⟩) hS (fun q _ h => Or.inl h) (fun q h => Or.inl h) (fun q _ h => Or.inl h) (fun E ce q9 u t H1 locs1 ht hvm hp hE hz1 hk1 hS1 hce hcv hcl => ?_) (fun r u t H1 locs1 ht hvm hp hB hz1 hk1 hS1 => ?_)
  · obtain ⟨hE, hM1⟩ := hE
    rw [ht] at hM1
    have hOut1 : at1 D oa (LA cy v0) H1 := hOut.kept (hk1 oa hOut.lt hoA)
    obtain ⟨hc7, hs7⟩ := c7_help S p0 p1
    have hS2 := hs7 hp
    rcases hc7 with h0 | h0 | h0 | h0
    · exact absurd h0 hp
    · have hE : E = "java/lang/IndexOutOfBoundsException" := hE.trans (by rw [h0]; rfl)
      subst hE
      refine vx_catch hown [] ⟨0, 10, 13, 13⟩ [⟨0, 10, 17, 15⟩, ⟨0, 10, 21, 17⟩] (by rw [hct]; rfl) (fun _ hz => absurd hz List.not_mem_nil) rfl (by decide) k_13 (va_Nw.use (jwl_tab _ (List.mem_of_getElem? (i := 0) rfl)) (hJ.2.2.2 _ (List.mem_of_getElem? (i := 0) rfl))) hce hcv hcl ?_
      refine lv_astore (lv' := [(4, .ref q9), (0, .ref (ga g 18 0)), (1, .int p0), (2, .int p1), (3, .ref oa)]) hx hb dL_help_13 hl (by decide) rfl (fun ls hl => ?_)
      refine lv_iconst (v := 1) hx hb dL_help_15 (by decide) ?_
      refine vx_ret ?_
      refine W.widen (k := 6) (n := 326) (Nat.le_of_ble_eq_true rfl) (Nat.le_of_ble_eq_true rfl) ?_
      exact W.iret (v := 1) hx hb hr (fun t9 ht9 hW9 => ⟨⟨1, g, rfl, ⟨by rw [h0]; rfl, hL, hV.1, by rw [hS2]; exact hV.2.1, rfl⟩, ⟨by rw [ht9, hS2]; exact hM1, v0, by rw [ht9]; exact hOut1, fun q => absurd q hp⟩⟩, hS1.F ht9⟩) hS1.2.2 dL_help_16
    · have hE : E = "java/lang/IllegalArgumentException" := hE.trans (by rw [h0]; rfl)
      subst hE
      refine vx_catch hown [⟨0, 10, 13, 13⟩] ⟨0, 10, 17, 15⟩ [⟨0, 10, 21, 17⟩] (by rw [hct]; rfl) (List.forall_mem_cons.mpr ⟨Or.inr ⟨by decide, _, k_13, hNc.1⟩, fun _ hz => absurd hz List.not_mem_nil⟩) rfl (by decide) k_15 (va_Nw.use (jwl_tab _ (List.mem_of_getElem? (i := 1) rfl)) (hJ.2.2.2 _ (List.mem_of_getElem? (i := 1) rfl))) hce hcv hcl ?_
      refine lv_astore (lv' := [(4, .ref q9), (0, .ref (ga g 18 0)), (1, .int p0), (2, .int p1), (3, .ref oa)]) hx hb dL_help_17 hl (by decide) rfl (fun ls hl => ?_)
      refine lv_iconst (v := 2) hx hb dL_help_19 (by decide) ?_
      refine vx_ret ?_
      refine W.widen (k := 6) (n := 326) (Nat.le_of_ble_eq_true rfl) (Nat.le_of_ble_eq_true rfl) ?_
      exact W.iret (v := 2) hx hb hr (fun t9 ht9 hW9 => ⟨⟨2, g, rfl, ⟨by rw [h0]; rfl, hL, hV.1, by rw [hS2]; exact hV.2.1, rfl⟩, ⟨by rw [ht9, hS2]; exact hM1, v0, by rw [ht9]; exact hOut1, fun q => absurd q hp⟩⟩, hS1.F ht9⟩) hS1.2.2 dL_help_20
    · have hE : E = "java/lang/IllegalStateException" := hE.trans (by rw [h0]; rfl)
      subst hE
      refine vx_catch hown [⟨0, 10, 13, 13⟩, ⟨0, 10, 17, 15⟩] ⟨0, 10, 21, 17⟩ [] (by rw [hct]; rfl) (List.forall_mem_cons.mpr ⟨Or.inr ⟨by decide, _, k_13, hNc.2.1⟩, List.forall_mem_cons.mpr ⟨Or.inr ⟨by decide, _, k_15, hNc.2.2⟩, fun _ hz => absurd hz List.not_mem_nil⟩⟩) rfl (by decide) k_17 (va_Nw.use (jwl_tab _ (List.mem_of_getElem? (i := 2) rfl)) (hJ.2.2.2 _ (List.mem_of_getElem? (i := 2) rfl))) hce hcv hcl ?_
      refine lv_astore (lv' := [(4, .ref q9), (0, .ref (ga g 18 0)), (1, .int p0), (2, .int p1), (3, .ref oa)]) hx hb dL_help_21 hl (by decide) rfl (fun ls hl => ?_)
      refine lv_iconst (v := 3) hx hb dL_help_23 (by decide) ?_
      refine vx_ret ?_
      refine W.widen (k := 6) (n := 326) (Nat.le_of_ble_eq_true rfl) (Nat.le_of_ble_eq_true rfl) ?_
      exact W.iret (v := 3) hx hb hr (fun t9 ht9 hW9 => ⟨⟨3, g, rfl, ⟨by rw [h0]; rfl, hL, hV.1, by rw [hS2]; exact hV.2.1, rfl⟩, ⟨by rw [ht9, hS2]; exact hM1, v0, by rw [ht9]; exact hOut1, fun q => absurd q hp⟩⟩, hS1.F ht9⟩) hS1.2.2 dL_help_24
  · rw [ht] at hB
    have hOut1 : at1 D oa (LA cy v0) H1 := hOut.kept (hk1 oa hOut.lt hoA)
    obtain ⟨hp0, hr1⟩ := hp
    refine lv_i2l hx hb dL_help_8 rfl ?_
    refine lw_put (x := r.toInt64) hx hb hK hOut1 dL_help_9 (fun H2 j hO2 hz2 oq2 => ?_)
    have hS2 := S_put j hS1 hz2 oq2 (Or.inr rfl)
    refine lv_goto (tgt := 25) hx hb dL_help_10 (by decide) ?_
    refine lv_iconst (v := 0) hx hb dL_help_25 (by decide) ?_
    refine vx_ret ?_
    refine W.widen (k := 6) (n := 326) (Nat.le_of_ble_eq_true rfl) (Nat.le_of_ble_eq_true rfl) ?_
    exact W.iret (v := 0) hx hb hr (fun t9 ht9 hW9 => ⟨⟨0, g, rfl, ⟨by rw [hp0]; rfl, hL, hV.1, (k7_help S p0 p1).ct hV.2.1, rfl⟩, ⟨by rw [ht9]; exact hB.off hL hoA oq2, r.toInt64, by rw [ht9]; exact hO2, fun _ => by rw [hr1]⟩⟩, hS2.F ht9⟩) hS2.2.2 dL_help_26
set_option maxHeartbeats 4000000 in
set_option maxRecDepth 100000 in
theorem qL_judge (l : Launch) (hfl : l.stackTraces = false) (A : Nat → Prop) (D : va_G) (cy : Nat → ClassId) (g : CWt) (hL : CL A g) (S : St) (e0 mi n0 oa : Nat) (hA : ∀ q, n0 ≤ q → A q) (hoA : ¬ A oa) (hV : CV e0 g S) (hZ : ZR S) (hPP : NPK S) (p0 : Int32) : vx_Met l yL_judge wsL_judge ({ frames := 9, cells := 6, slots := 326, locals := 240 } : Room) (va_Pc [.ref (ga g 18 0), .int p0, .ref oa] (LPw A D cy g S e0 mi n0 oa)) (va_Qi (fun (r : Int32) (g1 : CWt) => r = mp13 (fX7_judge S p0).2.1 ∧ LG A g e0 g1 (fX7_judge S p0).2.2) (fun g1 t => CH D cy g1 (fX7_judge S p0).2.2 t.heap ∧ ∃ v, at1 D oa (LA cy v) t.heap ∧ ((fX7_judge S p0).2.1 = 0 → v = ((fX7_judge S p0).1.toInt64))) (fun q => A q ∨ q = oa)) LF 6 326 (fun q => A q ∨ q = oa) := by
  refine vx_ofWH (cc := cL_judge) (maxL := 4) (ret := (some .int)) (hh := [(0, 9, 12, 13), (0, 9, 15, 17)]) (by decide) rfl ?_
  intro p e s m args below meth c s₁ B hml hv
  obtain ⟨rfl, ⟨⟨⟨hM, hK⟩, hJ⟩, hX, hO, hn0⟩, hNc, v0, hOut⟩ := hv
  have hx := B.exec
  have hb := B.bytes
  have hr := B.returns
  have hts := atoms_spec (ws := wsL_judge) B.pre
  have hown : s.vm.findClass RL = some m.cls := findClass_of_methodNamed B.named
  have hct := vx_table (p := p) (x := yL_judge) B (hts (.codeWith yL_judge cL_judge 4 (some .int) [(0, 9, 12, 13), (0, 9, 15, 17)]) List.mem_cons_self)
  have hC : CC p s m _ c cL_judge 4 RL D cy wsL_judge := ⟨⟨hx, hb, hml, hown, hts⟩, hK⟩
  have hI : CI A D cy g s S s.heap [] := ⟨hM, va_S.rf⟩
  have hS : va_S (fun q => A q ∨ q = oa) s.heap s.heap [] := va_S.rf
  have k_13 := hts (.classLink RL 13 "java/lang/IndexOutOfBoundsException") (List.mem_cons_of_mem _ (List.mem_append_left _ (List.mem_append_left _ (List.mem_append_left _ (List.mem_append_left _ (List.mem_append_left _ (List.mem_append_left _ (List.mem_append_left _ (List.mem_append_left _ (List.mem_append_left _ (List.mem_append_left _ (List.mem_append_left _ (List.mem_append_left _ (List.mem_of_getElem? (i := 0) rfl))))))))))))))
  have k_17 := hts (.classLink RL 17 "java/lang/IllegalStateException") (List.mem_cons_of_mem _ (List.mem_append_left _ (List.mem_append_left _ (List.mem_append_left _ (List.mem_append_left _ (List.mem_append_left _ (List.mem_append_left _ (List.mem_append_left _ (List.mem_append_left _ (List.mem_append_left _ (List.mem_append_left _ (List.mem_append_left _ (List.mem_append_left _ (List.mem_of_getElem? (i := 1) rfl))))))))))))))
  have hl := lv_entry ([.ref (ga g 18 0), .int p0, .ref oa]) (n := 4) (Nat.le_of_ble_eq_true rfl)
  rw [lg_entry_eq]
  generalize (lg_sl ([.ref (ga g 18 0), .int p0, .ref oa]) ++ List.replicate (4 - (lg_sl ([.ref (ga g 18 0), .int p0, .ref oa])).length) Slot.unset).toArray = ls at hl ⊢
  have hl : lv_has ls 4 [(0, .ref (ga g 18 0)), (1, .int p0), (2, .ref oa)] := hl
  refine lv_aload_n hx hb dL_judge_0 rfl (lv_at hl 2 rfl) ?_
  refine lv_iconst (v := 0) hx hb dL_judge_1 (by decide) ?_
  refine lv_aload_n hx hb dL_judge_2 rfl (lv_at hl 0 rfl) ?_
  refine lv_iload_n hx hb dL_judge_3 rfl (lv_at hl 1 rfl) ?_
  refine vx_calli (vx_runV (As := [.int p0]) (rest := [.int 0, .ref oa]) hC.1 (qX7_judge l hfl A D cy g hL S e0 hV p0) (cwV 1 hts gL_judge_X7_judge rfl rfl rfl (by decide +kernel) ⟨Nat.le_of_ble_eq_true rfl, Nat.le_of_ble_eq_true rfl⟩) ⟨CTh_blind, cr_recv (ci := 8) hC.2 hI 18 0 rfl rfl rfl, fun U hU hW => ⟨rfl, ⟨by rw [hU]; exact hM, va_K.moved hW.alike hK⟩, by rw [hU]; exact JT.warm hW hJ⟩⟩ rfl rfl hl.1 rfl (lv_room (Nat.le_of_ble_eq_true rfl)) dL_judge_4 ⟨Nat.le_of_ble_eq_true rfl, Nat.le_of_ble_eq_true rfl⟩) hS (fun q _ h => Or.inl h) (fun q h => Or.inl h) (fun q _ h => Or.inl h) (fun E ce q9 u t H1 locs1 ht hvm hp hE hz1 hk1 hS1 hce hcv hcl => ?_) (fun r u t H1 locs1 ht hvm hp hB hz1 hk1 hS1 => ?_)
  · obtain ⟨hE, hM1⟩ := hE
    rw [ht] at hM1
    have hOut1 : at1 D oa (LA cy v0) H1 := hOut.kept (hk1 oa hOut.lt hoA)
    obtain ⟨hc7, hs7⟩ := c7_judge S p0
    have hS2 := hs7 hp
    rcases hc7 with h0 | h0 | h0
    · exact absurd h0 hp
    · have hE : E = "java/lang/IndexOutOfBoundsException" := hE.trans (by rw [h0]; rfl)
      subst hE
      refine vx_catch hown [] ⟨0, 9, 12, 13⟩ [⟨0, 9, 15, 17⟩] (by rw [hct]; rfl) (fun _ hz => absurd hz List.not_mem_nil) rfl (by decide) k_13 (va_Nw.use (jwl_tab _ (List.mem_of_getElem? (i := 0) rfl)) (hJ.2.2.2 _ (List.mem_of_getElem? (i := 0) rfl))) hce hcv hcl ?_
      refine lv_astore_n (lv' := [(3, .ref q9), (0, .ref (ga g 18 0)), (1, .int p0), (2, .ref oa)]) hx hb dL_judge_12 rfl hl (by decide) rfl (fun ls hl => ?_)
      refine lv_iconst (v := 1) hx hb dL_judge_13 (by decide) ?_
      refine vx_ret ?_
      refine W.widen (k := 6) (n := 326) (Nat.le_of_ble_eq_true rfl) (Nat.le_of_ble_eq_true rfl) ?_
      exact W.iret (v := 1) hx hb hr (fun t9 ht9 hW9 => ⟨⟨1, g, rfl, ⟨by rw [h0]; rfl, hL, hV.1, by rw [hS2]; exact hV.2.1, rfl⟩, ⟨by rw [ht9, hS2]; exact hM1, v0, by rw [ht9]; exact hOut1, fun q => absurd q hp⟩⟩, hS1.F ht9⟩) hS1.2.2 dL_judge_14
    · have hE : E = "java/lang/IllegalStateException" := hE.trans (by rw [h0]; rfl)
      subst hE
      refine vx_catch hown [⟨0, 9, 12, 13⟩] ⟨0, 9, 15, 17⟩ [] (by rw [hct]; rfl) (List.forall_mem_cons.mpr ⟨Or.inr ⟨by decide, _, k_13, hNc.2.1⟩, fun _ hz => absurd hz List.not_mem_nil⟩) rfl (by decide) k_17 (va_Nw.use (jwl_tab _ (List.mem_of_getElem? (i := 2) rfl)) (hJ.2.2.2 _ (List.mem_of_getElem? (i := 2) rfl))) hce hcv hcl ?_
      refine lv_astore_n (lv' := [(3, .ref q9), (0, .ref (ga g 18 0)), (1, .int p0), (2, .ref oa)]) hx hb dL_judge_15 rfl hl (by decide) rfl (fun ls hl => ?_)
      refine lv_iconst (v := 2) hx hb dL_judge_16 (by decide) ?_
      refine vx_ret ?_
      refine W.widen (k := 6) (n := 326) (Nat.le_of_ble_eq_true rfl) (Nat.le_of_ble_eq_true rfl) ?_
      exact W.iret (v := 2) hx hb hr (fun t9 ht9 hW9 => ⟨⟨2, g, rfl, ⟨by rw [h0]; rfl, hL, hV.1, by rw [hS2]; exact hV.2.1, rfl⟩, ⟨by rw [ht9, hS2]; exact hM1, v0, by rw [ht9]; exact hOut1, fun q => absurd q hp⟩⟩, hS1.F ht9⟩) hS1.2.2 dL_judge_17
  · rw [ht] at hB
    have hOut1 : at1 D oa (LA cy v0) H1 := hOut.kept (hk1 oa hOut.lt hoA)
    obtain ⟨hp0, hr1⟩ := hp
    refine lv_i2l hx hb dL_judge_7 rfl ?_
    refine lw_put (x := r.toInt64) hx hb hK hOut1 dL_judge_8 (fun H2 j hO2 hz2 oq2 => ?_)
    have hS2 := S_put j hS1 hz2 oq2 (Or.inr rfl)
    refine lv_goto (tgt := 18) hx hb dL_judge_9 (by decide) ?_
    refine lv_iconst (v := 0) hx hb dL_judge_18 (by decide) ?_
    refine vx_ret ?_
    refine W.widen (k := 6) (n := 326) (Nat.le_of_ble_eq_true rfl) (Nat.le_of_ble_eq_true rfl) ?_
    exact W.iret (v := 0) hx hb hr (fun t9 ht9 hW9 => ⟨⟨0, g, rfl, ⟨by rw [hp0]; rfl, hL, hV.1, (k7_judge S p0).ct hV.2.1, rfl⟩, ⟨by rw [ht9]; exact hB.off hL hoA oq2, r.toInt64, by rw [ht9]; exact hO2, fun _ => by rw [hr1]⟩⟩, hS2.F ht9⟩) hS2.2.2 dL_judge_19
set_option maxHeartbeats 4000000 in
set_option maxRecDepth 100000 in
theorem qL_settle (l : Launch) (hfl : l.stackTraces = false) (A : Nat → Prop) (D : va_G) (cy : Nat → ClassId) (g : CWt) (hL : CL A g) (S : St) (e0 mi n0 oa : Nat) (hA : ∀ q, n0 ≤ q → A q) (hoA : ¬ A oa) (hV : CV e0 g S) (hZ : ZR S) (hPP : NPK S) (p0 p1 : Int32) : vx_Met l yL_settle wsL_settle ({ frames := 9, cells := 6, slots := 326, locals := 240 } : Room) (va_Pc [.ref (ga g 18 0), .int p0, .int p1, .ref oa] (LPw A D cy g S e0 mi n0 oa)) (va_Qi (fun (r : Int32) (g1 : CWt) => r = mp3 (fX7_settle S p0 p1).2.1 ∧ LG A g e0 g1 (fX7_settle S p0 p1).2.2) (fun g1 t => CH D cy g1 (fX7_settle S p0 p1).2.2 t.heap ∧ ∃ v, at1 D oa (LA cy v) t.heap ∧ ((fX7_settle S p0 p1).2.1 = 0 → v = ((fX7_settle S p0 p1).1.toInt64))) (fun q => A q ∨ q = oa)) LF 6 326 (fun q => A q ∨ q = oa) := by
  refine vx_ofWH (cc := cL_settle) (maxL := 5) (ret := (some .int)) (hh := [(0, 10, 13, 13), (0, 10, 17, 15), (0, 10, 21, 17)]) (by decide) rfl ?_
  intro p e s m args below meth c s₁ B hml hv
  obtain ⟨rfl, ⟨⟨⟨hM, hK⟩, hJ⟩, hX, hO, hn0⟩, hNc, v0, hOut⟩ := hv
  have hx := B.exec
  have hb := B.bytes
  have hr := B.returns
  have hts := atoms_spec (ws := wsL_settle) B.pre
  have hown : s.vm.findClass RL = some m.cls := findClass_of_methodNamed B.named
  have hct := vx_table (p := p) (x := yL_settle) B (hts (.codeWith yL_settle cL_settle 5 (some .int) [(0, 10, 13, 13), (0, 10, 17, 15), (0, 10, 21, 17)]) List.mem_cons_self)
  have hC : CC p s m _ c cL_settle 5 RL D cy wsL_settle := ⟨⟨hx, hb, hml, hown, hts⟩, hK⟩
  have hI : CI A D cy g s S s.heap [] := ⟨hM, va_S.rf⟩
  have hS : va_S (fun q => A q ∨ q = oa) s.heap s.heap [] := va_S.rf
  have k_13 := hts (.classLink RL 13 "java/lang/IndexOutOfBoundsException") (List.mem_cons_of_mem _ (List.mem_append_left _ (List.mem_append_left _ (List.mem_append_left _ (List.mem_append_left _ (List.mem_append_left _ (List.mem_append_left _ (List.mem_append_left _ (List.mem_append_left _ (List.mem_append_left _ (List.mem_append_left _ (List.mem_append_left _ (List.mem_append_left _ (List.mem_append_left _ (List.mem_of_getElem? (i := 0) rfl)))))))))))))))
  have k_15 := hts (.classLink RL 15 "java/lang/IllegalArgumentException") (List.mem_cons_of_mem _ (List.mem_append_left _ (List.mem_append_left _ (List.mem_append_left _ (List.mem_append_left _ (List.mem_append_left _ (List.mem_append_left _ (List.mem_append_left _ (List.mem_append_left _ (List.mem_append_left _ (List.mem_append_left _ (List.mem_append_left _ (List.mem_append_left _ (List.mem_append_left _ (List.mem_of_getElem? (i := 1) rfl)))))))))))))))
  have k_17 := hts (.classLink RL 17 "java/lang/IllegalStateException") (List.mem_cons_of_mem _ (List.mem_append_left _ (List.mem_append_left _ (List.mem_append_left _ (List.mem_append_left _ (List.mem_append_left _ (List.mem_append_left _ (List.mem_append_left _ (List.mem_append_left _ (List.mem_append_left _ (List.mem_append_left _ (List.mem_append_left _ (List.mem_append_left _ (List.mem_append_left _ (List.mem_of_getElem? (i := 2) rfl)))))))))))))))
  have hl := lv_entry ([.ref (ga g 18 0), .int p0, .int p1, .ref oa]) (n := 5) (Nat.le_of_ble_eq_true rfl)
  rw [lg_entry_eq]
  generalize (lg_sl ([.ref (ga g 18 0), .int p0, .int p1, .ref oa]) ++ List.replicate (5 - (lg_sl ([.ref (ga g 18 0), .int p0, .int p1, .ref oa])).length) Slot.unset).toArray = ls at hl ⊢
  have hl : lv_has ls 5 [(0, .ref (ga g 18 0)), (1, .int p0), (2, .int p1), (3, .ref oa)] := hl
  refine lv_aload_n hx hb dL_settle_0 rfl (lv_at hl 3 rfl) ?_
  refine lv_iconst (v := 0) hx hb dL_settle_1 (by decide) ?_
  refine lv_aload_n hx hb dL_settle_2 rfl (lv_at hl 0 rfl) ?_
  refine lv_iload_n hx hb dL_settle_3 rfl (lv_at hl 1 rfl) ?_
  refine lv_iload_n hx hb dL_settle_4 rfl (lv_at hl 2 rfl) ?_
  refine vx_calli (vx_runV (As := [.int p0, .int p1]) (rest := [.int 0, .ref oa]) hC.1 (qX7_settle l hfl A D cy g hL S e0 hV p0 p1) (cwV 2 hts gL_settle_X7_settle rfl rfl rfl (by decide +kernel) ⟨Nat.le_of_ble_eq_true rfl, Nat.le_of_ble_eq_true rfl⟩) ⟨CTh_blind, cr_recv (ci := 8) hC.2 hI 18 0 rfl rfl rfl, fun U hU hW => ⟨rfl, ⟨by rw [hU]; exact hM, va_K.moved hW.alike hK⟩, by rw [hU]; exact JT.warm hW hJ⟩⟩ rfl rfl hl.1 rfl (lv_room (Nat.le_of_ble_eq_true rfl)) dL_settle_5 ⟨Nat.le_of_ble_eq_true rfl, Nat.le_of_ble_eq_true rfl⟩) hS (fun q _ h => Or.inl h) (fun q h => Or.inl h) (fun q _ h => Or.inl h) (fun E ce q9 u t H1 locs1 ht hvm hp hE hz1 hk1 hS1 hce hcv hcl => ?_) (fun r u t H1 locs1 ht hvm hp hB hz1 hk1 hS1 => ?_)
  · obtain ⟨hE, hM1⟩ := hE
    rw [ht] at hM1
    have hOut1 : at1 D oa (LA cy v0) H1 := hOut.kept (hk1 oa hOut.lt hoA)
    obtain ⟨hc7, hs7⟩ := c7_settle S p0 p1
    have hS2 := hs7 hp
    rcases hc7 with h0 | h0 | h0 | h0
    · exact absurd h0 hp
    · have hE : E = "java/lang/IndexOutOfBoundsException" := hE.trans (by rw [h0]; rfl)
      subst hE
      refine vx_catch hown [] ⟨0, 10, 13, 13⟩ [⟨0, 10, 17, 15⟩, ⟨0, 10, 21, 17⟩] (by rw [hct]; rfl) (fun _ hz => absurd hz List.not_mem_nil) rfl (by decide) k_13 (va_Nw.use (jwl_tab _ (List.mem_of_getElem? (i := 0) rfl)) (hJ.2.2.2 _ (List.mem_of_getElem? (i := 0) rfl))) hce hcv hcl ?_
      refine lv_astore (lv' := [(4, .ref q9), (0, .ref (ga g 18 0)), (1, .int p0), (2, .int p1), (3, .ref oa)]) hx hb dL_settle_13 hl (by decide) rfl (fun ls hl => ?_)
      refine lv_iconst (v := 1) hx hb dL_settle_15 (by decide) ?_
      refine vx_ret ?_
      refine W.widen (k := 6) (n := 326) (Nat.le_of_ble_eq_true rfl) (Nat.le_of_ble_eq_true rfl) ?_
      exact W.iret (v := 1) hx hb hr (fun t9 ht9 hW9 => ⟨⟨1, g, rfl, ⟨by rw [h0]; rfl, hL, hV.1, by rw [hS2]; exact hV.2.1, rfl⟩, ⟨by rw [ht9, hS2]; exact hM1, v0, by rw [ht9]; exact hOut1, fun q => absurd q hp⟩⟩, hS1.F ht9⟩) hS1.2.2 dL_settle_16
    · have hE : E = "java/lang/IllegalArgumentException" := hE.trans (by rw [h0]; rfl)
      subst hE
      refine vx_catch hown [⟨0, 10, 13, 13⟩] ⟨0, 10, 17, 15⟩ [⟨0, 10, 21, 17⟩] (by rw [hct]; rfl) (List.forall_mem_cons.mpr ⟨Or.inr ⟨by decide, _, k_13, hNc.1⟩, fun _ hz => absurd hz List.not_mem_nil⟩) rfl (by decide) k_15 (va_Nw.use (jwl_tab _ (List.mem_of_getElem? (i := 1) rfl)) (hJ.2.2.2 _ (List.mem_of_getElem? (i := 1) rfl))) hce hcv hcl ?_
      refine lv_astore (lv' := [(4, .ref q9), (0, .ref (ga g 18 0)), (1, .int p0), (2, .int p1), (3, .ref oa)]) hx hb dL_settle_17 hl (by decide) rfl (fun ls hl => ?_)
      refine lv_iconst (v := 2) hx hb dL_settle_19 (by decide) ?_
      refine vx_ret ?_
      refine W.widen (k := 6) (n := 326) (Nat.le_of_ble_eq_true rfl) (Nat.le_of_ble_eq_true rfl) ?_
      exact W.iret (v := 2) hx hb hr (fun t9 ht9 hW9 => ⟨⟨2, g, rfl, ⟨by rw [h0]; rfl, hL, hV.1, by rw [hS2]; exact hV.2.1, rfl⟩, ⟨by rw [ht9, hS2]; exact hM1, v0, by rw [ht9]; exact hOut1, fun q => absurd q hp⟩⟩, hS1.F ht9⟩) hS1.2.2 dL_settle_20
    · have hE : E = "java/lang/IllegalStateException" := hE.trans (by rw [h0]; rfl)
      subst hE
      refine vx_catch hown [⟨0, 10, 13, 13⟩, ⟨0, 10, 17, 15⟩] ⟨0, 10, 21, 17⟩ [] (by rw [hct]; rfl) (List.forall_mem_cons.mpr ⟨Or.inr ⟨by decide, _, k_13, hNc.2.1⟩, List.forall_mem_cons.mpr ⟨Or.inr ⟨by decide, _, k_15, hNc.2.2⟩, fun _ hz => absurd hz List.not_mem_nil⟩⟩) rfl (by decide) k_17 (va_Nw.use (jwl_tab _ (List.mem_of_getElem? (i := 2) rfl)) (hJ.2.2.2 _ (List.mem_of_getElem? (i := 2) rfl))) hce hcv hcl ?_
      refine lv_astore (lv' := [(4, .ref q9), (0, .ref (ga g 18 0)), (1, .int p0), (2, .int p1), (3, .ref oa)]) hx hb dL_settle_21 hl (by decide) rfl (fun ls hl => ?_)
      refine lv_iconst (v := 3) hx hb dL_settle_23 (by decide) ?_
      refine vx_ret ?_
      refine W.widen (k := 6) (n := 326) (Nat.le_of_ble_eq_true rfl) (Nat.le_of_ble_eq_true rfl) ?_
      exact W.iret (v := 3) hx hb hr (fun t9 ht9 hW9 => ⟨⟨3, g, rfl, ⟨by rw [h0]; rfl, hL, hV.1, by rw [hS2]; exact hV.2.1, rfl⟩, ⟨by rw [ht9, hS2]; exact hM1, v0, by rw [ht9]; exact hOut1, fun q => absurd q hp⟩⟩, hS1.F ht9⟩) hS1.2.2 dL_settle_24
  · rw [ht] at hB
    have hOut1 : at1 D oa (LA cy v0) H1 := hOut.kept (hk1 oa hOut.lt hoA)
    obtain ⟨hp0, hr1⟩ := hp
    refine lv_i2l hx hb dL_settle_8 rfl ?_
    refine lw_put (x := r.toInt64) hx hb hK hOut1 dL_settle_9 (fun H2 j hO2 hz2 oq2 => ?_)
    have hS2 := S_put j hS1 hz2 oq2 (Or.inr rfl)
    refine lv_goto (tgt := 25) hx hb dL_settle_10 (by decide) ?_
    refine lv_iconst (v := 0) hx hb dL_settle_25 (by decide) ?_
    refine vx_ret ?_
    refine W.widen (k := 6) (n := 326) (Nat.le_of_ble_eq_true rfl) (Nat.le_of_ble_eq_true rfl) ?_
    exact W.iret (v := 0) hx hb hr (fun t9 ht9 hW9 => ⟨⟨0, g, rfl, ⟨by rw [hp0]; rfl, hL, hV.1, (k7_settle S p0 p1).ct hV.2.1, rfl⟩, ⟨by rw [ht9]; exact hB.off hL hoA oq2, r.toInt64, by rw [ht9]; exact hO2, fun _ => by rw [hr1]⟩⟩, hS2.F ht9⟩) hS2.2.2 dL_settle_26
set_option maxHeartbeats 4000000 in
set_option maxRecDepth 100000 in
theorem qL_work (l : Launch) (hfl : l.stackTraces = false) (A : Nat → Prop) (D : va_G) (cy : Nat → ClassId) (g : CWt) (hL : CL A g) (S : St) (e0 mi n0 oa : Nat) (hA : ∀ q, n0 ≤ q → A q) (hoA : ¬ A oa) (hV : CV e0 g S) (hZ : ZR S) (hPP : NPK S) (p0 p1 p2 : Int32) : vx_Met l yL_work wsL_work ({ frames := 9, cells := 6, slots := 326, locals := 240 } : Room) (va_Pc [.ref (ga g 18 0), .int p0, .int p1, .int p2, .ref oa] (LPw A D cy g S e0 mi n0 oa)) (va_Qi (fun (r : Int32) (g1 : CWt) => r = mp3 (fX7_work S p0 p1 p2).2.1 ∧ LG A g e0 g1 (fX7_work S p0 p1 p2).2.2) (fun g1 t => CH D cy g1 (fX7_work S p0 p1 p2).2.2 t.heap ∧ ∃ v, at1 D oa (LA cy v) t.heap ∧ ((fX7_work S p0 p1 p2).2.1 = 0 → v = ((fX7_work S p0 p1 p2).1.toInt64))) (fun q => A q ∨ q = oa)) LF 6 326 (fun q => A q ∨ q = oa) := by
  refine vx_ofWH (cc := cL_work) (maxL := 6) (ret := (some .int)) (hh := [(0, 12, 15, 13), (0, 12, 19, 15)]) (by decide) rfl ?_
  intro p e s m args below meth c s₁ B hml hv
  obtain ⟨rfl, ⟨⟨⟨hM, hK⟩, hJ⟩, hX, hO, hn0⟩, hNc, v0, hOut⟩ := hv
  have hx := B.exec
  have hb := B.bytes
  have hr := B.returns
  have hts := atoms_spec (ws := wsL_work) B.pre
  have hown : s.vm.findClass RL = some m.cls := findClass_of_methodNamed B.named
  have hct := vx_table (p := p) (x := yL_work) B (hts (.codeWith yL_work cL_work 6 (some .int) [(0, 12, 15, 13), (0, 12, 19, 15)]) List.mem_cons_self)
  have hC : CC p s m _ c cL_work 6 RL D cy wsL_work := ⟨⟨hx, hb, hml, hown, hts⟩, hK⟩
  have hI : CI A D cy g s S s.heap [] := ⟨hM, va_S.rf⟩
  have hS : va_S (fun q => A q ∨ q = oa) s.heap s.heap [] := va_S.rf
  have k_13 := hts (.classLink RL 13 "java/lang/IndexOutOfBoundsException") (List.mem_cons_of_mem _ (List.mem_append_left _ (List.mem_append_left _ (List.mem_append_left _ (List.mem_append_left _ (List.mem_append_left _ (List.mem_of_getElem? (i := 0) rfl)))))))
  have k_15 := hts (.classLink RL 15 "java/lang/IllegalArgumentException") (List.mem_cons_of_mem _ (List.mem_append_left _ (List.mem_append_left _ (List.mem_append_left _ (List.mem_append_left _ (List.mem_append_left _ (List.mem_of_getElem? (i := 1) rfl)))))))
  have hl := lv_entry ([.ref (ga g 18 0), .int p0, .int p1, .int p2, .ref oa]) (n := 6) (Nat.le_of_ble_eq_true rfl)
  rw [lg_entry_eq]
  generalize (lg_sl ([.ref (ga g 18 0), .int p0, .int p1, .int p2, .ref oa]) ++ List.replicate (6 - (lg_sl ([.ref (ga g 18 0), .int p0, .int p1, .int p2, .ref oa])).length) Slot.unset).toArray = ls at hl ⊢
  have hl : lv_has ls 6 [(0, .ref (ga g 18 0)), (1, .int p0), (2, .int p1), (3, .int p2), (4, .ref oa)] := hl
  refine lv_aload hx hb dL_work_0 (lv_at hl 4 rfl) ?_
  refine lv_iconst (v := 0) hx hb dL_work_2 (by decide) ?_
  refine lv_aload_n hx hb dL_work_3 rfl (lv_at hl 0 rfl) ?_
  refine lv_iload_n hx hb dL_work_4 rfl (lv_at hl 1 rfl) ?_
  refine lv_iload_n hx hb dL_work_5 rfl (lv_at hl 2 rfl) ?_
  refine lv_iload_n hx hb dL_work_6 rfl (lv_at hl 3 rfl) ?_
  refine vx_calli (vx_runV (As := [.int p0, .int p1, .int p2]) (rest := [.int 0, .ref oa]) hC.1 (qX7_work l hfl A D cy g hL S e0 hV p0 p1 p2) (cwV 3 hts gL_work_X7_work rfl rfl rfl (by decide +kernel) ⟨Nat.le_of_ble_eq_true rfl, Nat.le_of_ble_eq_true rfl⟩) ⟨CTh_blind, cr_recv (ci := 8) hC.2 hI 18 0 rfl rfl rfl, fun U hU hW => ⟨rfl, ⟨by rw [hU]; exact hM, va_K.moved hW.alike hK⟩, by rw [hU]; exact JT.warm hW hJ⟩⟩ rfl rfl hl.1 rfl (lv_room (Nat.le_of_ble_eq_true rfl)) dL_work_7 ⟨Nat.le_of_ble_eq_true rfl, Nat.le_of_ble_eq_true rfl⟩) hS (fun q _ h => Or.inl h) (fun q h => Or.inl h) (fun q _ h => Or.inl h) (fun E ce q9 u t H1 locs1 ht hvm hp hE hz1 hk1 hS1 hce hcv hcl => ?_) (fun r u t H1 locs1 ht hvm hp hB hz1 hk1 hS1 => ?_)
  · obtain ⟨hE, hM1⟩ := hE
    rw [ht] at hM1
    have hOut1 : at1 D oa (LA cy v0) H1 := hOut.kept (hk1 oa hOut.lt hoA)
    obtain ⟨hc7, hs7⟩ := c7_work S p0 p1 p2
    have hS2 := hs7 hp
    rcases hc7 with h0 | h0 | h0
    · exact absurd h0 hp
    · have hE : E = "java/lang/IndexOutOfBoundsException" := hE.trans (by rw [h0]; rfl)
      subst hE
      refine vx_catch hown [] ⟨0, 12, 15, 13⟩ [⟨0, 12, 19, 15⟩] (by rw [hct]; rfl) (fun _ hz => absurd hz List.not_mem_nil) rfl (by decide) k_13 (va_Nw.use (jwl_tab _ (List.mem_of_getElem? (i := 0) rfl)) (hJ.2.2.2 _ (List.mem_of_getElem? (i := 0) rfl))) hce hcv hcl ?_
      refine lv_astore (lv' := [(5, .ref q9), (0, .ref (ga g 18 0)), (1, .int p0), (2, .int p1), (3, .int p2), (4, .ref oa)]) hx hb dL_work_15 hl (by decide) rfl (fun ls hl => ?_)
      refine lv_iconst (v := 1) hx hb dL_work_17 (by decide) ?_
      refine vx_ret ?_
      refine W.widen (k := 6) (n := 326) (Nat.le_of_ble_eq_true rfl) (Nat.le_of_ble_eq_true rfl) ?_
      exact W.iret (v := 1) hx hb hr (fun t9 ht9 hW9 => ⟨⟨1, g, rfl, ⟨by rw [h0]; rfl, hL, hV.1, by rw [hS2]; exact hV.2.1, rfl⟩, ⟨by rw [ht9, hS2]; exact hM1, v0, by rw [ht9]; exact hOut1, fun q => absurd q hp⟩⟩, hS1.F ht9⟩) hS1.2.2 dL_work_18
    · have hE : E = "java/lang/IllegalArgumentException" := hE.trans (by rw [h0]; rfl)
      subst hE
      refine vx_catch hown [⟨0, 12, 15, 13⟩] ⟨0, 12, 19, 15⟩ [] (by rw [hct]; rfl) (List.forall_mem_cons.mpr ⟨Or.inr ⟨by decide, _, k_13, hNc.1⟩, fun _ hz => absurd hz List.not_mem_nil⟩) rfl (by decide) k_15 (va_Nw.use (jwl_tab _ (List.mem_of_getElem? (i := 1) rfl)) (hJ.2.2.2 _ (List.mem_of_getElem? (i := 1) rfl))) hce hcv hcl ?_
      refine lv_astore (lv' := [(5, .ref q9), (0, .ref (ga g 18 0)), (1, .int p0), (2, .int p1), (3, .int p2), (4, .ref oa)]) hx hb dL_work_19 hl (by decide) rfl (fun ls hl => ?_)
      refine lv_iconst (v := 2) hx hb dL_work_21 (by decide) ?_
      refine vx_ret ?_
      refine W.widen (k := 6) (n := 326) (Nat.le_of_ble_eq_true rfl) (Nat.le_of_ble_eq_true rfl) ?_
      exact W.iret (v := 2) hx hb hr (fun t9 ht9 hW9 => ⟨⟨2, g, rfl, ⟨by rw [h0]; rfl, hL, hV.1, by rw [hS2]; exact hV.2.1, rfl⟩, ⟨by rw [ht9, hS2]; exact hM1, v0, by rw [ht9]; exact hOut1, fun q => absurd q hp⟩⟩, hS1.F ht9⟩) hS1.2.2 dL_work_22
  · rw [ht] at hB
    have hOut1 : at1 D oa (LA cy v0) H1 := hOut.kept (hk1 oa hOut.lt hoA)
    obtain ⟨hp0, hr1⟩ := hp
    refine lv_i2l hx hb dL_work_10 rfl ?_
    refine lw_put (x := r.toInt64) hx hb hK hOut1 dL_work_11 (fun H2 j hO2 hz2 oq2 => ?_)
    have hS2 := S_put j hS1 hz2 oq2 (Or.inr rfl)
    refine lv_goto (tgt := 23) hx hb dL_work_12 (by decide) ?_
    refine lv_iconst (v := 0) hx hb dL_work_23 (by decide) ?_
    refine vx_ret ?_
    refine W.widen (k := 6) (n := 326) (Nat.le_of_ble_eq_true rfl) (Nat.le_of_ble_eq_true rfl) ?_
    exact W.iret (v := 0) hx hb hr (fun t9 ht9 hW9 => ⟨⟨0, g, rfl, ⟨by rw [hp0]; rfl, hL, hV.1, (k7_work S p0 p1 p2).ct hV.2.1, rfl⟩, ⟨by rw [ht9]; exact hB.off hL hoA oq2, r.toInt64, by rw [ht9]; exact hO2, fun _ => by rw [hr1]⟩⟩, hS2.F ht9⟩) hS2.2.2 dL_work_24
set_option maxHeartbeats 4000000 in
set_option maxRecDepth 100000 in
theorem qL_tell (l : Launch) (hfl : l.stackTraces = false) (A : Nat → Prop) (D : va_G) (cy : Nat → ClassId) (g : CWt) (hL : CL A g) (S : St) (e0 mi n0 oa : Nat) (hA : ∀ q, n0 ≤ q → A q) (hoA : ¬ A oa) (hV : CV e0 g S) (hZ : ZR S) (hPP : NPK S) (p0 p1 : Int32) : vx_Met l yL_tell wsL_tell ({ frames := 9, cells := 6, slots := 326, locals := 240 } : Room) (va_Pc [.ref (ga g 18 0), .int p0, .int p1, .ref oa] (LPw A D cy g S e0 mi n0 oa)) (va_Qi (fun (r : Int32) (g1 : CWt) => r = mp3 (fX7_tell S p0 p1).2.1 ∧ LG A g e0 g1 (fX7_tell S p0 p1).2.2) (fun g1 t => CH D cy g1 (fX7_tell S p0 p1).2.2 t.heap ∧ ∃ v, at1 D oa (LA cy v) t.heap ∧ ((fX7_tell S p0 p1).2.1 = 0 → v = ((fX7_tell S p0 p1).1.toInt64))) (fun q => A q ∨ q = oa)) LF 6 326 (fun q => A q ∨ q = oa) := by
  refine vx_ofWH (cc := cL_tell) (maxL := 5) (ret := (some .int)) (hh := [(0, 10, 13, 13)]) (by decide) rfl ?_
  intro p e s m args below meth c s₁ B hml hv
  obtain ⟨rfl, ⟨⟨⟨hM, hK⟩, hJ⟩, hX, hO, hn0⟩, hNc, v0, hOut⟩ := hv
  have hx := B.exec
  have hb := B.bytes
  have hr := B.returns
  have hts := atoms_spec (ws := wsL_tell) B.pre
  have hown : s.vm.findClass RL = some m.cls := findClass_of_methodNamed B.named
  have hct := vx_table (p := p) (x := yL_tell) B (hts (.codeWith yL_tell cL_tell 5 (some .int) [(0, 10, 13, 13)]) List.mem_cons_self)
  have hC : CC p s m _ c cL_tell 5 RL D cy wsL_tell := ⟨⟨hx, hb, hml, hown, hts⟩, hK⟩
  have hI : CI A D cy g s S s.heap [] := ⟨hM, va_S.rf⟩
  have hS : va_S (fun q => A q ∨ q = oa) s.heap s.heap [] := va_S.rf
  have k_13 := hts (.classLink RL 13 "java/lang/IndexOutOfBoundsException") (List.mem_cons_of_mem _ (List.mem_append_left _ (List.mem_append_left _ (List.mem_append_left _ (List.mem_append_left _ (List.mem_append_left _ (List.mem_append_left _ (List.mem_of_getElem? (i := 0) rfl))))))))
  have hl := lv_entry ([.ref (ga g 18 0), .int p0, .int p1, .ref oa]) (n := 5) (Nat.le_of_ble_eq_true rfl)
  rw [lg_entry_eq]
  generalize (lg_sl ([.ref (ga g 18 0), .int p0, .int p1, .ref oa]) ++ List.replicate (5 - (lg_sl ([.ref (ga g 18 0), .int p0, .int p1, .ref oa])).length) Slot.unset).toArray = ls at hl ⊢
  have hl : lv_has ls 5 [(0, .ref (ga g 18 0)), (1, .int p0), (2, .int p1), (3, .ref oa)] := hl
  refine lv_aload_n hx hb dL_tell_0 rfl (lv_at hl 3 rfl) ?_
  refine lv_iconst (v := 0) hx hb dL_tell_1 (by decide) ?_
  refine lv_aload_n hx hb dL_tell_2 rfl (lv_at hl 0 rfl) ?_
  refine lv_iload_n hx hb dL_tell_3 rfl (lv_at hl 1 rfl) ?_
  refine lv_iload_n hx hb dL_tell_4 rfl (lv_at hl 2 rfl) ?_
  refine vx_calli (vx_runV (As := [.int p0, .int p1]) (rest := [.int 0, .ref oa]) hC.1 (qX7_tell l hfl A D cy g hL S e0 hV p0 p1) (cwV 2 hts gL_tell_X7_tell rfl rfl rfl (by decide +kernel) ⟨Nat.le_of_ble_eq_true rfl, Nat.le_of_ble_eq_true rfl⟩) ⟨CTh_blind, cr_recv (ci := 8) hC.2 hI 18 0 rfl rfl rfl, fun U hU hW => ⟨rfl, ⟨by rw [hU]; exact hM, va_K.moved hW.alike hK⟩, by rw [hU]; exact JT.warm hW hJ⟩⟩ rfl rfl hl.1 rfl (lv_room (Nat.le_of_ble_eq_true rfl)) dL_tell_5 ⟨Nat.le_of_ble_eq_true rfl, Nat.le_of_ble_eq_true rfl⟩) hS (fun q _ h => Or.inl h) (fun q h => Or.inl h) (fun q _ h => Or.inl h) (fun E ce q9 u t H1 locs1 ht hvm hp hE hz1 hk1 hS1 hce hcv hcl => ?_) (fun r u t H1 locs1 ht hvm hp hB hz1 hk1 hS1 => ?_)
  · obtain ⟨hE, hM1⟩ := hE
    rw [ht] at hM1
    have hOut1 : at1 D oa (LA cy v0) H1 := hOut.kept (hk1 oa hOut.lt hoA)
    obtain ⟨hc7, hs7⟩ := c7_tell S p0 p1
    have hS2 := hs7 hp
    rcases hc7 with h0 | h0
    · exact absurd h0 hp
    · have hE : E = "java/lang/IndexOutOfBoundsException" := hE.trans (by rw [h0]; rfl)
      subst hE
      refine vx_catch hown [] ⟨0, 10, 13, 13⟩ [] (by rw [hct]; rfl) (fun _ hz => absurd hz List.not_mem_nil) rfl (by decide) k_13 (va_Nw.use (jwl_tab _ (List.mem_of_getElem? (i := 0) rfl)) (hJ.2.2.2 _ (List.mem_of_getElem? (i := 0) rfl))) hce hcv hcl ?_
      refine lv_astore (lv' := [(4, .ref q9), (0, .ref (ga g 18 0)), (1, .int p0), (2, .int p1), (3, .ref oa)]) hx hb dL_tell_13 hl (by decide) rfl (fun ls hl => ?_)
      refine lv_iconst (v := 1) hx hb dL_tell_15 (by decide) ?_
      refine vx_ret ?_
      refine W.widen (k := 6) (n := 326) (Nat.le_of_ble_eq_true rfl) (Nat.le_of_ble_eq_true rfl) ?_
      exact W.iret (v := 1) hx hb hr (fun t9 ht9 hW9 => ⟨⟨1, g, rfl, ⟨by rw [h0]; rfl, hL, hV.1, by rw [hS2]; exact hV.2.1, rfl⟩, ⟨by rw [ht9, hS2]; exact hM1, v0, by rw [ht9]; exact hOut1, fun q => absurd q hp⟩⟩, hS1.F ht9⟩) hS1.2.2 dL_tell_16
  · rw [ht] at hB
    have hOut1 : at1 D oa (LA cy v0) H1 := hOut.kept (hk1 oa hOut.lt hoA)
    obtain ⟨hp0, hr1⟩ := hp
    refine lv_i2l hx hb dL_tell_8 rfl ?_
    refine lw_put (x := r.toInt64) hx hb hK hOut1 dL_tell_9 (fun H2 j hO2 hz2 oq2 => ?_)
    have hS2 := S_put j hS1 hz2 oq2 (Or.inr rfl)
    refine lv_goto (tgt := 17) hx hb dL_tell_10 (by decide) ?_
    refine lv_iconst (v := 0) hx hb dL_tell_17 (by decide) ?_
    refine vx_ret ?_
    refine W.widen (k := 6) (n := 326) (Nat.le_of_ble_eq_true rfl) (Nat.le_of_ble_eq_true rfl) ?_
    exact W.iret (v := 0) hx hb hr (fun t9 ht9 hW9 => ⟨⟨0, g, rfl, ⟨by rw [hp0]; rfl, hL, hV.1, (k7_tell S p0 p1).ct hV.2.1, rfl⟩, ⟨by rw [ht9]; exact hB.off hL hoA oq2, r.toInt64, by rw [ht9]; exact hO2, fun _ => by rw [hr1]⟩⟩, hS2.F ht9⟩) hS2.2.2 dL_tell_18
set_option maxHeartbeats 4000000 in
set_option maxRecDepth 100000 in
theorem qL_fire (l : Launch) (hfl : l.stackTraces = false) (A : Nat → Prop) (D : va_G) (cy : Nat → ClassId) (g : CWt) (hL : CL A g) (S : St) (e0 mi n0 oa : Nat) (hA : ∀ q, n0 ≤ q → A q) (hoA : ¬ A oa) (hV : CV e0 g S) (hZ : ZR S) (hPP : NPK S) (p0 p1 : Int32) : vx_Met l yL_fire wsL_fire ({ frames := 9, cells := 6, slots := 326, locals := 240 } : Room) (va_Pc [.ref (ga g 18 0), .int p0, .int p1, .ref oa] (LPw A D cy g S e0 mi n0 oa)) (va_Qi (fun (r : Int32) (g1 : CWt) => r = mp13 (fX7_fire S p0 p1).2.1 ∧ LG A g e0 g1 (fX7_fire S p0 p1).2.2) (fun g1 t => CH D cy g1 (fX7_fire S p0 p1).2.2 t.heap ∧ ∃ v, at1 D oa (LA cy v) t.heap ∧ ((fX7_fire S p0 p1).2.1 = 0 → v = (if (fX7_fire S p0 p1).1 = 0 then (0 : Int64) else 1))) (fun q => A q ∨ q = oa)) LF 6 326 (fun q => A q ∨ q = oa) := by
  refine vx_ofWH (cc := cL_fire) (maxL := 5) (ret := (some .int)) (hh := [(0, 17, 20, 13), (0, 17, 24, 17)]) (by decide) rfl ?_
  intro p e s m args below meth c s₁ B hml hv
  obtain ⟨rfl, ⟨⟨⟨hM, hK⟩, hJ⟩, hX, hO, hn0⟩, hNc, v0, hOut⟩ := hv
  have hx := B.exec
  have hb := B.bytes
  have hr := B.returns
  have hts := atoms_spec (ws := wsL_fire) B.pre
  have hown : s.vm.findClass RL = some m.cls := findClass_of_methodNamed B.named
  have hct := vx_table (p := p) (x := yL_fire) B (hts (.codeWith yL_fire cL_fire 5 (some .int) [(0, 17, 20, 13), (0, 17, 24, 17)]) List.mem_cons_self)
  have hC : CC p s m _ c cL_fire 5 RL D cy wsL_fire := ⟨⟨hx, hb, hml, hown, hts⟩, hK⟩
  have hI : CI A D cy g s S s.heap [] := ⟨hM, va_S.rf⟩
  have hS : va_S (fun q => A q ∨ q = oa) s.heap s.heap [] := va_S.rf
  have k_13 := hts (.classLink RL 13 "java/lang/IndexOutOfBoundsException") (List.mem_cons_of_mem _ (List.mem_append_left _ (List.mem_append_left _ (List.mem_append_left _ (List.mem_append_left _ (List.mem_append_left _ (List.mem_append_left _ (List.mem_append_left _ (List.mem_append_left _ (List.mem_of_getElem? (i := 0) rfl))))))))))
  have k_17 := hts (.classLink RL 17 "java/lang/IllegalStateException") (List.mem_cons_of_mem _ (List.mem_append_left _ (List.mem_append_left _ (List.mem_append_left _ (List.mem_append_left _ (List.mem_append_left _ (List.mem_append_left _ (List.mem_append_left _ (List.mem_append_left _ (List.mem_of_getElem? (i := 1) rfl))))))))))
  have hl := lv_entry ([.ref (ga g 18 0), .int p0, .int p1, .ref oa]) (n := 5) (Nat.le_of_ble_eq_true rfl)
  rw [lg_entry_eq]
  generalize (lg_sl ([.ref (ga g 18 0), .int p0, .int p1, .ref oa]) ++ List.replicate (5 - (lg_sl ([.ref (ga g 18 0), .int p0, .int p1, .ref oa])).length) Slot.unset).toArray = ls at hl ⊢
  have hl : lv_has ls 5 [(0, .ref (ga g 18 0)), (1, .int p0), (2, .int p1), (3, .ref oa)] := hl
  refine lv_aload_n hx hb dL_fire_0 rfl (lv_at hl 3 rfl) ?_
  refine lv_iconst (v := 0) hx hb dL_fire_1 (by decide) ?_
  refine lv_aload_n hx hb dL_fire_2 rfl (lv_at hl 0 rfl) ?_
  refine lv_iload_n hx hb dL_fire_3 rfl (lv_at hl 1 rfl) ?_
  refine lv_iload_n hx hb dL_fire_4 rfl (lv_at hl 2 rfl) ?_
  refine vx_calli (vx_runV (As := [.int p0, .int p1]) (rest := [.int 0, .ref oa]) hC.1 (qX7_fire l hfl A D cy g hL S e0 hV p0 p1) (cwV 2 hts gL_fire_X7_fire rfl rfl rfl (by decide +kernel) ⟨Nat.le_of_ble_eq_true rfl, Nat.le_of_ble_eq_true rfl⟩) ⟨CTh_blind, cr_recv (ci := 8) hC.2 hI 18 0 rfl rfl rfl, fun U hU hW => ⟨rfl, ⟨by rw [hU]; exact hM, va_K.moved hW.alike hK⟩, by rw [hU]; exact JT.warm hW hJ⟩⟩ rfl rfl hl.1 rfl (lv_room (Nat.le_of_ble_eq_true rfl)) dL_fire_5 ⟨Nat.le_of_ble_eq_true rfl, Nat.le_of_ble_eq_true rfl⟩) hS (fun q _ h => Or.inl h) (fun q h => Or.inl h) (fun q _ h => Or.inl h) (fun E ce q9 u t H1 locs1 ht hvm hp hE hz1 hk1 hS1 hce hcv hcl => ?_) (fun r u t H1 locs1 ht hvm hp hB hz1 hk1 hS1 => ?_)
  · obtain ⟨hE, hM1⟩ := hE
    rw [ht] at hM1
    have hOut1 : at1 D oa (LA cy v0) H1 := hOut.kept (hk1 oa hOut.lt hoA)
    obtain ⟨hc7, hs7⟩ := c7_fire S p0 p1
    have hS2 := hs7 hp
    rcases hc7 with h0 | h0 | h0
    · exact absurd h0 hp
    · have hE : E = "java/lang/IndexOutOfBoundsException" := hE.trans (by rw [h0]; rfl)
      subst hE
      refine vx_catch hown [] ⟨0, 17, 20, 13⟩ [⟨0, 17, 24, 17⟩] (by rw [hct]; rfl) (fun _ hz => absurd hz List.not_mem_nil) rfl (by decide) k_13 (va_Nw.use (jwl_tab _ (List.mem_of_getElem? (i := 0) rfl)) (hJ.2.2.2 _ (List.mem_of_getElem? (i := 0) rfl))) hce hcv hcl ?_
      refine lv_astore (lv' := [(4, .ref q9), (0, .ref (ga g 18 0)), (1, .int p0), (2, .int p1), (3, .ref oa)]) hx hb dL_fire_20 hl (by decide) rfl (fun ls hl => ?_)
      refine lv_iconst (v := 1) hx hb dL_fire_22 (by decide) ?_
      refine vx_ret ?_
      refine W.widen (k := 6) (n := 326) (Nat.le_of_ble_eq_true rfl) (Nat.le_of_ble_eq_true rfl) ?_
      exact W.iret (v := 1) hx hb hr (fun t9 ht9 hW9 => ⟨⟨1, g, rfl, ⟨by rw [h0]; rfl, hL, hV.1, by rw [hS2]; exact hV.2.1, rfl⟩, ⟨by rw [ht9, hS2]; exact hM1, v0, by rw [ht9]; exact hOut1, fun q => absurd q hp⟩⟩, hS1.F ht9⟩) hS1.2.2 dL_fire_23
    · have hE : E = "java/lang/IllegalStateException" := hE.trans (by rw [h0]; rfl)
      subst hE
      refine vx_catch hown [⟨0, 17, 20, 13⟩] ⟨0, 17, 24, 17⟩ [] (by rw [hct]; rfl) (List.forall_mem_cons.mpr ⟨Or.inr ⟨by decide, _, k_13, hNc.2.1⟩, fun _ hz => absurd hz List.not_mem_nil⟩) rfl (by decide) k_17 (va_Nw.use (jwl_tab _ (List.mem_of_getElem? (i := 2) rfl)) (hJ.2.2.2 _ (List.mem_of_getElem? (i := 2) rfl))) hce hcv hcl ?_
      refine lv_astore (lv' := [(4, .ref q9), (0, .ref (ga g 18 0)), (1, .int p0), (2, .int p1), (3, .ref oa)]) hx hb dL_fire_24 hl (by decide) rfl (fun ls hl => ?_)
      refine lv_iconst (v := 2) hx hb dL_fire_26 (by decide) ?_
      refine vx_ret ?_
      refine W.widen (k := 6) (n := 326) (Nat.le_of_ble_eq_true rfl) (Nat.le_of_ble_eq_true rfl) ?_
      exact W.iret (v := 2) hx hb hr (fun t9 ht9 hW9 => ⟨⟨2, g, rfl, ⟨by rw [h0]; rfl, hL, hV.1, by rw [hS2]; exact hV.2.1, rfl⟩, ⟨by rw [ht9, hS2]; exact hM1, v0, by rw [ht9]; exact hOut1, fun q => absurd q hp⟩⟩, hS1.F ht9⟩) hS1.2.2 dL_fire_27
  · rw [ht] at hB
    have hOut1 : at1 D oa (LA cy v0) H1 := hOut.kept (hk1 oa hOut.lt hoA)
    obtain ⟨hp0, hr1⟩ := hp
    refine lv_if_eq (tgt := 15) hx hb dL_fire_8 (by decide) (fun c0 => ?_) (fun c0 => ?_)
    · refine lv_lconst (v := 0) hx hb dL_fire_15 rfl ?_
      refine lw_put (x := (0 : Int64)) hx hb hK hOut1 dL_fire_16 (fun H2 j hO2 hz2 oq2 => ?_)
      have hS2 := S_put j hS1 hz2 oq2 (Or.inr rfl)
      refine lv_goto (tgt := 28) hx hb dL_fire_17 (by decide) ?_
      refine lv_iconst (v := 0) hx hb dL_fire_28 (by decide) ?_
      refine vx_ret ?_
      refine W.widen (k := 6) (n := 326) (Nat.le_of_ble_eq_true rfl) (Nat.le_of_ble_eq_true rfl) ?_
      exact W.iret (v := 0) hx hb hr (fun t9 ht9 hW9 => ⟨⟨0, g, rfl, ⟨by rw [hp0]; rfl, hL, hV.1, (k7_fire S p0 p1).ct hV.2.1, rfl⟩, ⟨by rw [ht9]; exact hB.off hL hoA oq2, (0 : Int64), by rw [ht9]; exact hO2, fun _ => by rw [← hr1, if_pos c0]⟩⟩, hS2.F ht9⟩) hS2.2.2 dL_fire_29
    · refine lv_lconst (v := 1) hx hb dL_fire_11 rfl ?_
      refine lv_goto (tgt := 16) hx hb dL_fire_12 (by decide) ?_
      refine lw_put (x := (1 : Int64)) hx hb hK hOut1 dL_fire_16 (fun H2 j hO2 hz2 oq2 => ?_)
      have hS2 := S_put j hS1 hz2 oq2 (Or.inr rfl)
      refine lv_goto (tgt := 28) hx hb dL_fire_17 (by decide) ?_
      refine lv_iconst (v := 0) hx hb dL_fire_28 (by decide) ?_
      refine vx_ret ?_
      refine W.widen (k := 6) (n := 326) (Nat.le_of_ble_eq_true rfl) (Nat.le_of_ble_eq_true rfl) ?_
      exact W.iret (v := 0) hx hb hr (fun t9 ht9 hW9 => ⟨⟨0, g, rfl, ⟨by rw [hp0]; rfl, hL, hV.1, (k7_fire S p0 p1).ct hV.2.1, rfl⟩, ⟨by rw [ht9]; exact hB.off hL hoA oq2, (1 : Int64), by rw [ht9]; exact hO2, fun _ => by rw [← hr1, if_neg c0]⟩⟩, hS2.F ht9⟩) hS2.2.2 dL_fire_29
set_option maxHeartbeats 4000000 in
set_option maxRecDepth 100000 in
theorem qL_award (l : Launch) (hfl : l.stackTraces = false) (A : Nat → Prop) (D : va_G) (cy : Nat → ClassId) (g : CWt) (hL : CL A g) (S : St) (e0 mi n0 oa : Nat) (hA : ∀ q, n0 ≤ q → A q) (hoA : ¬ A oa) (hV : CV e0 g S) (hZ : ZR S) (hPP : NPK S) (p0 p1 : Int32) : vx_Met l yL_award wsL_award ({ frames := 9, cells := 6, slots := 326, locals := 240 } : Room) (va_Pc [.ref (ga g 18 0), .int p0, .int p1, .ref oa] (LPw A D cy g S e0 mi n0 oa)) (va_Qi (fun (r : Int32) (g1 : CWt) => r = mp13 (fX7_award S p0 p1).2.1 ∧ LG A g e0 g1 (fX7_award S p0 p1).2.2) (fun g1 t => CH D cy g1 (fX7_award S p0 p1).2.2 t.heap ∧ ∃ v, at1 D oa (LA cy v) t.heap ∧ ((fX7_award S p0 p1).2.1 = 0 → v = ((fX7_award S p0 p1).1.toInt64))) (fun q => A q ∨ q = oa)) LF 6 326 (fun q => A q ∨ q = oa) := by
  refine vx_ofWH (cc := cL_award) (maxL := 5) (ret := (some .int)) (hh := [(0, 10, 13, 13), (0, 10, 17, 17)]) (by decide) rfl ?_
  intro p e s m args below meth c s₁ B hml hv
  obtain ⟨rfl, ⟨⟨⟨hM, hK⟩, hJ⟩, hX, hO, hn0⟩, hNc, v0, hOut⟩ := hv
  have hx := B.exec
  have hb := B.bytes
  have hr := B.returns
  have hts := atoms_spec (ws := wsL_award) B.pre
  have hown : s.vm.findClass RL = some m.cls := findClass_of_methodNamed B.named
  have hct := vx_table (p := p) (x := yL_award) B (hts (.codeWith yL_award cL_award 5 (some .int) [(0, 10, 13, 13), (0, 10, 17, 17)]) List.mem_cons_self)
  have hC : CC p s m _ c cL_award 5 RL D cy wsL_award := ⟨⟨hx, hb, hml, hown, hts⟩, hK⟩
  have hI : CI A D cy g s S s.heap [] := ⟨hM, va_S.rf⟩
  have hS : va_S (fun q => A q ∨ q = oa) s.heap s.heap [] := va_S.rf
  have k_13 := hts (.classLink RL 13 "java/lang/IndexOutOfBoundsException") (List.mem_cons_of_mem _ (List.mem_append_left _ (List.mem_append_left _ (List.mem_append_left _ (List.mem_append_left _ (List.mem_append_left _ (List.mem_append_left _ (List.mem_of_getElem? (i := 0) rfl))))))))
  have k_17 := hts (.classLink RL 17 "java/lang/IllegalStateException") (List.mem_cons_of_mem _ (List.mem_append_left _ (List.mem_append_left _ (List.mem_append_left _ (List.mem_append_left _ (List.mem_append_left _ (List.mem_append_left _ (List.mem_of_getElem? (i := 1) rfl))))))))
  have hl := lv_entry ([.ref (ga g 18 0), .int p0, .int p1, .ref oa]) (n := 5) (Nat.le_of_ble_eq_true rfl)
  rw [lg_entry_eq]
  generalize (lg_sl ([.ref (ga g 18 0), .int p0, .int p1, .ref oa]) ++ List.replicate (5 - (lg_sl ([.ref (ga g 18 0), .int p0, .int p1, .ref oa])).length) Slot.unset).toArray = ls at hl ⊢
  have hl : lv_has ls 5 [(0, .ref (ga g 18 0)), (1, .int p0), (2, .int p1), (3, .ref oa)] := hl
  refine lv_aload_n hx hb dL_award_0 rfl (lv_at hl 3 rfl) ?_
  refine lv_iconst (v := 0) hx hb dL_award_1 (by decide) ?_
  refine lv_aload_n hx hb dL_award_2 rfl (lv_at hl 0 rfl) ?_
  refine lv_iload_n hx hb dL_award_3 rfl (lv_at hl 1 rfl) ?_
  refine lv_iload_n hx hb dL_award_4 rfl (lv_at hl 2 rfl) ?_
  refine vx_calli (vx_runV (As := [.int p0, .int p1]) (rest := [.int 0, .ref oa]) hC.1 (qX7_award l hfl A D cy g hL S e0 hV p0 p1) (cwV 2 hts gL_award_X7_award rfl rfl rfl (by decide +kernel) ⟨Nat.le_of_ble_eq_true rfl, Nat.le_of_ble_eq_true rfl⟩) ⟨CTh_blind, cr_recv (ci := 8) hC.2 hI 18 0 rfl rfl rfl, fun U hU hW => ⟨rfl, ⟨by rw [hU]; exact hM, va_K.moved hW.alike hK⟩, by rw [hU]; exact JT.warm hW hJ⟩⟩ rfl rfl hl.1 rfl (lv_room (Nat.le_of_ble_eq_true rfl)) dL_award_5 ⟨Nat.le_of_ble_eq_true rfl, Nat.le_of_ble_eq_true rfl⟩) hS (fun q _ h => Or.inl h) (fun q h => Or.inl h) (fun q _ h => Or.inl h) (fun E ce q9 u t H1 locs1 ht hvm hp hE hz1 hk1 hS1 hce hcv hcl => ?_) (fun r u t H1 locs1 ht hvm hp hB hz1 hk1 hS1 => ?_)
  · obtain ⟨hE, hM1⟩ := hE
    rw [ht] at hM1
    have hOut1 : at1 D oa (LA cy v0) H1 := hOut.kept (hk1 oa hOut.lt hoA)
    obtain ⟨hc7, hs7⟩ := c7_award S p0 p1
    have hS2 := hs7 hp
    rcases hc7 with h0 | h0 | h0
    · exact absurd h0 hp
    · have hE : E = "java/lang/IndexOutOfBoundsException" := hE.trans (by rw [h0]; rfl)
      subst hE
      refine vx_catch hown [] ⟨0, 10, 13, 13⟩ [⟨0, 10, 17, 17⟩] (by rw [hct]; rfl) (fun _ hz => absurd hz List.not_mem_nil) rfl (by decide) k_13 (va_Nw.use (jwl_tab _ (List.mem_of_getElem? (i := 0) rfl)) (hJ.2.2.2 _ (List.mem_of_getElem? (i := 0) rfl))) hce hcv hcl ?_
      refine lv_astore (lv' := [(4, .ref q9), (0, .ref (ga g 18 0)), (1, .int p0), (2, .int p1), (3, .ref oa)]) hx hb dL_award_13 hl (by decide) rfl (fun ls hl => ?_)
      refine lv_iconst (v := 1) hx hb dL_award_15 (by decide) ?_
      refine vx_ret ?_
      refine W.widen (k := 6) (n := 326) (Nat.le_of_ble_eq_true rfl) (Nat.le_of_ble_eq_true rfl) ?_
      exact W.iret (v := 1) hx hb hr (fun t9 ht9 hW9 => ⟨⟨1, g, rfl, ⟨by rw [h0]; rfl, hL, hV.1, by rw [hS2]; exact hV.2.1, rfl⟩, ⟨by rw [ht9, hS2]; exact hM1, v0, by rw [ht9]; exact hOut1, fun q => absurd q hp⟩⟩, hS1.F ht9⟩) hS1.2.2 dL_award_16
    · have hE : E = "java/lang/IllegalStateException" := hE.trans (by rw [h0]; rfl)
      subst hE
      refine vx_catch hown [⟨0, 10, 13, 13⟩] ⟨0, 10, 17, 17⟩ [] (by rw [hct]; rfl) (List.forall_mem_cons.mpr ⟨Or.inr ⟨by decide, _, k_13, hNc.2.1⟩, fun _ hz => absurd hz List.not_mem_nil⟩) rfl (by decide) k_17 (va_Nw.use (jwl_tab _ (List.mem_of_getElem? (i := 2) rfl)) (hJ.2.2.2 _ (List.mem_of_getElem? (i := 2) rfl))) hce hcv hcl ?_
      refine lv_astore (lv' := [(4, .ref q9), (0, .ref (ga g 18 0)), (1, .int p0), (2, .int p1), (3, .ref oa)]) hx hb dL_award_17 hl (by decide) rfl (fun ls hl => ?_)
      refine lv_iconst (v := 2) hx hb dL_award_19 (by decide) ?_
      refine vx_ret ?_
      refine W.widen (k := 6) (n := 326) (Nat.le_of_ble_eq_true rfl) (Nat.le_of_ble_eq_true rfl) ?_
      exact W.iret (v := 2) hx hb hr (fun t9 ht9 hW9 => ⟨⟨2, g, rfl, ⟨by rw [h0]; rfl, hL, hV.1, by rw [hS2]; exact hV.2.1, rfl⟩, ⟨by rw [ht9, hS2]; exact hM1, v0, by rw [ht9]; exact hOut1, fun q => absurd q hp⟩⟩, hS1.F ht9⟩) hS1.2.2 dL_award_20
  · rw [ht] at hB
    have hOut1 : at1 D oa (LA cy v0) H1 := hOut.kept (hk1 oa hOut.lt hoA)
    obtain ⟨hp0, hr1⟩ := hp
    refine lv_i2l hx hb dL_award_8 rfl ?_
    refine lw_put (x := r.toInt64) hx hb hK hOut1 dL_award_9 (fun H2 j hO2 hz2 oq2 => ?_)
    have hS2 := S_put j hS1 hz2 oq2 (Or.inr rfl)
    refine lv_goto (tgt := 21) hx hb dL_award_10 (by decide) ?_
    refine lv_iconst (v := 0) hx hb dL_award_21 (by decide) ?_
    refine vx_ret ?_
    refine W.widen (k := 6) (n := 326) (Nat.le_of_ble_eq_true rfl) (Nat.le_of_ble_eq_true rfl) ?_
    exact W.iret (v := 0) hx hb hr (fun t9 ht9 hW9 => ⟨⟨0, g, rfl, ⟨by rw [hp0]; rfl, hL, hV.1, (k7_award S p0 p1).ct hV.2.1, rfl⟩, ⟨by rw [ht9]; exact hB.off hL hoA oq2, r.toInt64, by rw [ht9]; exact hO2, fun _ => by rw [hr1]⟩⟩, hS2.F ht9⟩) hS2.2.2 dL_award_22
set_option maxHeartbeats 4000000 in
set_option maxRecDepth 100000 in
theorem qL_pass (l : Launch) (hfl : l.stackTraces = false) (A : Nat → Prop) (D : va_G) (cy : Nat → ClassId) (g : CWt) (hL : CL A g) (S : St) (e0 mi n0 oa : Nat) (hA : ∀ q, n0 ≤ q → A q) (hoA : ¬ A oa) (hV : CV e0 g S) (hZ : ZR S) (hPP : NPK S) (p0 : Int32) : vx_Met l yL_pass wsL_pass ({ frames := 9, cells := 6, slots := 326, locals := 240 } : Room) (va_Pc [.ref (ga g 18 0), .int p0, .ref oa] (LPw A D cy g S e0 mi n0 oa)) (va_Qi (fun (r : Int32) (g1 : CWt) => r = mp23 (fX7_pass S p0).2.1 ∧ LG A g e0 g1 (fX7_pass S p0).2.2) (fun g1 t => CH D cy g1 (fX7_pass S p0).2.2 t.heap ∧ ∃ v, at1 D oa (LA cy v) t.heap ∧ ((fX7_pass S p0).2.1 = 0 → v = ((fX7_pass S p0).1.toInt64))) (fun q => A q ∨ q = oa)) LF 6 326 (fun q => A q ∨ q = oa) := by
  refine vx_ofWH (cc := cL_pass) (maxL := 4) (ret := (some .int)) (hh := [(0, 9, 12, 15), (0, 9, 15, 17)]) (by decide) rfl ?_
  intro p e s m args below meth c s₁ B hml hv
  obtain ⟨rfl, ⟨⟨⟨hM, hK⟩, hJ⟩, hX, hO, hn0⟩, hNc, v0, hOut⟩ := hv
  have hx := B.exec
  have hb := B.bytes
  have hr := B.returns
  have hts := atoms_spec (ws := wsL_pass) B.pre
  have hown : s.vm.findClass RL = some m.cls := findClass_of_methodNamed B.named
  have hct := vx_table (p := p) (x := yL_pass) B (hts (.codeWith yL_pass cL_pass 4 (some .int) [(0, 9, 12, 15), (0, 9, 15, 17)]) List.mem_cons_self)
  have hC : CC p s m _ c cL_pass 4 RL D cy wsL_pass := ⟨⟨hx, hb, hml, hown, hts⟩, hK⟩
  have hI : CI A D cy g s S s.heap [] := ⟨hM, va_S.rf⟩
  have hS : va_S (fun q => A q ∨ q = oa) s.heap s.heap [] := va_S.rf
  have k_15 := hts (.classLink RL 15 "java/lang/IllegalArgumentException") (List.mem_cons_of_mem _ (List.mem_append_left _ (List.mem_append_left _ (List.mem_append_left _ (List.mem_of_getElem? (i := 0) rfl)))))
  have k_17 := hts (.classLink RL 17 "java/lang/IllegalStateException") (List.mem_cons_of_mem _ (List.mem_append_left _ (List.mem_append_left _ (List.mem_append_left _ (List.mem_of_getElem? (i := 1) rfl)))))
  have hl := lv_entry ([.ref (ga g 18 0), .int p0, .ref oa]) (n := 4) (Nat.le_of_ble_eq_true rfl)
  rw [lg_entry_eq]
  generalize (lg_sl ([.ref (ga g 18 0), .int p0, .ref oa]) ++ List.replicate (4 - (lg_sl ([.ref (ga g 18 0), .int p0, .ref oa])).length) Slot.unset).toArray = ls at hl ⊢
  have hl : lv_has ls 4 [(0, .ref (ga g 18 0)), (1, .int p0), (2, .ref oa)] := hl
  refine lv_aload_n hx hb dL_pass_0 rfl (lv_at hl 2 rfl) ?_
  refine lv_iconst (v := 0) hx hb dL_pass_1 (by decide) ?_
  refine lv_aload_n hx hb dL_pass_2 rfl (lv_at hl 0 rfl) ?_
  refine lv_iload_n hx hb dL_pass_3 rfl (lv_at hl 1 rfl) ?_
  refine vx_calli (vx_runV (As := [.int p0]) (rest := [.int 0, .ref oa]) hC.1 (qX7_pass l hfl A D cy g hL S e0 hV p0) (cwV 1 hts gL_pass_X7_pass rfl rfl rfl (by decide +kernel) ⟨Nat.le_of_ble_eq_true rfl, Nat.le_of_ble_eq_true rfl⟩) ⟨CTh_blind, cr_recv (ci := 8) hC.2 hI 18 0 rfl rfl rfl, fun U hU hW => ⟨rfl, ⟨by rw [hU]; exact hM, va_K.moved hW.alike hK⟩, by rw [hU]; exact JT.warm hW hJ⟩⟩ rfl rfl hl.1 rfl (lv_room (Nat.le_of_ble_eq_true rfl)) dL_pass_4 ⟨Nat.le_of_ble_eq_true rfl, Nat.le_of_ble_eq_true rfl⟩) hS (fun q _ h => Or.inl h) (fun q h => Or.inl h) (fun q _ h => Or.inl h) (fun E ce q9 u t H1 locs1 ht hvm hp hE hz1 hk1 hS1 hce hcv hcl => ?_) (fun r u t H1 locs1 ht hvm hp hB hz1 hk1 hS1 => ?_)
  · obtain ⟨hE, hM1⟩ := hE
    rw [ht] at hM1
    have hOut1 : at1 D oa (LA cy v0) H1 := hOut.kept (hk1 oa hOut.lt hoA)
    obtain ⟨hc7, hs7⟩ := c7_pass S p0
    have hS2 := hs7 hp
    rcases hc7 with h0 | h0 | h0
    · exact absurd h0 hp
    · have hE : E = "java/lang/IllegalArgumentException" := hE.trans (by rw [h0]; rfl)
      subst hE
      refine vx_catch hown [] ⟨0, 9, 12, 15⟩ [⟨0, 9, 15, 17⟩] (by rw [hct]; rfl) (fun _ hz => absurd hz List.not_mem_nil) rfl (by decide) k_15 (va_Nw.use (jwl_tab _ (List.mem_of_getElem? (i := 1) rfl)) (hJ.2.2.2 _ (List.mem_of_getElem? (i := 1) rfl))) hce hcv hcl ?_
      refine lv_astore_n (lv' := [(3, .ref q9), (0, .ref (ga g 18 0)), (1, .int p0), (2, .ref oa)]) hx hb dL_pass_12 rfl hl (by decide) rfl (fun ls hl => ?_)
      refine lv_iconst (v := 1) hx hb dL_pass_13 (by decide) ?_
      refine vx_ret ?_
      refine W.widen (k := 6) (n := 326) (Nat.le_of_ble_eq_true rfl) (Nat.le_of_ble_eq_true rfl) ?_
      exact W.iret (v := 1) hx hb hr (fun t9 ht9 hW9 => ⟨⟨1, g, rfl, ⟨by rw [h0]; rfl, hL, hV.1, by rw [hS2]; exact hV.2.1, rfl⟩, ⟨by rw [ht9, hS2]; exact hM1, v0, by rw [ht9]; exact hOut1, fun q => absurd q hp⟩⟩, hS1.F ht9⟩) hS1.2.2 dL_pass_14
    · have hE : E = "java/lang/IllegalStateException" := hE.trans (by rw [h0]; rfl)
      subst hE
      refine vx_catch hown [⟨0, 9, 12, 15⟩] ⟨0, 9, 15, 17⟩ [] (by rw [hct]; rfl) (List.forall_mem_cons.mpr ⟨Or.inr ⟨by decide, _, k_15, hNc.2.2⟩, fun _ hz => absurd hz List.not_mem_nil⟩) rfl (by decide) k_17 (va_Nw.use (jwl_tab _ (List.mem_of_getElem? (i := 2) rfl)) (hJ.2.2.2 _ (List.mem_of_getElem? (i := 2) rfl))) hce hcv hcl ?_
      refine lv_astore_n (lv' := [(3, .ref q9), (0, .ref (ga g 18 0)), (1, .int p0), (2, .ref oa)]) hx hb dL_pass_15 rfl hl (by decide) rfl (fun ls hl => ?_)
      refine lv_iconst (v := 2) hx hb dL_pass_16 (by decide) ?_
      refine vx_ret ?_
      refine W.widen (k := 6) (n := 326) (Nat.le_of_ble_eq_true rfl) (Nat.le_of_ble_eq_true rfl) ?_
      exact W.iret (v := 2) hx hb hr (fun t9 ht9 hW9 => ⟨⟨2, g, rfl, ⟨by rw [h0]; rfl, hL, hV.1, by rw [hS2]; exact hV.2.1, rfl⟩, ⟨by rw [ht9, hS2]; exact hM1, v0, by rw [ht9]; exact hOut1, fun q => absurd q hp⟩⟩, hS1.F ht9⟩) hS1.2.2 dL_pass_17
  · rw [ht] at hB
    have hOut1 : at1 D oa (LA cy v0) H1 := hOut.kept (hk1 oa hOut.lt hoA)
    obtain ⟨hp0, hr1⟩ := hp
    refine lv_i2l hx hb dL_pass_7 rfl ?_
    refine lw_put (x := r.toInt64) hx hb hK hOut1 dL_pass_8 (fun H2 j hO2 hz2 oq2 => ?_)
    have hS2 := S_put j hS1 hz2 oq2 (Or.inr rfl)
    refine lv_goto (tgt := 18) hx hb dL_pass_9 (by decide) ?_
    refine lv_iconst (v := 0) hx hb dL_pass_18 (by decide) ?_
    refine vx_ret ?_
    refine W.widen (k := 6) (n := 326) (Nat.le_of_ble_eq_true rfl) (Nat.le_of_ble_eq_true rfl) ?_
    exact W.iret (v := 0) hx hb hr (fun t9 ht9 hW9 => ⟨⟨0, g, rfl, ⟨by rw [hp0]; rfl, hL, hV.1, (k7_pass S p0).ct hV.2.1, rfl⟩, ⟨by rw [ht9]; exact hB.off hL hoA oq2, r.toInt64, by rw [ht9]; exact hO2, fun _ => by rw [hr1]⟩⟩, hS2.F ht9⟩) hS2.2.2 dL_pass_19
