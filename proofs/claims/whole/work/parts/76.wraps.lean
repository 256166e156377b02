/-! the law's wrappers, walked -/
set_option maxHeartbeats 4000000 in
set_option maxRecDepth 100000 in
theorem qL_fund (l : Launch) (hfl : l.stackTraces = false) (A : Nat → Prop) (D : va_G) (cy : Nat → ClassId) (g : CWt) (hL : CL A g) (S : St) (e0 mi n0 oa : Nat) (hA : ∀ q, n0 ≤ q → A q) (hoA : ¬ A oa) (hV : CV e0 g S) (hZ : ZR S) (hPP : NPK S) (p0 p1 : Int32) : vx_Met l yL_fund wsL_fund ({ frames := 9, cells := 6, slots := 326, locals := 240 } : Room) (va_Pc [.ref (ga g 18 0), .int p0, .int p1, .ref oa] (LPw A D cy g S e0 mi n0 oa)) (va_Qi (fun (r : Int32) (g1 : CWt) => r = mp3 (fX7_fund S p0 p1).2.1 ∧ LG A g e0 g1 (fX7_fund S p0 p1).2.2) (fun g1 t => CH D cy g1 (fX7_fund S p0 p1).2.2 t.heap ∧ ∃ v, at1 D oa (LA cy v) t.heap ∧ ((fX7_fund S p0 p1).2.1 = 0 → v = ((fX7_fund S p0 p1).1.toInt64))) (fun q => A q ∨ q = oa)) LF 6 326 (fun q => A q ∨ q = oa) := by
  refine vx_ofWH (cc := cL_fund) (maxL := 5) (ret := (some .int)) (hh := [(0, 10, 13, 13), (0, 10, 17, 15), (0, 10, 21, 17)]) (by decide) rfl ?_
  intro p e s m args below meth c s₁ B hml hv
  obtain ⟨rfl, ⟨⟨⟨hM, hK⟩, hJ⟩, hX, hO, hn0⟩, hNc, v0, hOut⟩ := hv
  have hx := B.exec
  have hb := B.bytes
  have hr := B.returns
  have hts := atoms_spec (ws := wsL_fund) B.pre
  have hown : s.vm.findClass RL = some m.cls := findClass_of_methodNamed B.named
  have hct := vx_table (p := p) (x := yL_fund) B (hts (.codeWith yL_fund cL_fund 5 (some .int) [(0, 10, 13, 13), (0, 10, 17, 15), (0, 10, 21, 17)]) List.mem_cons_self)
  have hC : CC p s m _ c cL_fund 5 RL D cy wsL_fund := ⟨⟨hx, hb, hml, hown, hts⟩, hK⟩
  have hI : CI A D cy g s S s.heap [] := ⟨hM, va_S.rf⟩
  have hS : va_S (fun q => A q ∨ q = oa) s.heap s.heap [] := va_S.rf
  have k_13 := hts (.classLink RL 13 "java/lang/IndexOutOfBoundsException") (List.mem_cons_of_mem _ (List.mem_append_left _ (List.mem_append_left _ (List.mem_append_left _ (List.mem_append_left _ (List.mem_append_left _ (List.mem_append_left _ (List.mem_of_getElem? (i := 0) rfl))))))))
  have k_15 := hts (.classLink RL 15 "java/lang/IllegalArgumentException") (List.mem_cons_of_mem _ (List.mem_append_left _ (List.mem_append_left _ (List.mem_append_left _ (List.mem_append_left _ (List.mem_append_left _ (List.mem_append_left _ (List.mem_of_getElem? (i := 1) rfl))))))))
  have k_17 := hts (.classLink RL 17 "java/lang/IllegalStateException") (List.mem_cons_of_mem _ (List.mem_append_left _ (List.mem_append_left _ (List.mem_append_left _ (List.mem_append_left _ (List.mem_append_left _ (List.mem_append_left _ (List.mem_of_getElem? (i := 2) rfl))))))))
  have hl := lv_entry ([.ref (ga g 18 0), .int p0, .int p1, .ref oa]) (n := 5) (Nat.le_of_ble_eq_true rfl)
  rw [lg_entry_eq]
  generalize (lg_sl ([.ref (ga g 18 0), .int p0, .int p1, .ref oa]) ++ List.replicate (5 - (lg_sl ([.ref (ga g 18 0), .int p0, .int p1, .ref oa])).length) Slot.unset).toArray = ls at hl ⊢
  have hl : lv_has ls 5 [(0, .ref (ga g 18 0)), (1, .int p0), (2, .int p1), (3, .ref oa)] := hl
  refine lv_aload_n hx hb dL_fund_0 rfl (lv_at hl 3 rfl) ?_
  refine lv_iconst (v := 0) hx hb dL_fund_1 (by decide) ?_
  refine lv_aload_n hx hb dL_fund_2 rfl (lv_at hl 0 rfl) ?_
  refine lv_iload_n hx hb dL_fund_3 rfl (lv_at hl 1 rfl) ?_
  refine lv_iload_n hx hb dL_fund_4 rfl (lv_at hl 2 rfl) ?_
  refine vx_calli (vx_runV (As := [.int p0, .int p1]) (rest := [.int 0, .ref oa]) hC.1 (qX7_fund l hfl A D cy g hL S e0 hV p0 p1) (cwV 2 hts gL_fund_X7_fund rfl rfl rfl (by decide +kernel) ⟨Nat.le_of_ble_eq_true rfl, Nat.le_of_ble_eq_true rfl⟩) ⟨CTh_blind, cr_recv (ci := 8) hC.2 hI 18 0 rfl rfl rfl, fun U hU hW => ⟨rfl, ⟨by rw [hU]; exact hM, va_K.moved hW.alike hK⟩, by rw [hU]; exact JT.warm hW hJ⟩⟩ rfl rfl hl.1 rfl (lv_room (Nat.le_of_ble_eq_true rfl)) dL_fund_5 ⟨Nat.le_of_ble_eq_true rfl, Nat.le_of_ble_eq_true rfl⟩) hS (fun q _ h => Or.inl h) (fun q h => Or.inl h) (fun q _ h => Or.inl h) (fun E ce q9 u t H1 locs1 ht hvm hp hE hz1 hk1 hS1 hce hcv hcl => ?_) (fun r u t H1 locs1 ht hvm hp hB hz1 hk1 hS1 => ?_)
  · obtain ⟨hE, hM1⟩ := hE
    rw [ht] at hM1
    have hOut1 : at1 D oa (LA cy v0) H1 := hOut.kept (hk1 oa hOut.lt hoA)
    obtain ⟨hc7, hs7⟩ := c7_fund S p0 p1
    have hS2 := hs7 hp
    rcases hc7 with h0 | h0 | h0 | h0
    · exact absurd h0 hp
    · have hE : E = "java/lang/IndexOutOfBoundsException" := hE.trans (by rw [h0]; rfl)
      subst hE
      refine vx_catch hown [] ⟨0, 10, 13, 13⟩ [⟨0, 10, 17, 15⟩, ⟨0, 10, 21, 17⟩] (by rw [hct]; rfl) (fun _ hz => absurd hz List.not_mem_nil) rfl (by decide) k_13 (va_Nw.use (jwl_tab _ (List.mem_of_getElem? (i := 0) rfl)) (hJ.2.2.2 _ (List.mem_of_getElem? (i := 0) rfl))) hce hcv hcl ?_
      refine lv_astore (lv' := [(4, .ref q9), (0, .ref (ga g 18 0)), (1, .int p0), (2, .int p1), (3, .ref oa)]) hx hb dL_fund_13 hl (by decide) rfl (fun ls hl => ?_)
      refine lv_iconst (v := 1) hx hb dL_fund_15 (by decide) ?_
      refine vx_ret ?_
      refine W.widen (k := 6) (n := 326) (Nat.le_of_ble_eq_true rfl) (Nat.le_of_ble_eq_true rfl) ?_
      exact W.iret (v := 1) hx hb hr (fun t9 ht9 hW9 => ⟨⟨1, g, rfl, ⟨by rw [h0]; rfl, hL, hV.1, by rw [hS2]; exact hV.2.1, rfl⟩, ⟨by rw [ht9, hS2]; exact hM1, v0, by rw [ht9]; exact hOut1, fun q => absurd q hp⟩⟩, hS1.F ht9⟩) hS1.2.2 dL_fund_16
    · have hE : E = "java/lang/IllegalArgumentException" := hE.trans (by rw [h0]; rfl)
      subst hE
      refine vx_catch hown [⟨0, 10, 13, 13⟩] ⟨0, 10, 17, 15⟩ [⟨0, 10, 21, 17⟩] (by rw [hct]; rfl) (List.forall_mem_cons.mpr ⟨Or.inr ⟨by decide, _, k_13, hNc.1⟩, fun _ hz => absurd hz List.not_mem_nil⟩) rfl (by decide) k_15 (va_Nw.use (jwl_tab _ (List.mem_of_getElem? (i := 1) rfl)) (hJ.2.2.2 _ (List.mem_of_getElem? (i := 1) rfl))) hce hcv hcl ?_
      refine lv_astore (lv' := [(4, .ref q9), (0, .ref (ga g 18 0)), (1, .int p0), (2, .int p1), (3, .ref oa)]) hx hb dL_fund_17 hl (by decide) rfl (fun ls hl => ?_)
      refine lv_iconst (v := 2) hx hb dL_fund_19 (by decide) ?_
      refine vx_ret ?_
      refine W.widen (k := 6) (n := 326) (Nat.le_of_ble_eq_true rfl) (Nat.le_of_ble_eq_true rfl) ?_
      exact W.iret (v := 2) hx hb hr (fun t9 ht9 hW9 => ⟨⟨2, g, rfl, ⟨by rw [h0]; rfl, hL, hV.1, by rw [hS2]; exact hV.2.1, rfl⟩, ⟨by rw [ht9, hS2]; exact hM1, v0, by rw [ht9]; exact hOut1, fun q => absurd q hp⟩⟩, hS1.F ht9⟩) hS1.2.2 dL_fund_20
    · have hE : E = "java/lang/IllegalStateException" := hE.trans (by rw [h0]; rfl)
      subst hE
      refine vx_catch hown [⟨0, 10, 13, 13⟩, ⟨0, 10, 17, 15⟩] ⟨0, 10, 21, 17⟩ [] (by rw [hct]; rfl) (List.forall_mem_cons.mpr ⟨Or.inr ⟨by decide, _, k_13, hNc.2.1⟩, List.forall_mem_cons.mpr ⟨Or.inr ⟨by decide, _, k_15, hNc.2.2⟩, fun _ hz => absurd hz List.not_mem_nil⟩⟩) rfl (by decide) k_17 (va_Nw.use (jwl_tab _ (List.mem_of_getElem? (i := 2) rfl)) (hJ.2.2.2 _ (List.mem_of_getElem? (i := 2) rfl))) hce hcv hcl ?_
      refine lv_astore (lv' := [(4, .ref q9), (0, .ref (ga g 18 0)), (1, .int p0), (2, .int p1), (3, .ref oa)]) hx hb dL_fund_21 hl (by decide) rfl (fun ls hl => ?_)
      refine lv_iconst (v := 3) hx hb dL_fund_23 (by decide) ?_
      refine vx_ret ?_
      refine W.widen (k := 6) (n := 326) (Nat.le_of_ble_eq_true rfl) (Nat.le_of_ble_eq_true rfl) ?_
      exact W.iret (v := 3) hx hb hr (fun t9 ht9 hW9 => ⟨⟨3, g, rfl, ⟨by rw [h0]; rfl, hL, hV.1, by rw [hS2]; exact hV.2.1, rfl⟩, ⟨by rw [ht9, hS2]; exact hM1, v0, by rw [ht9]; exact hOut1, fun q => absurd q hp⟩⟩, hS1.F ht9⟩) hS1.2.2 dL_fund_24
  · rw [ht] at hB
    have hOut1 : at1 D oa (LA cy v0) H1 := hOut.kept (hk1 oa hOut.lt hoA)
    obtain ⟨hp0, hr1⟩ := hp
    refine lv_i2l hx hb dL_fund_8 rfl ?_
    refine lw_put (x := r.toInt64) hx hb hK hOut1 dL_fund_9 (fun H2 j hO2 hz2 oq2 => ?_)
    have hS2 := S_put j hS1 hz2 oq2 (Or.inr rfl)
    refine lv_goto (tgt := 25) hx hb dL_fund_10 (by decide) ?_
    refine lv_iconst (v := 0) hx hb dL_fund_25 (by decide) ?_
    refine vx_ret ?_
    refine W.widen (k := 6) (n := 326) (Nat.le_of_ble_eq_true rfl) (Nat.le_of_ble_eq_true rfl) ?_
    exact W.iret (v := 0) hx hb hr (fun t9 ht9 hW9 => ⟨⟨0, g, rfl, ⟨by rw [hp0]; rfl, hL, hV.1, (k7_fund S p0 p1).ct hV.2.1, rfl⟩, ⟨by rw [ht9]; exact hB.off hL hoA oq2, r.toInt64, by rw [ht9]; exact hO2, fun _ => by rw [hr1]⟩⟩, hS2.F ht9⟩) hS2.2.2 dL_fund_26
set_option maxHeartbeats 4000000 in
set_option maxRecDepth 100000 in
theorem qL_scheme (l : Launch) (hfl : l.stackTraces = false) (A : Nat → Prop) (D : va_G) (cy : Nat → ClassId) (g : CWt) (hL : CL A g) (S : St) (e0 mi n0 oa : Nat) (hA : ∀ q, n0 ≤ q → A q) (hoA : ¬ A oa) (hV : CV e0 g S) (hZ : ZR S) (hPP : NPK S) (p0 p1 p2 : Int32) : vx_Met l yL_scheme wsL_scheme ({ frames := 9, cells := 6, slots := 326, locals := 240 } : Room) (va_Pc [.ref (ga g 18 0), .int p0, .int p1, .int p2, .ref oa] (LPw A D cy g S e0 mi n0 oa)) (va_Qi (fun (r : Int32) (g1 : CWt) => r = mp3 (fX7_scheme S p0 p1 p2).2.1 ∧ LG A g e0 g1 (fX7_scheme S p0 p1 p2).2.2) (fun g1 t => CH D cy g1 (fX7_scheme S p0 p1 p2).2.2 t.heap ∧ ∃ v, at1 D oa (LA cy v) t.heap ∧ ((fX7_scheme S p0 p1 p2).2.1 = 0 → v = ((fX7_scheme S p0 p1 p2).1.toInt64))) (fun q => A q ∨ q = oa)) LF 6 326 (fun q => A q ∨ q = oa) := by
  refine vx_ofWH (cc := cL_scheme) (maxL := 6) (ret := (some .int)) (hh := [(0, 12, 15, 13), (0, 12, 19, 15), (0, 12, 23, 17)]) (by decide) rfl ?_
  intro p e s m args below meth c s₁ B hml hv
  obtain ⟨rfl, ⟨⟨⟨hM, hK⟩, hJ⟩, hX, hO, hn0⟩, hNc, v0, hOut⟩ := hv
  have hx := B.exec
  have hb := B.bytes
  have hr := B.returns
  have hts := atoms_spec (ws := wsL_scheme) B.pre
  have hown : s.vm.findClass RL = some m.cls := findClass_of_methodNamed B.named
  have hct := vx_table (p := p) (x := yL_scheme) B (hts (.codeWith yL_scheme cL_scheme 6 (some .int) [(0, 12, 15, 13), (0, 12, 19, 15), (0, 12, 23, 17)]) List.mem_cons_self)
  have hC : CC p s m _ c cL_scheme 6 RL D cy wsL_scheme := ⟨⟨hx, hb, hml, hown, hts⟩, hK⟩
  have hI : CI A D cy g s S s.heap [] := ⟨hM, va_S.rf⟩
  have hS : va_S (fun q => A q ∨ q = oa) s.heap s.heap [] := va_S.rf
  have k_13 := hts (.classLink RL 13 "java/lang/IndexOutOfBoundsException") (List.mem_cons_of_mem _ (List.mem_append_left _ (List.mem_append_left _ (List.mem_append_left _ (List.mem_append_left _ (List.mem_append_left _ (List.mem_append_left _ (List.mem_append_left _ (List.mem_of_getElem? (i := 0) rfl)))))))))
  have k_15 := hts (.classLink RL 15 "java/lang/IllegalArgumentException") (List.mem_cons_of_mem _ (List.mem_append_left _ (List.mem_append_left _ (List.mem_append_left _ (List.mem_append_left _ (List.mem_append_left _ (List.mem_append_left _ (List.mem_append_left _ (List.mem_of_getElem? (i := 1) rfl)))))))))
  have k_17 := hts (.classLink RL 17 "java/lang/IllegalStateException") (List.mem_cons_of_mem _ (List.mem_append_left _ (List.mem_append_left _ (List.mem_append_left _ (List.mem_append_left _ (List.mem_append_left _ (List.mem_append_left _ (List.mem_append_left _ (List.mem_of_getElem? (i := 2) rfl)))))))))
  have hl := lv_entry ([.ref (ga g 18 0), .int p0, .int p1, .int p2, .ref oa]) (n := 6) (Nat.le_of_ble_eq_true rfl)
  rw [lg_entry_eq]
  generalize (lg_sl ([.ref (ga g 18 0), .int p0, .int p1, .int p2, .ref oa]) ++ List.replicate (6 - (lg_sl ([.ref (ga g 18 0), .int p0, .int p1, .int p2, .ref oa])).length) Slot.unset).toArray = ls at hl ⊢
  have hl : lv_has ls 6 [(0, .ref (ga g 18 0)), (1, .int p0), (2, .int p1), (3, .int p2), (4, .ref oa)] := hl
  refine lv_aload hx hb dL_scheme_0 (lv_at hl 4 rfl) ?_
  refine lv_iconst (v := 0) hx hb dL_scheme_2 (by decide) ?_
  refine lv_aload_n hx hb dL_scheme_3 rfl (lv_at hl 0 rfl) ?_
  refine lv_iload_n hx hb dL_scheme_4 rfl (lv_at hl 1 rfl) ?_
  refine lv_iload_n hx hb dL_scheme_5 rfl (lv_at hl 2 rfl) ?_
  refine lv_iload_n hx hb dL_scheme_6 rfl (lv_at hl 3 rfl) ?_
  refine vx_calli (vx_runV (As := [.int p0, .int p1, .int p2]) (rest := [.int 0, .ref oa]) hC.1 (qX7_scheme l hfl A D cy g hL S e0 mi n0 hA hV hZ p0 p1 p2) (cwV 3 hts gL_scheme_X7_scheme rfl rfl rfl (by decide +kernel) ⟨Nat.le_of_ble_eq_true rfl, Nat.le_of_ble_eq_true rfl⟩) ⟨LM_blind, cr_recv (ci := 8) hC.2 hI 18 0 rfl rfl rfl, fun U hU hW => ⟨rfl, ⟨⟨by rw [hU]; exact hM, va_K.moved hW.alike hK⟩, by rw [hU]; exact JT.warm hW hJ⟩, by rw [hU]; exact JX.moved hW.alike hX, JO.warm hW hO, by rw [hU]; exact hn0⟩⟩ rfl rfl hl.1 rfl (lv_room (Nat.le_of_ble_eq_true rfl)) dL_scheme_7 ⟨Nat.le_of_ble_eq_true rfl, Nat.le_of_ble_eq_true rfl⟩) hS (fun q _ h => Or.inl h) (fun q h => Or.inl h) (fun q _ h => Or.inl h) (fun E ce q9 u t H1 locs1 ht hvm hp hE hz1 hk1 hS1 hce hcv hcl => ?_) (fun r u t H1 locs1 ht hvm hp hB hz1 hk1 hS1 => ?_)
  · obtain ⟨hE, hM1⟩ := hE
    rw [ht] at hM1
    have hOut1 : at1 D oa (LA cy v0) H1 := hOut.kept (hk1 oa hOut.lt hoA)
    obtain ⟨hc7, hs7⟩ := c7_scheme S p0 p1 p2
    have hS2 := hs7 hp
    rcases hc7 with h0 | h0 | h0 | h0
    · exact absurd h0 hp
    · have hE : E = "java/lang/IndexOutOfBoundsException" := hE.trans (by rw [h0]; rfl)
      subst hE
      refine vx_catch hown [] ⟨0, 12, 15, 13⟩ [⟨0, 12, 19, 15⟩, ⟨0, 12, 23, 17⟩] (by rw [hct]; rfl) (fun _ hz => absurd hz List.not_mem_nil) rfl (by decide) k_13 (va_Nw.use (jwl_tab _ (List.mem_of_getElem? (i := 0) rfl)) (hJ.2.2.2 _ (List.mem_of_getElem? (i := 0) rfl))) hce hcv hcl ?_
      refine lv_astore (lv' := [(5, .ref q9), (0, .ref (ga g 18 0)), (1, .int p0), (2, .int p1), (3, .int p2), (4, .ref oa)]) hx hb dL_scheme_15 hl (by decide) rfl (fun ls hl => ?_)
      refine lv_iconst (v := 1) hx hb dL_scheme_17 (by decide) ?_
      refine vx_ret ?_
      refine W.widen (k := 6) (n := 326) (Nat.le_of_ble_eq_true rfl) (Nat.le_of_ble_eq_true rfl) ?_
      exact W.iret (v := 1) hx hb hr (fun t9 ht9 hW9 => ⟨⟨1, g, rfl, ⟨by rw [h0]; rfl, hL, hV.1, by rw [hS2]; exact hV.2.1, rfl⟩, ⟨by rw [ht9, hS2]; exact hM1, v0, by rw [ht9]; exact hOut1, fun q => absurd q hp⟩⟩, hS1.F ht9⟩) hS1.2.2 dL_scheme_18
    · have hE : E = "java/lang/IllegalArgumentException" := hE.trans (by rw [h0]; rfl)
      subst hE
      refine vx_catch hown [⟨0, 12, 15, 13⟩] ⟨0, 12, 19, 15⟩ [⟨0, 12, 23, 17⟩] (by rw [hct]; rfl) (List.forall_mem_cons.mpr ⟨Or.inr ⟨by decide, _, k_13, hNc.1⟩, fun _ hz => absurd hz List.not_mem_nil⟩) rfl (by decide) k_15 (va_Nw.use (jwl_tab _ (List.mem_of_getElem? (i := 1) rfl)) (hJ.2.2.2 _ (List.mem_of_getElem? (i := 1) rfl))) hce hcv hcl ?_
      refine lv_astore (lv' := [(5, .ref q9), (0, .ref (ga g 18 0)), (1, .int p0), (2, .int p1), (3, .int p2), (4, .ref oa)]) hx hb dL_scheme_19 hl (by decide) rfl (fun ls hl => ?_)
      refine lv_iconst (v := 2) hx hb dL_scheme_21 (by decide) ?_
      refine vx_ret ?_
      refine W.widen (k := 6) (n := 326) (Nat.le_of_ble_eq_true rfl) (Nat.le_of_ble_eq_true rfl) ?_
      exact W.iret (v := 2) hx hb hr (fun t9 ht9 hW9 => ⟨⟨2, g, rfl, ⟨by rw [h0]; rfl, hL, hV.1, by rw [hS2]; exact hV.2.1, rfl⟩, ⟨by rw [ht9, hS2]; exact hM1, v0, by rw [ht9]; exact hOut1, fun q => absurd q hp⟩⟩, hS1.F ht9⟩) hS1.2.2 dL_scheme_22
    · have hE : E = "java/lang/IllegalStateException" := hE.trans (by rw [h0]; rfl)
      subst hE
      refine vx_catch hown [⟨0, 12, 15, 13⟩, ⟨0, 12, 19, 15⟩] ⟨0, 12, 23, 17⟩ [] (by rw [hct]; rfl) (List.forall_mem_cons.mpr ⟨Or.inr ⟨by decide, _, k_13, hNc.2.1⟩, List.forall_mem_cons.mpr ⟨Or.inr ⟨by decide, _, k_15, hNc.2.2⟩, fun _ hz => absurd hz List.not_mem_nil⟩⟩) rfl (by decide) k_17 (va_Nw.use (jwl_tab _ (List.mem_of_getElem? (i := 2) rfl)) (hJ.2.2.2 _ (List.mem_of_getElem? (i := 2) rfl))) hce hcv hcl ?_
      refine lv_astore (lv' := [(5, .ref q9), (0, .ref (ga g 18 0)), (1, .int p0), (2, .int p1), (3, .int p2), (4, .ref oa)]) hx hb dL_scheme_23 hl (by decide) rfl (fun ls hl => ?_)
      refine lv_iconst (v := 3) hx hb dL_scheme_25 (by decide) ?_
      refine vx_ret ?_
      refine W.widen (k := 6) (n := 326) (Nat.le_of_ble_eq_true rfl) (Nat.le_of_ble_eq_true rfl) ?_
      exact W.iret (v := 3) hx hb hr (fun t9 ht9 hW9 => ⟨⟨3, g, rfl, ⟨by rw [h0]; rfl, hL, hV.1, by rw [hS2]; exact hV.2.1, rfl⟩, ⟨by rw [ht9, hS2]; exact hM1, v0, by rw [ht9]; exact hOut1, fun q => absurd q hp⟩⟩, hS1.F ht9⟩) hS1.2.2 dL_scheme_26
  · rw [ht] at hB
    have hOut1 : at1 D oa (LA cy v0) H1 := hOut.kept (hk1 oa hOut.lt hoA)
    obtain ⟨hp0, hr1, hL1, hG1, hT1, h18⟩ := hp
    refine lv_i2l hx hb dL_scheme_10 rfl ?_
    refine lw_put (x := r.toInt64) hx hb hK hOut1 dL_scheme_11 (fun H2 j hO2 hz2 oq2 => ?_)
    have hS2 := S_put j hS1 hz2 oq2 (Or.inr rfl)
    refine lv_goto (tgt := 27) hx hb dL_scheme_12 (by decide) ?_
    refine lv_iconst (v := 0) hx hb dL_scheme_27 (by decide) ?_
    refine vx_ret ?_
    refine W.widen (k := 6) (n := 326) (Nat.le_of_ble_eq_true rfl) (Nat.le_of_ble_eq_true rfl) ?_
    exact W.iret (v := 0) hx hb hr (fun t9 ht9 hW9 => ⟨⟨0, u, rfl, ⟨by rw [hp0]; rfl, hL1, hG1, hT1, h18⟩, ⟨by rw [ht9]; exact hB.off hL1 hoA oq2, r.toInt64, by rw [ht9]; exact hO2, fun _ => by rw [hr1]⟩⟩, hS2.F ht9⟩) hS2.2.2 dL_scheme_28
set_option maxHeartbeats 4000000 in
set_option maxRecDepth 100000 in
theorem qL_claim (l : Launch) (hfl : l.stackTraces = false) (A : Nat → Prop) (D : va_G) (cy : Nat → ClassId) (g : CWt) (hL : CL A g) (S : St) (e0 mi n0 oa : Nat) (hA : ∀ q, n0 ≤ q → A q) (hoA : ¬ A oa) (hV : CV e0 g S) (hZ : ZR S) (hPP : NPK S) (p0 p1 : Int32) : vx_Met l yL_claim wsL_claim ({ frames := 9, cells := 6, slots := 326, locals := 240 } : Room) (va_Pc [.ref (ga g 18 0), .int p0, .int p1, .ref oa] (LPw A D cy g S e0 mi n0 oa)) (va_Qi (fun (r : Int32) (g1 : CWt) => r = mp3 (fX7_claim S p0 p1).2.1 ∧ LG A g e0 g1 (fX7_claim S p0 p1).2.2) (fun g1 t => CH D cy g1 (fX7_claim S p0 p1).2.2 t.heap ∧ ∃ v, at1 D oa (LA cy v) t.heap ∧ ((fX7_claim S p0 p1).2.1 = 0 → v = ((fX7_claim S p0 p1).1.toInt64))) (fun q => A q ∨ q = oa)) LF 6 326 (fun q => A q ∨ q = oa) := by
  refine vx_ofWH (cc := cL_claim) (maxL := 5) (ret := (some .int)) (hh := [(0, 10, 13, 13), (0, 10, 17, 15), (0, 10, 21, 17)]) (by decide) rfl ?_
  intro p e s m args below meth c s₁ B hml hv
  obtain ⟨rfl, ⟨⟨⟨hM, hK⟩, hJ⟩, hX, hO, hn0⟩, hNc, v0, hOut⟩ := hv
  have hx := B.exec
  have hb := B.bytes
  have hr := B.returns
  have hts := atoms_spec (ws := wsL_claim) B.pre
  have hown : s.vm.findClass RL = some m.cls := findClass_of_methodNamed B.named
  have hct := vx_table (p := p) (x := yL_claim) B (hts (.codeWith yL_claim cL_claim 5 (some .int) [(0, 10, 13, 13), (0, 10, 17, 15), (0, 10, 21, 17)]) List.mem_cons_self)
  have hC : CC p s m _ c cL_claim 5 RL D cy wsL_claim := ⟨⟨hx, hb, hml, hown, hts⟩, hK⟩
  have hI : CI A D cy g s S s.heap [] := ⟨hM, va_S.rf⟩
  have hS : va_S (fun q => A q ∨ q = oa) s.heap s.heap [] := va_S.rf
  have k_13 := hts (.classLink RL 13 "java/lang/IndexOutOfBoundsException") (List.mem_cons_of_mem _ (List.mem_append_left _ (List.mem_append_left _ (List.mem_append_left _ (List.mem_append_left _ (List.mem_append_left _ (List.mem_append_left _ (List.mem_append_left _ (List.mem_of_getElem? (i := 0) rfl)))))))))
  have k_15 := hts (.classLink RL 15 "java/lang/IllegalArgumentException") (List.mem_cons_of_mem _ (List.mem_append_left _ (List.mem_append_left _ (List.mem_append_left _ (List.mem_append_left _ (List.mem_append_left _ (List.mem_append_left _ (List.mem_append_left _ (List.mem_of_getElem? (i := 1) rfl)))))))))
  have k_17 := hts (.classLink RL 17 "java/lang/IllegalStateException") (List.mem_cons_of_mem _ (List.mem_append_left _ (List.mem_append_left _ (List.mem_append_left _ (List.mem_append_left _ (List.mem_append_left _ (List.mem_append_left _ (List.mem_append_left _ (List.mem_of_getElem? (i := 2) rfl)))))))))
  have hl := lv_entry ([.ref (ga g 18 0), .int p0, .int p1, .ref oa]) (n := 5) (Nat.le_of_ble_eq_true rfl)
  rw [lg_entry_eq]
  generalize (lg_sl ([.ref (ga g 18 0), .int p0, .int p1, .ref oa]) ++ List.replicate (5 - (lg_sl ([.ref (ga g 18 0), .int p0, .int p1, .ref oa])).length) Slot.unset).toArray = ls at hl ⊢
  have hl : lv_has ls 5 [(0, .ref (ga g 18 0)), (1, .int p0), (2, .int p1), (3, .ref oa)] := hl
  refine lv_aload_n hx hb dL_claim_0 rfl (lv_at hl 3 rfl) ?_
  refine lv_iconst (v := 0) hx hb dL_claim_1 (by decide) ?_
  refine lv_aload_n hx hb dL_claim_2 rfl (lv_at hl 0 rfl) ?_
  refine lv_iload_n hx hb dL_claim_3 rfl (lv_at hl 1 rfl) ?_
  refine lv_iload_n hx hb dL_claim_4 rfl (lv_at hl 2 rfl) ?_
  refine vx_calli (vx_runV (As := [.int p0, .int p1]) (rest := [.int 0, .ref oa]) hC.1 (qX7_claim l hfl A D cy g hL S e0 mi n0 hA hV hZ p0 p1) (cwV 2 hts gL_claim_X7_claim rfl rfl rfl (by decide +kernel) ⟨Nat.le_of_ble_eq_true rfl, Nat.le_of_ble_eq_true rfl⟩) ⟨LM_blind, cr_recv (ci := 8) hC.2 hI 18 0 rfl rfl rfl, fun U hU hW => ⟨rfl, ⟨⟨by rw [hU]; exact hM, va_K.moved hW.alike hK⟩, by rw [hU]; exact JT.warm hW hJ⟩, by rw [hU]; exact JX.moved hW.alike hX, JO.warm hW hO, by rw [hU]; exact hn0⟩⟩ rfl rfl hl.1 rfl (lv_room (Nat.le_of_ble_eq_true rfl)) dL_claim_5 ⟨Nat.le_of_ble_eq_true rfl, Nat.le_of_ble_eq_true rfl⟩) hS (fun q _ h => Or.inl h) (fun q h => Or.inl h) (fun q _ h => Or.inl h) (fun E ce q9 u t H1 locs1 ht hvm hp hE hz1 hk1 hS1 hce hcv hcl => ?_) (fun r u t H1 locs1 ht hvm hp hB hz1 hk1 hS1 => ?_)
  · obtain ⟨hE, hM1⟩ := hE
    rw [ht] at hM1
    have hOut1 : at1 D oa (LA cy v0) H1 := hOut.kept (hk1 oa hOut.lt hoA)
    obtain ⟨hc7, hs7⟩ := c7_claim S p0 p1
    have hS2 := hs7 hp
    rcases hc7 with h0 | h0 | h0 | h0
    · exact absurd h0 hp
    · have hE : E = "java/lang/IndexOutOfBoundsException" := hE.trans (by rw [h0]; rfl)
      subst hE
      refine vx_catch hown [] ⟨0, 10, 13, 13⟩ [⟨0, 10, 17, 15⟩, ⟨0, 10, 21, 17⟩] (by rw [hct]; rfl) (fun _ hz => absurd hz List.not_mem_nil) rfl (by decide) k_13 (va_Nw.use (jwl_tab _ (List.mem_of_getElem? (i := 0) rfl)) (hJ.2.2.2 _ (List.mem_of_getElem? (i := 0) rfl))) hce hcv hcl ?_
      refine lv_astore (lv' := [(4, .ref q9), (0, .ref (ga g 18 0)), (1, .int p0), (2, .int p1), (3, .ref oa)]) hx hb dL_claim_13 hl (by decide) rfl (fun ls hl => ?_)
      refine lv_iconst (v := 1) hx hb dL_claim_15 (by decide) ?_
      refine vx_ret ?_
      refine W.widen (k := 6) (n := 326) (Nat.le_of_ble_eq_true rfl) (Nat.le_of_ble_eq_true rfl) ?_
      exact W.iret (v := 1) hx hb hr (fun t9 ht9 hW9 => ⟨⟨1, g, rfl, ⟨by rw [h0]; rfl, hL, hV.1, by rw [hS2]; exact hV.2.1, rfl⟩, ⟨by rw [ht9, hS2]; exact hM1, v0, by rw [ht9]; exact hOut1, fun q => absurd q hp⟩⟩, hS1.F ht9⟩) hS1.2.2 dL_claim_16
    · have hE : E = "java/lang/IllegalArgumentException" := hE.trans (by rw [h0]; rfl)
      subst hE
      refine vx_catch hown [⟨0, 10, 13, 13⟩] ⟨0, 10, 17, 15⟩ [⟨0, 10, 21, 17⟩] (by rw [hct]; rfl) (List.forall_mem_cons.mpr ⟨Or.inr ⟨by decide, _, k_13, hNc.1⟩, fun _ hz => absurd hz List.not_mem_nil⟩) rfl (by decide) k_15 (va_Nw.use (jwl_tab _ (List.mem_of_getElem? (i := 1) rfl)) (hJ.2.2.2 _ (List.mem_of_getElem? (i := 1) rfl))) hce hcv hcl ?_
      refine lv_astore (lv' := [(4, .ref q9), (0, .ref (ga g 18 0)), (1, .int p0), (2, .int p1), (3, .ref oa)]) hx hb dL_claim_17 hl (by decide) rfl (fun ls hl => ?_)
      refine lv_iconst (v := 2) hx hb dL_claim_19 (by decide) ?_
      refine vx_ret ?_
      refine W.widen (k := 6) (n := 326) (Nat.le_of_ble_eq_true rfl) (Nat.le_of_ble_eq_true rfl) ?_
      exact W.iret (v := 2) hx hb hr (fun t9 ht9 hW9 => ⟨⟨2, g, rfl, ⟨by rw [h0]; rfl, hL, hV.1, by rw [hS2]; exact hV.2.1, rfl⟩, ⟨by rw [ht9, hS2]; exact hM1, v0, by rw [ht9]; exact hOut1, fun q => absurd q hp⟩⟩, hS1.F ht9⟩) hS1.2.2 dL_claim_20
    · have hE : E = "java/lang/IllegalStateException" := hE.trans (by rw [h0]; rfl)
      subst hE
      refine vx_catch hown [⟨0, 10, 13, 13⟩, ⟨0, 10, 17, 15⟩] ⟨0, 10, 21, 17⟩ [] (by rw [hct]; rfl) (List.forall_mem_cons.mpr ⟨Or.inr ⟨by decide, _, k_13, hNc.2.1⟩, List.forall_mem_cons.mpr ⟨Or.inr ⟨by decide, _, k_15, hNc.2.2⟩, fun _ hz => absurd hz List.not_mem_nil⟩⟩) rfl (by decide) k_17 (va_Nw.use (jwl_tab _ (List.mem_of_getElem? (i := 2) rfl)) (hJ.2.2.2 _ (List.mem_of_getElem? (i := 2) rfl))) hce hcv hcl ?_
      refine lv_astore (lv' := [(4, .ref q9), (0, .ref (ga g 18 0)), (1, .int p0), (2, .int p1), (3, .ref oa)]) hx hb dL_claim_21 hl (by decide) rfl (fun ls hl => ?_)
      refine lv_iconst (v := 3) hx hb dL_claim_23 (by decide) ?_
      refine vx_ret ?_
      refine W.widen (k := 6) (n := 326) (Nat.le_of_ble_eq_true rfl) (Nat.le_of_ble_eq_true rfl) ?_
      exact W.iret (v := 3) hx hb hr (fun t9 ht9 hW9 => ⟨⟨3, g, rfl, ⟨by rw [h0]; rfl, hL, hV.1, by rw [hS2]; exact hV.2.1, rfl⟩, ⟨by rw [ht9, hS2]; exact hM1, v0, by rw [ht9]; exact hOut1, fun q => absurd q hp⟩⟩, hS1.F ht9⟩) hS1.2.2 dL_claim_24
  · rw [ht] at hB
    have hOut1 : at1 D oa (LA cy v0) H1 := hOut.kept (hk1 oa hOut.lt hoA)
    obtain ⟨hp0, hr1, hL1, hG1, hT1, h18⟩ := hp
    refine lv_i2l hx hb dL_claim_8 rfl ?_
    refine lw_put (x := r.toInt64) hx hb hK hOut1 dL_claim_9 (fun H2 j hO2 hz2 oq2 => ?_)
    have hS2 := S_put j hS1 hz2 oq2 (Or.inr rfl)
    refine lv_goto (tgt := 25) hx hb dL_claim_10 (by decide) ?_
    refine lv_iconst (v := 0) hx hb dL_claim_25 (by decide) ?_
    refine vx_ret ?_
    refine W.widen (k := 6) (n := 326) (Nat.le_of_ble_eq_true rfl) (Nat.le_of_ble_eq_true rfl) ?_
    exact W.iret (v := 0) hx hb hr (fun t9 ht9 hW9 => ⟨⟨0, u, rfl, ⟨by rw [hp0]; rfl, hL1, hG1, hT1, h18⟩, ⟨by rw [ht9]; exact hB.off hL1 hoA oq2, r.toInt64, by rw [ht9]; exact hO2, fun _ => by rw [hr1]⟩⟩, hS2.F ht9⟩) hS2.2.2 dL_claim_26
set_option maxHeartbeats 4000000 in
set_option maxRecDepth 100000 in
theorem qL_sample (l : Launch) (hfl : l.stackTraces = false) (A : Nat → Prop) (D : va_G) (cy : Nat → ClassId) (g : CWt) (hL : CL A g) (S : St) (e0 mi n0 oa : Nat) (hA : ∀ q, n0 ≤ q → A q) (hoA : ¬ A oa) (hV : CV e0 g S) (hZ : ZR S) (hPP : NPK S) (p0 p1 p2 : Int32) : vx_Met l yL_sample wsL_sample ({ frames := 9, cells := 6, slots := 326, locals := 240 } : Room) (va_Pc [.ref (ga g 18 0), .int p0, .int p1, .int p2] (LPw A D cy g S e0 mi n0 oa)) (va_Qi (fun (r : Int32) (g1 : CWt) => r = mp3 (fX7_sample S p0 p1 p2).2.1 ∧ LG A g e0 g1 (fX7_sample S p0 p1 p2).2.2) (fun g1 t => CH D cy g1 (fX7_sample S p0 p1 p2).2.2 t.heap ∧ ∃ v, at1 D oa (LA cy v) t.heap) (fun q => A q ∨ q = oa)) LF 6 326 (fun q => A q ∨ q = oa) := by
  refine vx_ofWH (cc := cL_sample) (maxL := 5) (ret := (some .int)) (hh := [(0, 7, 10, 13), (0, 7, 14, 15)]) (by decide) rfl ?_
  intro p e s m args below meth c s₁ B hml hv
  obtain ⟨rfl, ⟨⟨⟨hM, hK⟩, hJ⟩, hX, hO, hn0⟩, hNc, v0, hOut⟩ := hv
  have hx := B.exec
  have hb := B.bytes
  have hr := B.returns
  have hts := atoms_spec (ws := wsL_sample) B.pre
  have hown : s.vm.findClass RL = some m.cls := findClass_of_methodNamed B.named
  have hct := vx_table (p := p) (x := yL_sample) B (hts (.codeWith yL_sample cL_sample 5 (some .int) [(0, 7, 10, 13), (0, 7, 14, 15)]) List.mem_cons_self)
  have hC : CC p s m _ c cL_sample 5 RL D cy wsL_sample := ⟨⟨hx, hb, hml, hown, hts⟩, hK⟩
  have hI : CI A D cy g s S s.heap [] := ⟨hM, va_S.rf⟩
  have hS : va_S (fun q => A q ∨ q = oa) s.heap s.heap [] := va_S.rf
  have k_13 := hts (.classLink RL 13 "java/lang/IndexOutOfBoundsException") (List.mem_cons_of_mem _ (List.mem_append_left _ (List.mem_append_left _ (List.mem_append_left _ (List.mem_append_left _ (List.mem_append_left _ (List.mem_append_left _ (List.mem_of_getElem? (i := 0) rfl))))))))
  have k_15 := hts (.classLink RL 15 "java/lang/IllegalArgumentException") (List.mem_cons_of_mem _ (List.mem_append_left _ (List.mem_append_left _ (List.mem_append_left _ (List.mem_append_left _ (List.mem_append_left _ (List.mem_append_left _ (List.mem_of_getElem? (i := 1) rfl))))))))
  have hl := lv_entry ([.ref (ga g 18 0), .int p0, .int p1, .int p2]) (n := 5) (Nat.le_of_ble_eq_true rfl)
  rw [lg_entry_eq]
  generalize (lg_sl ([.ref (ga g 18 0), .int p0, .int p1, .int p2]) ++ List.replicate (5 - (lg_sl ([.ref (ga g 18 0), .int p0, .int p1, .int p2])).length) Slot.unset).toArray = ls at hl ⊢
  have hl : lv_has ls 5 [(0, .ref (ga g 18 0)), (1, .int p0), (2, .int p1), (3, .int p2)] := hl
  refine lv_aload_n hx hb dL_sample_0 rfl (lv_at hl 0 rfl) ?_
  refine lv_iload_n hx hb dL_sample_1 rfl (lv_at hl 1 rfl) ?_
  refine lv_iload_n hx hb dL_sample_2 rfl (lv_at hl 2 rfl) ?_
  refine lv_iload_n hx hb dL_sample_3 rfl (lv_at hl 3 rfl) ?_
  refine vx_callv (vx_runV (As := [.int p0, .int p1, .int p2]) (rest := []) hC.1 (qX7_sample l hfl A D cy g hL S e0 hV p0 p1 p2) (cwV 3 hts gL_sample_X7_sample rfl rfl rfl (by decide +kernel) ⟨Nat.le_of_ble_eq_true rfl, Nat.le_of_ble_eq_true rfl⟩) ⟨CTh_blind, cr_recv (ci := 8) hC.2 hI 18 0 rfl rfl rfl, fun U hU hW => ⟨rfl, ⟨by rw [hU]; exact hM, va_K.moved hW.alike hK⟩, by rw [hU]; exact JT.warm hW hJ⟩⟩ rfl rfl hl.1 rfl (lv_room (Nat.le_of_ble_eq_true rfl)) dL_sample_4 ⟨Nat.le_of_ble_eq_true rfl, Nat.le_of_ble_eq_true rfl⟩) hS (fun q _ h => Or.inl h) (fun q h => Or.inl h) (fun q _ h => Or.inl h) (fun E ce q9 u t H1 locs1 ht hvm hp hE hz1 hk1 hS1 hce hcv hcl => ?_) (fun u t H1 locs1 ht hvm hp hB hz1 hk1 hS1 => ?_)
  · obtain ⟨hE, hM1⟩ := hE
    rw [ht] at hM1
    have hOut1 : at1 D oa (LA cy v0) H1 := hOut.kept (hk1 oa hOut.lt hoA)
    obtain ⟨hc7, hs7⟩ := c7_sample S p0 p1 p2
    have hS2 := hs7 hp
    rcases hc7 with h0 | h0 | h0
    · exact absurd h0 hp
    · have hE : E = "java/lang/IndexOutOfBoundsException" := hE.trans (by rw [h0]; rfl)
      subst hE
      refine vx_catch hown [] ⟨0, 7, 10, 13⟩ [⟨0, 7, 14, 15⟩] (by rw [hct]; rfl) (fun _ hz => absurd hz List.not_mem_nil) rfl (by decide) k_13 (va_Nw.use (jwl_tab _ (List.mem_of_getElem? (i := 0) rfl)) (hJ.2.2.2 _ (List.mem_of_getElem? (i := 0) rfl))) hce hcv hcl ?_
      refine lv_astore (lv' := [(4, .ref q9), (0, .ref (ga g 18 0)), (1, .int p0), (2, .int p1), (3, .int p2)]) hx hb dL_sample_10 hl (by decide) rfl (fun ls hl => ?_)
      refine lv_iconst (v := 1) hx hb dL_sample_12 (by decide) ?_
      refine vx_ret ?_
      refine W.widen (k := 6) (n := 326) (Nat.le_of_ble_eq_true rfl) (Nat.le_of_ble_eq_true rfl) ?_
      exact W.iret (v := 1) hx hb hr (fun t9 ht9 hW9 => ⟨⟨1, g, rfl, ⟨by rw [h0]; rfl, hL, hV.1, by rw [hS2]; exact hV.2.1, rfl⟩, ⟨by rw [ht9, hS2]; exact hM1, v0, by rw [ht9]; exact hOut1⟩⟩, hS1.F ht9⟩) hS1.2.2 dL_sample_13
    · have hE : E = "java/lang/IllegalArgumentException" := hE.trans (by rw [h0]; rfl)
      subst hE
      refine vx_catch hown [⟨0, 7, 10, 13⟩] ⟨0, 7, 14, 15⟩ [] (by rw [hct]; rfl) (List.forall_mem_cons.mpr ⟨Or.inr ⟨by decide, _, k_13, hNc.1⟩, fun _ hz => absurd hz List.not_mem_nil⟩) rfl (by decide) k_15 (va_Nw.use (jwl_tab _ (List.mem_of_getElem? (i := 1) rfl)) (hJ.2.2.2 _ (List.mem_of_getElem? (i := 1) rfl))) hce hcv hcl ?_
      refine lv_astore (lv' := [(4, .ref q9), (0, .ref (ga g 18 0)), (1, .int p0), (2, .int p1), (3, .int p2)]) hx hb dL_sample_14 hl (by decide) rfl (fun ls hl => ?_)
      refine lv_iconst (v := 2) hx hb dL_sample_16 (by decide) ?_
      refine vx_ret ?_
      refine W.widen (k := 6) (n := 326) (Nat.le_of_ble_eq_true rfl) (Nat.le_of_ble_eq_true rfl) ?_
      exact W.iret (v := 2) hx hb hr (fun t9 ht9 hW9 => ⟨⟨2, g, rfl, ⟨by rw [h0]; rfl, hL, hV.1, by rw [hS2]; exact hV.2.1, rfl⟩, ⟨by rw [ht9, hS2]; exact hM1, v0, by rw [ht9]; exact hOut1⟩⟩, hS1.F ht9⟩) hS1.2.2 dL_sample_17
  · rw [ht] at hB
    have hOut1 : at1 D oa (LA cy v0) H1 := hOut.kept (hk1 oa hOut.lt hoA)
    have hp0 : (fX7_sample S p0 p1 p2).2.1 = 0 := hp
    refine lv_goto (tgt := 18) hx hb dL_sample_7 (by decide) ?_
    refine lv_iconst (v := 0) hx hb dL_sample_18 (by decide) ?_
    refine vx_ret ?_
    refine W.widen (k := 6) (n := 326) (Nat.le_of_ble_eq_true rfl) (Nat.le_of_ble_eq_true rfl) ?_
    exact W.iret (v := 0) hx hb hr (fun t9 ht9 hW9 => ⟨⟨0, g, rfl, ⟨by rw [hp0]; rfl, hL, hV.1, (k7_sample S p0 p1 p2).ct hV.2.1, rfl⟩, ⟨by rw [ht9]; exact hB, v0, by rw [ht9]; exact hOut1⟩⟩, hS1.F ht9⟩) hS1.2.2 dL_sample_19
set_option maxHeartbeats 4000000 in
set_option maxRecDepth 100000 in
theorem qL_learn (l : Launch) (hfl : l.stackTraces = false) (A : Nat → Prop) (D : va_G) (cy : Nat → ClassId) (g : CWt) (hL : CL A g) (S : St) (e0 mi n0 oa : Nat) (hA : ∀ q, n0 ≤ q → A q) (hoA : ¬ A oa) (hV : CV e0 g S) (hZ : ZR S) (hPP : NPK S) (p0 p1 : Int32) : vx_Met l yL_learn wsL_learn ({ frames := 9, cells := 6, slots := 326, locals := 240 } : Room) (va_Pc [.ref (ga g 18 0), .int p0, .int p1, .ref oa] (LPw A D cy g S e0 mi n0 oa)) (va_Qi (fun (r : Int32) (g1 : CWt) => r = mp3 (fX7_learn S p0 p1).2.1 ∧ LG A g e0 g1 (fX7_learn S p0 p1).2.2) (fun g1 t => CH D cy g1 (fX7_learn S p0 p1).2.2 t.heap ∧ ∃ v, at1 D oa (LA cy v) t.heap ∧ ((fX7_learn S p0 p1).2.1 = 0 → v = ((fX7_learn S p0 p1).1.toInt64))) (fun q => A q ∨ q = oa)) LF 6 326 (fun q => A q ∨ q = oa) := by
  refine vx_ofWH (cc := cL_learn) (maxL := 5) (ret := (some .int)) (hh := [(0, 10, 13, 13)]) (by decide) rfl ?_
  intro p e s m args below meth c s₁ B hml hv
  obtain ⟨rfl, ⟨⟨⟨hM, hK⟩, hJ⟩, hX, hO, hn0⟩, hNc, v0, hOut⟩ := hv
  have hx := B.exec
  have hb := B.bytes
  have hr := B.returns
  have hts := atoms_spec (ws := wsL_learn) B.pre
  have hown : s.vm.findClass RL = some m.cls := findClass_of_methodNamed B.named
  have hct := vx_table (p := p) (x := yL_learn) B (hts (.codeWith yL_learn cL_learn 5 (some .int) [(0, 10, 13, 13)]) List.mem_cons_self)
  have hC : CC p s m _ c cL_learn 5 RL D cy wsL_learn := ⟨⟨hx, hb, hml, hown, hts⟩, hK⟩
  have hI : CI A D cy g s S s.heap [] := ⟨hM, va_S.rf⟩
  have hS : va_S (fun q => A q ∨ q = oa) s.heap s.heap [] := va_S.rf
  have k_13 := hts (.classLink RL 13 "java/lang/IndexOutOfBoundsException") (List.mem_cons_of_mem _ (List.mem_append_left _ (List.mem_append_left _ (List.mem_append_left _ (List.mem_of_getElem? (i := 0) rfl)))))
  have hl := lv_entry ([.ref (ga g 18 0), .int p0, .int p1, .ref oa]) (n := 5) (Nat.le_of_ble_eq_true rfl)
  rw [lg_entry_eq]
  generalize (lg_sl ([.ref (ga g 18 0), .int p0, .int p1, .ref oa]) ++ List.replicate (5 - (lg_sl ([.ref (ga g 18 0), .int p0, .int p1, .ref oa])).length) Slot.unset).toArray = ls at hl ⊢
  have hl : lv_has ls 5 [(0, .ref (ga g 18 0)), (1, .int p0), (2, .int p1), (3, .ref oa)] := hl
  refine lv_aload_n hx hb dL_learn_0 rfl (lv_at hl 3 rfl) ?_
  refine lv_iconst (v := 0) hx hb dL_learn_1 (by decide) ?_
  refine lv_aload_n hx hb dL_learn_2 rfl (lv_at hl 0 rfl) ?_
  refine lv_iload_n hx hb dL_learn_3 rfl (lv_at hl 1 rfl) ?_
  refine lv_iload_n hx hb dL_learn_4 rfl (lv_at hl 2 rfl) ?_
  refine vx_calli (vx_runV (As := [.int p0, .int p1]) (rest := [.int 0, .ref oa]) hC.1 (qX7_learn l hfl A D cy g hL S e0 hV p0 p1) (cwV 2 hts gL_learn_X7_learn rfl rfl rfl (by decide +kernel) ⟨Nat.le_of_ble_eq_true rfl, Nat.le_of_ble_eq_true rfl⟩) ⟨CTh_blind, cr_recv (ci := 8) hC.2 hI 18 0 rfl rfl rfl, fun U hU hW => ⟨rfl, ⟨by rw [hU]; exact hM, va_K.moved hW.alike hK⟩, by rw [hU]; exact JT.warm hW hJ⟩⟩ rfl rfl hl.1 rfl (lv_room (Nat.le_of_ble_eq_true rfl)) dL_learn_5 ⟨Nat.le_of_ble_eq_true rfl, Nat.le_of_ble_eq_true rfl⟩) hS (fun q _ h => Or.inl h) (fun q h => Or.inl h) (fun q _ h => Or.inl h) (fun E ce q9 u t H1 locs1 ht hvm hp hE hz1 hk1 hS1 hce hcv hcl => ?_) (fun r u t H1 locs1 ht hvm hp hB hz1 hk1 hS1 => ?_)
  · obtain ⟨hE, hM1⟩ := hE
    rw [ht] at hM1
    have hOut1 : at1 D oa (LA cy v0) H1 := hOut.kept (hk1 oa hOut.lt hoA)
    obtain ⟨hc7, hs7⟩ := c7_learn S p0 p1
    have hS2 := hs7 hp
    rcases hc7 with h0 | h0
    · exact absurd h0 hp
    · have hE : E = "java/lang/IndexOutOfBoundsException" := hE.trans (by rw [h0]; rfl)
      subst hE
      refine vx_catch hown [] ⟨0, 10, 13, 13⟩ [] (by rw [hct]; rfl) (fun _ hz => absurd hz List.not_mem_nil) rfl (by decide) k_13 (va_Nw.use (jwl_tab _ (List.mem_of_getElem? (i := 0) rfl)) (hJ.2.2.2 _ (List.mem_of_getElem? (i := 0) rfl))) hce hcv hcl ?_
      refine lv_astore (lv' := [(4, .ref q9), (0, .ref (ga g 18 0)), (1, .int p0), (2, .int p1), (3, .ref oa)]) hx hb dL_learn_13 hl (by decide) rfl (fun ls hl => ?_)
      refine lv_iconst (v := 1) hx hb dL_learn_15 (by decide) ?_
      refine vx_ret ?_
      refine W.widen (k := 6) (n := 326) (Nat.le_of_ble_eq_true rfl) (Nat.le_of_ble_eq_true rfl) ?_
      exact W.iret (v := 1) hx hb hr (fun t9 ht9 hW9 => ⟨⟨1, g, rfl, ⟨by rw [h0]; rfl, hL, hV.1, by rw [hS2]; exact hV.2.1, rfl⟩, ⟨by rw [ht9, hS2]; exact hM1, v0, by rw [ht9]; exact hOut1, fun q => absurd q hp⟩⟩, hS1.F ht9⟩) hS1.2.2 dL_learn_16
  · rw [ht] at hB
    have hOut1 : at1 D oa (LA cy v0) H1 := hOut.kept (hk1 oa hOut.lt hoA)
    obtain ⟨hp0, hr1⟩ := hp
    refine lv_i2l hx hb dL_learn_8 rfl ?_
    refine lw_put (x := r.toInt64) hx hb hK hOut1 dL_learn_9 (fun H2 j hO2 hz2 oq2 => ?_)
    have hS2 := S_put j hS1 hz2 oq2 (Or.inr rfl)
    refine lv_goto (tgt := 17) hx hb dL_learn_10 (by decide) ?_
    refine lv_iconst (v := 0) hx hb dL_learn_17 (by decide) ?_
    refine vx_ret ?_
    refine W.widen (k := 6) (n := 326) (Nat.le_of_ble_eq_true rfl) (Nat.le_of_ble_eq_true rfl) ?_
    exact W.iret (v := 0) hx hb hr (fun t9 ht9 hW9 => ⟨⟨0, g, rfl, ⟨by rw [hp0]; rfl, hL, hV.1, (k7_learn S p0 p1).ct hV.2.1, rfl⟩, ⟨by rw [ht9]; exact hB.off hL hoA oq2, r.toInt64, by rw [ht9]; exact hO2, fun _ => by rw [hr1]⟩⟩, hS2.F ht9⟩) hS2.2.2 dL_learn_18
set_option maxHeartbeats 4000000 in
set_option maxRecDepth 100000 in
theorem qL_publish (l : Launch) (hfl : l.stackTraces = false) (A : Nat → Prop) (D : va_G) (cy : Nat → ClassId) (g : CWt) (hL : CL A g) (S : St) (e0 mi n0 oa : Nat) (hA : ∀ q, n0 ≤ q → A q) (hoA : ¬ A oa) (hV : CV e0 g S) (hZ : ZR S) (hPP : NPK S) (p0 : Int32) : vx_Met l yL_publish wsL_publish ({ frames := 9, cells := 6, slots := 326, locals := 240 } : Room) (va_Pc [.ref (ga g 18 0), .int p0, .ref oa] (LPw A D cy g S e0 mi n0 oa)) (va_Qi (fun (r : Int32) (g1 : CWt) => r = mp3 (fX7_publish S p0).2.1 ∧ LG A g e0 g1 (fX7_publish S p0).2.2) (fun g1 t => CH D cy g1 (fX7_publish S p0).2.2 t.heap ∧ ∃ v, at1 D oa (LA cy v) t.heap ∧ ((fX7_publish S p0).2.1 = 0 → v = ((fX7_publish S p0).1.toInt64))) (fun q => A q ∨ q = oa)) LF 6 326 (fun q => A q ∨ q = oa) := by
  refine vx_ofWH (cc := cL_publish) (maxL := 4) (ret := (some .int)) (hh := [(0, 9, 12, 13)]) (by decide) rfl ?_
  intro p e s m args below meth c s₁ B hml hv
  obtain ⟨rfl, ⟨⟨⟨hM, hK⟩, hJ⟩, hX, hO, hn0⟩, hNc, v0, hOut⟩ := hv
  have hx := B.exec
  have hb := B.bytes
  have hr := B.returns
  have hts := atoms_spec (ws := wsL_publish) B.pre
  have hown : s.vm.findClass RL = some m.cls := findClass_of_methodNamed B.named
  have hct := vx_table (p := p) (x := yL_publish) B (hts (.codeWith yL_publish cL_publish 4 (some .int) [(0, 9, 12, 13)]) List.mem_cons_self)
  have hC : CC p s m _ c cL_publish 4 RL D cy wsL_publish := ⟨⟨hx, hb, hml, hown, hts⟩, hK⟩
  have hI : CI A D cy g s S s.heap [] := ⟨hM, va_S.rf⟩
  have hS : va_S (fun q => A q ∨ q = oa) s.heap s.heap [] := va_S.rf
  have k_13 := hts (.classLink RL 13 "java/lang/IndexOutOfBoundsException") (List.mem_cons_of_mem _ (List.mem_append_left _ (List.mem_append_left _ (List.mem_of_getElem? (i := 0) rfl))))
  have hl := lv_entry ([.ref (ga g 18 0), .int p0, .ref oa]) (n := 4) (Nat.le_of_ble_eq_true rfl)
  rw [lg_entry_eq]
  generalize (lg_sl ([.ref (ga g 18 0), .int p0, .ref oa]) ++ List.replicate (4 - (lg_sl ([.ref (ga g 18 0), .int p0, .ref oa])).length) Slot.unset).toArray = ls at hl ⊢
  have hl : lv_has ls 4 [(0, .ref (ga g 18 0)), (1, .int p0), (2, .ref oa)] := hl
  refine lv_aload_n hx hb dL_publish_0 rfl (lv_at hl 2 rfl) ?_
  refine lv_iconst (v := 0) hx hb dL_publish_1 (by decide) ?_
  refine lv_aload_n hx hb dL_publish_2 rfl (lv_at hl 0 rfl) ?_
  refine lv_iload_n hx hb dL_publish_3 rfl (lv_at hl 1 rfl) ?_
  refine vx_calli (vx_runV (As := [.int p0]) (rest := [.int 0, .ref oa]) hC.1 (qX7_publish l hfl A D cy g hL S e0 hV p0) (cwV 1 hts gL_publish_X7_publish rfl rfl rfl (by decide +kernel) ⟨Nat.le_of_ble_eq_true rfl, Nat.le_of_ble_eq_true rfl⟩) ⟨CTh_blind, cr_recv (ci := 8) hC.2 hI 18 0 rfl rfl rfl, fun U hU hW => ⟨rfl, ⟨by rw [hU]; exact hM, va_K.moved hW.alike hK⟩, by rw [hU]; exact JT.warm hW hJ⟩⟩ rfl rfl hl.1 rfl (lv_room (Nat.le_of_ble_eq_true rfl)) dL_publish_4 ⟨Nat.le_of_ble_eq_true rfl, Nat.le_of_ble_eq_true rfl⟩) hS (fun q _ h => Or.inl h) (fun q h => Or.inl h) (fun q _ h => Or.inl h) (fun E ce q9 u t H1 locs1 ht hvm hp hE hz1 hk1 hS1 hce hcv hcl => ?_) (fun r u t H1 locs1 ht hvm hp hB hz1 hk1 hS1 => ?_)
  · obtain ⟨hE, hM1⟩ := hE
    rw [ht] at hM1
    have hOut1 : at1 D oa (LA cy v0) H1 := hOut.kept (hk1 oa hOut.lt hoA)
    obtain ⟨hc7, hs7⟩ := c7_publish S p0
    have hS2 := hs7 hp
    rcases hc7 with h0 | h0
    · exact absurd h0 hp
    · have hE : E = "java/lang/IndexOutOfBoundsException" := hE.trans (by rw [h0]; rfl)
      subst hE
      refine vx_catch hown [] ⟨0, 9, 12, 13⟩ [] (by rw [hct]; rfl) (fun _ hz => absurd hz List.not_mem_nil) rfl (by decide) k_13 (va_Nw.use (jwl_tab _ (List.mem_of_getElem? (i := 0) rfl)) (hJ.2.2.2 _ (List.mem_of_getElem? (i := 0) rfl))) hce hcv hcl ?_
      refine lv_astore_n (lv' := [(3, .ref q9), (0, .ref (ga g 18 0)), (1, .int p0), (2, .ref oa)]) hx hb dL_publish_12 rfl hl (by decide) rfl (fun ls hl => ?_)
      refine lv_iconst (v := 1) hx hb dL_publish_13 (by decide) ?_
      refine vx_ret ?_
      refine W.widen (k := 6) (n := 326) (Nat.le_of_ble_eq_true rfl) (Nat.le_of_ble_eq_true rfl) ?_
      exact W.iret (v := 1) hx hb hr (fun t9 ht9 hW9 => ⟨⟨1, g, rfl, ⟨by rw [h0]; rfl, hL, hV.1, by rw [hS2]; exact hV.2.1, rfl⟩, ⟨by rw [ht9, hS2]; exact hM1, v0, by rw [ht9]; exact hOut1, fun q => absurd q hp⟩⟩, hS1.F ht9⟩) hS1.2.2 dL_publish_14
  · rw [ht] at hB
    have hOut1 : at1 D oa (LA cy v0) H1 := hOut.kept (hk1 oa hOut.lt hoA)
    obtain ⟨hp0, hr1⟩ := hp
    refine lv_i2l hx hb dL_publish_7 rfl ?_
    refine lw_put (x := r.toInt64) hx hb hK hOut1 dL_publish_8 (fun H2 j hO2 hz2 oq2 => ?_)
    have hS2 := S_put j hS1 hz2 oq2 (Or.inr rfl)
    refine lv_goto (tgt := 15) hx hb dL_publish_9 (by decide) ?_
    refine lv_iconst (v := 0) hx hb dL_publish_15 (by decide) ?_
    refine vx_ret ?_
    refine W.widen (k := 6) (n := 326) (Nat.le_of_ble_eq_true rfl) (Nat.le_of_ble_eq_true rfl) ?_
    exact W.iret (v := 0) hx hb hr (fun t9 ht9 hW9 => ⟨⟨0, g, rfl, ⟨by rw [hp0]; rfl, hL, hV.1, (k7_publish S p0).ct hV.2.1, rfl⟩, ⟨by rw [ht9]; exact hB.off hL hoA oq2, r.toInt64, by rw [ht9]; exact hO2, fun _ => by rw [hr1]⟩⟩, hS2.F ht9⟩) hS2.2.2 dL_publish_16
set_option maxHeartbeats 4000000 in
set_option maxRecDepth 100000 in
theorem qL_plan (l : Launch) (hfl : l.stackTraces = false) (A : Nat → Prop) (D : va_G) (cy : Nat → ClassId) (g : CWt) (hL : CL A g) (S : St) (e0 mi n0 oa : Nat) (hA : ∀ q, n0 ≤ q → A q) (hoA : ¬ A oa) (hV : CV e0 g S) (hZ : ZR S) (hPP : NPK S) (p0 p1 : Int32) : vx_Met l yL_plan wsL_plan ({ frames := 9, cells := 6, slots := 326, locals := 240 } : Room) (va_Pc [.ref (ga g 18 0), .int p0, .int p1, .ref oa] (LPw A D cy g S e0 mi n0 oa)) (va_Qi (fun (r : Int32) (g1 : CWt) => r = mp3 (fX7_plan S p0 p1).2.1 ∧ LG A g e0 g1 (fX7_plan S p0 p1).2.2) (fun g1 t => CH D cy g1 (fX7_plan S p0 p1).2.2 t.heap ∧ ∃ v, at1 D oa (LA cy v) t.heap ∧ ((fX7_plan S p0 p1).2.1 = 0 → v = (if (fX7_plan S p0 p1).1 = 0 then (0 : Int64) else 1))) (fun q => A q ∨ q = oa)) LF 6 326 (fun q => A q ∨ q = oa) := by
  refine vx_ofWH (cc := cL_plan) (maxL := 5) (ret := (some .int)) (hh := [(0, 17, 20, 13)]) (by decide) rfl ?_
  intro p e s m args below meth c s₁ B hml hv
  obtain ⟨rfl, ⟨⟨⟨hM, hK⟩, hJ⟩, hX, hO, hn0⟩, hNc, v0, hOut⟩ := hv
  have hx := B.exec
  have hb := B.bytes
  have hr := B.returns
  have hts := atoms_spec (ws := wsL_plan) B.pre
  have hown : s.vm.findClass RL = some m.cls := findClass_of_methodNamed B.named
  have hct := vx_table (p := p) (x := yL_plan) B (hts (.codeWith yL_plan cL_plan 5 (some .int) [(0, 17, 20, 13)]) List.mem_cons_self)
  have hC : CC p s m _ c cL_plan 5 RL D cy wsL_plan := ⟨⟨hx, hb, hml, hown, hts⟩, hK⟩
  have hI : CI A D cy g s S s.heap [] := ⟨hM, va_S.rf⟩
  have hS : va_S (fun q => A q ∨ q = oa) s.heap s.heap [] := va_S.rf
  have k_13 := hts (.classLink RL 13 "java/lang/IndexOutOfBoundsException") (List.mem_cons_of_mem _ (List.mem_append_left _ (List.mem_append_left _ (List.mem_append_left _ (List.mem_append_left _ (List.mem_append_left _ (List.mem_of_getElem? (i := 0) rfl)))))))
  have hl := lv_entry ([.ref (ga g 18 0), .int p0, .int p1, .ref oa]) (n := 5) (Nat.le_of_ble_eq_true rfl)
  rw [lg_entry_eq]
  generalize (lg_sl ([.ref (ga g 18 0), .int p0, .int p1, .ref oa]) ++ List.replicate (5 - (lg_sl ([.ref (ga g 18 0), .int p0, .int p1, .ref oa])).length) Slot.unset).toArray = ls at hl ⊢
  have hl : lv_has ls 5 [(0, .ref (ga g 18 0)), (1, .int p0), (2, .int p1), (3, .ref oa)] := hl
  refine lv_aload_n hx hb dL_plan_0 rfl (lv_at hl 3 rfl) ?_
  refine lv_iconst (v := 0) hx hb dL_plan_1 (by decide) ?_
  refine lv_aload_n hx hb dL_plan_2 rfl (lv_at hl 0 rfl) ?_
  refine lv_iload_n hx hb dL_plan_3 rfl (lv_at hl 1 rfl) ?_
  refine lv_iload_n hx hb dL_plan_4 rfl (lv_at hl 2 rfl) ?_
  refine vx_calli (vx_runV (As := [.int p0, .int p1]) (rest := [.int 0, .ref oa]) hC.1 (qX7_plan l hfl A D cy g hL S e0 hV p0 p1) (cwV 2 hts gL_plan_X7_plan rfl rfl rfl (by decide +kernel) ⟨Nat.le_of_ble_eq_true rfl, Nat.le_of_ble_eq_true rfl⟩) ⟨CTh_blind, cr_recv (ci := 8) hC.2 hI 18 0 rfl rfl rfl, fun U hU hW => ⟨rfl, ⟨by rw [hU]; exact hM, va_K.moved hW.alike hK⟩, by rw [hU]; exact JT.warm hW hJ⟩⟩ rfl rfl hl.1 rfl (lv_room (Nat.le_of_ble_eq_true rfl)) dL_plan_5 ⟨Nat.le_of_ble_eq_true rfl, Nat.le_of_ble_eq_true rfl⟩) hS (fun q _ h => Or.inl h) (fun q h => Or.inl h) (fun q _ h => Or.inl h) (fun E ce q9 u t H1 locs1 ht hvm hp hE hz1 hk1 hS1 hce hcv hcl => ?_) (fun r u t H1 locs1 ht hvm hp hB hz1 hk1 hS1 => ?_)
  · obtain ⟨hE, hM1⟩ := hE
    rw [ht] at hM1
    have hOut1 : at1 D oa (LA cy v0) H1 := hOut.kept (hk1 oa hOut.lt hoA)
    obtain ⟨hc7, hs7⟩ := c7_plan S p0 p1
    have hS2 := hs7 hp
    rcases hc7 with h0 | h0
    · exact absurd h0 hp
    · have hE : E = "java/lang/IndexOutOfBoundsException" := hE.trans (by rw [h0]; rfl)
      subst hE
      refine vx_catch hown [] ⟨0, 17, 20, 13⟩ [] (by rw [hct]; rfl) (fun _ hz => absurd hz List.not_mem_nil) rfl (by decide) k_13 (va_Nw.use (jwl_tab _ (List.mem_of_getElem? (i := 0) rfl)) (hJ.2.2.2 _ (List.mem_of_getElem? (i := 0) rfl))) hce hcv hcl ?_
      refine lv_astore (lv' := [(4, .ref q9), (0, .ref (ga g 18 0)), (1, .int p0), (2, .int p1), (3, .ref oa)]) hx hb dL_plan_20 hl (by decide) rfl (fun ls hl => ?_)
      refine lv_iconst (v := 1) hx hb dL_plan_22 (by decide) ?_
      refine vx_ret ?_
      refine W.widen (k := 6) (n := 326) (Nat.le_of_ble_eq_true rfl) (Nat.le_of_ble_eq_true rfl) ?_
      exact W.iret (v := 1) hx hb hr (fun t9 ht9 hW9 => ⟨⟨1, g, rfl, ⟨by rw [h0]; rfl, hL, hV.1, by rw [hS2]; exact hV.2.1, rfl⟩, ⟨by rw [ht9, hS2]; exact hM1, v0, by rw [ht9]; exact hOut1, fun q => absurd q hp⟩⟩, hS1.F ht9⟩) hS1.2.2 dL_plan_23
  · rw [ht] at hB
    have hOut1 : at1 D oa (LA cy v0) H1 := hOut.kept (hk1 oa hOut.lt hoA)
    obtain ⟨hp0, hr1⟩ := hp
    refine lv_if_eq (tgt := 15) hx hb dL_plan_8 (by decide) (fun c0 => ?_) (fun c0 => ?_)
    · refine lv_lconst (v := 0) hx hb dL_plan_15 rfl ?_
      refine lw_put (x := (0 : Int64)) hx hb hK hOut1 dL_plan_16 (fun H2 j hO2 hz2 oq2 => ?_)
      have hS2 := S_put j hS1 hz2 oq2 (Or.inr rfl)
      refine lv_goto (tgt := 24) hx hb dL_plan_17 (by decide) ?_
      refine lv_iconst (v := 0) hx hb dL_plan_24 (by decide) ?_
      refine vx_ret ?_
      refine W.widen (k := 6) (n := 326) (Nat.le_of_ble_eq_true rfl) (Nat.le_of_ble_eq_true rfl) ?_
      exact W.iret (v := 0) hx hb hr (fun t9 ht9 hW9 => ⟨⟨0, g, rfl, ⟨by rw [hp0]; rfl, hL, hV.1, (k7_plan S p0 p1).ct hV.2.1, rfl⟩, ⟨by rw [ht9]; exact hB.off hL hoA oq2, (0 : Int64), by rw [ht9]; exact hO2, fun _ => by rw [← hr1, if_pos c0]⟩⟩, hS2.F ht9⟩) hS2.2.2 dL_plan_25
    · refine lv_lconst (v := 1) hx hb dL_plan_11 rfl ?_
      refine lv_goto (tgt := 16) hx hb dL_plan_12 (by decide) ?_
      refine lw_put (x := (1 : Int64)) hx hb hK hOut1 dL_plan_16 (fun H2 j hO2 hz2 oq2 => ?_)
      have hS2 := S_put j hS1 hz2 oq2 (Or.inr rfl)
      refine lv_goto (tgt := 24) hx hb dL_plan_17 (by decide) ?_
      refine lv_iconst (v := 0) hx hb dL_plan_24 (by decide) ?_
      refine vx_ret ?_
      refine W.widen (k := 6) (n := 326) (Nat.le_of_ble_eq_true rfl) (Nat.le_of_ble_eq_true rfl) ?_
      exact W.iret (v := 0) hx hb hr (fun t9 ht9 hW9 => ⟨⟨0, g, rfl, ⟨by rw [hp0]; rfl, hL, hV.1, (k7_plan S p0 p1).ct hV.2.1, rfl⟩, ⟨by rw [ht9]; exact hB.off hL hoA oq2, (1 : Int64), by rw [ht9]; exact hO2, fun _ => by rw [← hr1, if_neg c0]⟩⟩, hS2.F ht9⟩) hS2.2.2 dL_plan_25
set_option maxHeartbeats 4000000 in
set_option maxRecDepth 100000 in
theorem qL_know (l : Launch) (hfl : l.stackTraces = false) (A : Nat → Prop) (D : va_G) (cy : Nat → ClassId) (g : CWt) (hL : CL A g) (S : St) (e0 mi n0 oa : Nat) (hA : ∀ q, n0 ≤ q → A q) (hoA : ¬ A oa) (hV : CV e0 g S) (hZ : ZR S) (hPP : NPK S) (p0 : Int32) : vx_Met l yL_know wsL_know ({ frames := 9, cells := 6, slots := 326, locals := 240 } : Room) (va_Pc [.ref (ga g 18 0), .int p0, .ref oa] (LPw A D cy g S e0 mi n0 oa)) (va_Qi (fun (r : Int32) (g1 : CWt) => r = mp3 (fX7_know S p0).2.1 ∧ LG A g e0 g1 (fX7_know S p0).2.2) (fun g1 t => CH D cy g1 (fX7_know S p0).2.2 t.heap ∧ ∃ v, at1 D oa (LA cy v) t.heap ∧ ((fX7_know S p0).2.1 = 0 → v = (if (fX7_know S p0).1 = 0 then (0 : Int64) else 1))) (fun q => A q ∨ q = oa)) LF 6 326 (fun q => A q ∨ q = oa) := by
  refine vx_ofWH (cc := cL_know) (maxL := 4) (ret := (some .int)) (hh := [(0, 16, 19, 13)]) (by decide) rfl ?_
  intro p e s m args below meth c s₁ B hml hv
  obtain ⟨rfl, ⟨⟨⟨hM, hK⟩, hJ⟩, hX, hO, hn0⟩, hNc, v0, hOut⟩ := hv
  have hx := B.exec
  have hb := B.bytes
  have hr := B.returns
  have hts := atoms_spec (ws := wsL_know) B.pre
  have hown : s.vm.findClass RL = some m.cls := findClass_of_methodNamed B.named
  have hct := vx_table (p := p) (x := yL_know) B (hts (.codeWith yL_know cL_know 4 (some .int) [(0, 16, 19, 13)]) List.mem_cons_self)
  have hC : CC p s m _ c cL_know 4 RL D cy wsL_know := ⟨⟨hx, hb, hml, hown, hts⟩, hK⟩
  have hI : CI A D cy g s S s.heap [] := ⟨hM, va_S.rf⟩
  have hS : va_S (fun q => A q ∨ q = oa) s.heap s.heap [] := va_S.rf
  have k_13 := hts (.classLink RL 13 "java/lang/IndexOutOfBoundsException") (List.mem_cons_of_mem _ (List.mem_append_left _ (List.mem_append_left _ (List.mem_append_left _ (List.mem_append_left _ (List.mem_append_left _ (List.mem_of_getElem? (i := 0) rfl)))))))
  have hl := lv_entry ([.ref (ga g 18 0), .int p0, .ref oa]) (n := 4) (Nat.le_of_ble_eq_true rfl)
  rw [lg_entry_eq]
  generalize (lg_sl ([.ref (ga g 18 0), .int p0, .ref oa]) ++ List.replicate (4 - (lg_sl ([.ref (ga g 18 0), .int p0, .ref oa])).length) Slot.unset).toArray = ls at hl ⊢
  have hl : lv_has ls 4 [(0, .ref (ga g 18 0)), (1, .int p0), (2, .ref oa)] := hl
  refine lv_aload_n hx hb dL_know_0 rfl (lv_at hl 2 rfl) ?_
  refine lv_iconst (v := 0) hx hb dL_know_1 (by decide) ?_
  refine lv_aload_n hx hb dL_know_2 rfl (lv_at hl 0 rfl) ?_
  refine lv_iload_n hx hb dL_know_3 rfl (lv_at hl 1 rfl) ?_
  refine vx_calli (vx_runV (As := [.int p0]) (rest := [.int 0, .ref oa]) hC.1 (qX7_know l hfl A D cy g hL S e0 hV p0) (cwV 1 hts gL_know_X7_know rfl rfl rfl (by decide +kernel) ⟨Nat.le_of_ble_eq_true rfl, Nat.le_of_ble_eq_true rfl⟩) ⟨CTh_blind, cr_recv (ci := 8) hC.2 hI 18 0 rfl rfl rfl, fun U hU hW => ⟨rfl, ⟨by rw [hU]; exact hM, va_K.moved hW.alike hK⟩, by rw [hU]; exact JT.warm hW hJ⟩⟩ rfl rfl hl.1 rfl (lv_room (Nat.le_of_ble_eq_true rfl)) dL_know_4 ⟨Nat.le_of_ble_eq_true rfl, Nat.le_of_ble_eq_true rfl⟩) hS (fun q _ h => Or.inl h) (fun q h => Or.inl h) (fun q _ h => Or.inl h) (fun E ce q9 u t H1 locs1 ht hvm hp hE hz1 hk1 hS1 hce hcv hcl => ?_) (fun r u t H1 locs1 ht hvm hp hB hz1 hk1 hS1 => ?_)
  · obtain ⟨hE, hM1⟩ := hE
    rw [ht] at hM1
    have hOut1 : at1 D oa (LA cy v0) H1 := hOut.kept (hk1 oa hOut.lt hoA)
    obtain ⟨hc7, hs7⟩ := c7_know S p0
    have hS2 := hs7 hp
    rcases hc7 with h0 | h0
    · exact absurd h0 hp
    · have hE : E = "java/lang/IndexOutOfBoundsException" := hE.trans (by rw [h0]; rfl)
      subst hE
      refine vx_catch hown [] ⟨0, 16, 19, 13⟩ [] (by rw [hct]; rfl) (fun _ hz => absurd hz List.not_mem_nil) rfl (by decide) k_13 (va_Nw.use (jwl_tab _ (List.mem_of_getElem? (i := 0) rfl)) (hJ.2.2.2 _ (List.mem_of_getElem? (i := 0) rfl))) hce hcv hcl ?_
      refine lv_astore_n (lv' := [(3, .ref q9), (0, .ref (ga g 18 0)), (1, .int p0), (2, .ref oa)]) hx hb dL_know_19 rfl hl (by decide) rfl (fun ls hl => ?_)
      refine lv_iconst (v := 1) hx hb dL_know_20 (by decide) ?_
      refine vx_ret ?_
      refine W.widen (k := 6) (n := 326) (Nat.le_of_ble_eq_true rfl) (Nat.le_of_ble_eq_true rfl) ?_
      exact W.iret (v := 1) hx hb hr (fun t9 ht9 hW9 => ⟨⟨1, g, rfl, ⟨by rw [h0]; rfl, hL, hV.1, by rw [hS2]; exact hV.2.1, rfl⟩, ⟨by rw [ht9, hS2]; exact hM1, v0, by rw [ht9]; exact hOut1, fun q => absurd q hp⟩⟩, hS1.F ht9⟩) hS1.2.2 dL_know_21
  · rw [ht] at hB
    have hOut1 : at1 D oa (LA cy v0) H1 := hOut.kept (hk1 oa hOut.lt hoA)
    obtain ⟨hp0, hr1⟩ := hp
    refine lv_if_eq (tgt := 14) hx hb dL_know_7 (by decide) (fun c0 => ?_) (fun c0 => ?_)
    · refine lv_lconst (v := 0) hx hb dL_know_14 rfl ?_
      refine lw_put (x := (0 : Int64)) hx hb hK hOut1 dL_know_15 (fun H2 j hO2 hz2 oq2 => ?_)
      have hS2 := S_put j hS1 hz2 oq2 (Or.inr rfl)
      refine lv_goto (tgt := 22) hx hb dL_know_16 (by decide) ?_
      refine lv_iconst (v := 0) hx hb dL_know_22 (by decide) ?_
      refine vx_ret ?_
      refine W.widen (k := 6) (n := 326) (Nat.le_of_ble_eq_true rfl) (Nat.le_of_ble_eq_true rfl) ?_
      exact W.iret (v := 0) hx hb hr (fun t9 ht9 hW9 => ⟨⟨0, g, rfl, ⟨by rw [hp0]; rfl, hL, hV.1, (k7_know S p0).ct hV.2.1, rfl⟩, ⟨by rw [ht9]; exact hB.off hL hoA oq2, (0 : Int64), by rw [ht9]; exact hO2, fun _ => by rw [← hr1, if_pos c0]⟩⟩, hS2.F ht9⟩) hS2.2.2 dL_know_23
    · refine lv_lconst (v := 1) hx hb dL_know_10 rfl ?_
      refine lv_goto (tgt := 15) hx hb dL_know_11 (by decide) ?_
      refine lw_put (x := (1 : Int64)) hx hb hK hOut1 dL_know_15 (fun H2 j hO2 hz2 oq2 => ?_)
      have hS2 := S_put j hS1 hz2 oq2 (Or.inr rfl)
      refine lv_goto (tgt := 22) hx hb dL_know_16 (by decide) ?_
      refine lv_iconst (v := 0) hx hb dL_know_22 (by decide) ?_
      refine vx_ret ?_
      refine W.widen (k := 6) (n := 326) (Nat.le_of_ble_eq_true rfl) (Nat.le_of_ble_eq_true rfl) ?_
      exact W.iret (v := 0) hx hb hr (fun t9 ht9 hW9 => ⟨⟨0, g, rfl, ⟨by rw [hp0]; rfl, hL, hV.1, (k7_know S p0).ct hV.2.1, rfl⟩, ⟨by rw [ht9]; exact hB.off hL hoA oq2, (1 : Int64), by rw [ht9]; exact hO2, fun _ => by rw [← hr1, if_neg c0]⟩⟩, hS2.F ht9⟩) hS2.2.2 dL_know_23
set_option maxHeartbeats 4000000 in
set_option maxRecDepth 100000 in
theorem qL_admit (l : Launch) (hfl : l.stackTraces = false) (A : Nat → Prop) (D : va_G) (cy : Nat → ClassId) (g : CWt) (hL : CL A g) (S : St) (e0 mi n0 oa : Nat) (hA : ∀ q, n0 ≤ q → A q) (hoA : ¬ A oa) (hV : CV e0 g S) (hZ : ZR S) (hPP : NPK S) (p0 : Int32) : vx_Met l yL_admit wsL_admit ({ frames := 9, cells := 6, slots := 326, locals := 240 } : Room) (va_Pc [.ref (ga g 18 0), .int p0, .ref oa] (LPw A D cy g S e0 mi n0 oa)) (va_Qi (fun (r : Int32) (g1 : CWt) => r = mp13 (fX7_admit S p0).2.1 ∧ LG A g e0 g1 (fX7_admit S p0).2.2) (fun g1 t => CH D cy g1 (fX7_admit S p0).2.2 t.heap ∧ ∃ v, at1 D oa (LA cy v) t.heap ∧ ((fX7_admit S p0).2.1 = 0 → v = (if (fX7_admit S p0).1 = 0 then (0 : Int64) else 1))) (fun q => A q ∨ q = oa)) LF 6 326 (fun q => A q ∨ q = oa) := by
  refine vx_ofWH (cc := cL_admit) (maxL := 4) (ret := (some .int)) (hh := [(0, 16, 19, 13), (0, 16, 22, 17)]) (by decide) rfl ?_
  intro p e s m args below meth c s₁ B hml hv
  obtain ⟨rfl, ⟨⟨⟨hM, hK⟩, hJ⟩, hX, hO, hn0⟩, hNc, v0, hOut⟩ := hv
  have hx := B.exec
  have hb := B.bytes
  have hr := B.returns
  have hts := atoms_spec (ws := wsL_admit) B.pre
  have hown : s.vm.findClass RL = some m.cls := findClass_of_methodNamed B.named
  have hct := vx_table (p := p) (x := yL_admit) B (hts (.codeWith yL_admit cL_admit 4 (some .int) [(0, 16, 19, 13), (0, 16, 22, 17)]) List.mem_cons_self)
  have hC : CC p s m _ c cL_admit 4 RL D cy wsL_admit := ⟨⟨hx, hb, hml, hown, hts⟩, hK⟩
  have hI : CI A D cy g s S s.heap [] := ⟨hM, va_S.rf⟩
  have hS : va_S (fun q => A q ∨ q = oa) s.heap s.heap [] := va_S.rf
  have k_13 := hts (.classLink RL 13 "java/lang/IndexOutOfBoundsException") (List.mem_cons_of_mem _ (List.mem_append_left _ (List.mem_append_left _ (List.mem_append_left _ (List.mem_append_left _ (List.mem_append_left _ (List.mem_append_left _ (List.mem_append_left _ (List.mem_append_left _ (List.mem_of_getElem? (i := 0) rfl))))))))))
  have k_17 := hts (.classLink RL 17 "java/lang/IllegalStateException") (List.mem_cons_of_mem _ (List.mem_append_left _ (List.mem_append_left _ (List.mem_append_left _ (List.mem_append_left _ (List.mem_append_left _ (List.mem_append_left _ (List.mem_append_left _ (List.mem_append_left _ (List.mem_of_getElem? (i := 1) rfl))))))))))
  have hl := lv_entry ([.ref (ga g 18 0), .int p0, .ref oa]) (n := 4) (Nat.le_of_ble_eq_true rfl)
  rw [lg_entry_eq]
  generalize (lg_sl ([.ref (ga g 18 0), .int p0, .ref oa]) ++ List.replicate (4 - (lg_sl ([.ref (ga g 18 0), .int p0, .ref oa])).length) Slot.unset).toArray = ls at hl ⊢
  have hl : lv_has ls 4 [(0, .ref (ga g 18 0)), (1, .int p0), (2, .ref oa)] := hl
  refine lv_aload_n hx hb dL_admit_0 rfl (lv_at hl 2 rfl) ?_
  refine lv_iconst (v := 0) hx hb dL_admit_1 (by decide) ?_
  refine lv_aload_n hx hb dL_admit_2 rfl (lv_at hl 0 rfl) ?_
  refine lv_iload_n hx hb dL_admit_3 rfl (lv_at hl 1 rfl) ?_
  refine vx_calli (vx_runV (As := [.int p0]) (rest := [.int 0, .ref oa]) hC.1 (qX7_admit l hfl A D cy g hL S e0 hV p0) (cwV 1 hts gL_admit_X7_admit rfl rfl rfl (by decide +kernel) ⟨Nat.le_of_ble_eq_true rfl, Nat.le_of_ble_eq_true rfl⟩) ⟨CTh_blind, cr_recv (ci := 8) hC.2 hI 18 0 rfl rfl rfl, fun U hU hW => ⟨rfl, ⟨by rw [hU]; exact hM, va_K.moved hW.alike hK⟩, by rw [hU]; exact JT.warm hW hJ⟩⟩ rfl rfl hl.1 rfl (lv_room (Nat.le_of_ble_eq_true rfl)) dL_admit_4 ⟨Nat.le_of_ble_eq_true rfl, Nat.le_of_ble_eq_true rfl⟩) hS (fun q _ h => Or.inl h) (fun q h => Or.inl h) (fun q _ h => Or.inl h) (fun E ce q9 u t H1 locs1 ht hvm hp hE hz1 hk1 hS1 hce hcv hcl => ?_) (fun r u t H1 locs1 ht hvm hp hB hz1 hk1 hS1 => ?_)
  · obtain ⟨hE, hM1⟩ := hE
    rw [ht] at hM1
    have hOut1 : at1 D oa (LA cy v0) H1 := hOut.kept (hk1 oa hOut.lt hoA)
    obtain ⟨hc7, hs7⟩ := c7_admit S p0
    have hS2 := hs7 hp
    rcases hc7 with h0 | h0 | h0
    · exact absurd h0 hp
    · have hE : E = "java/lang/IndexOutOfBoundsException" := hE.trans (by rw [h0]; rfl)
      subst hE
      refine vx_catch hown [] ⟨0, 16, 19, 13⟩ [⟨0, 16, 22, 17⟩] (by rw [hct]; rfl) (fun _ hz => absurd hz List.not_mem_nil) rfl (by decide) k_13 (va_Nw.use (jwl_tab _ (List.mem_of_getElem? (i := 0) rfl)) (hJ.2.2.2 _ (List.mem_of_getElem? (i := 0) rfl))) hce hcv hcl ?_
      refine lv_astore_n (lv' := [(3, .ref q9), (0, .ref (ga g 18 0)), (1, .int p0), (2, .ref oa)]) hx hb dL_admit_19 rfl hl (by decide) rfl (fun ls hl => ?_)
      refine lv_iconst (v := 1) hx hb dL_admit_20 (by decide) ?_
      refine vx_ret ?_
      refine W.widen (k := 6) (n := 326) (Nat.le_of_ble_eq_true rfl) (Nat.le_of_ble_eq_true rfl) ?_
      exact W.iret (v := 1) hx hb hr (fun t9 ht9 hW9 => ⟨⟨1, g, rfl, ⟨by rw [h0]; rfl, hL, hV.1, by rw [hS2]; exact hV.2.1, rfl⟩, ⟨by rw [ht9, hS2]; exact hM1, v0, by rw [ht9]; exact hOut1, fun q => absurd q hp⟩⟩, hS1.F ht9⟩) hS1.2.2 dL_admit_21
    · have hE : E = "java/lang/IllegalStateException" := hE.trans (by rw [h0]; rfl)
      subst hE
      refine vx_catch hown [⟨0, 16, 19, 13⟩] ⟨0, 16, 22, 17⟩ [] (by rw [hct]; rfl) (List.forall_mem_cons.mpr ⟨Or.inr ⟨by decide, _, k_13, hNc.2.1⟩, fun _ hz => absurd hz List.not_mem_nil⟩) rfl (by decide) k_17 (va_Nw.use (jwl_tab _ (List.mem_of_getElem? (i := 2) rfl)) (hJ.2.2.2 _ (List.mem_of_getElem? (i := 2) rfl))) hce hcv hcl ?_
      refine lv_astore_n (lv' := [(3, .ref q9), (0, .ref (ga g 18 0)), (1, .int p0), (2, .ref oa)]) hx hb dL_admit_22 rfl hl (by decide) rfl (fun ls hl => ?_)
      refine lv_iconst (v := 2) hx hb dL_admit_23 (by decide) ?_
      refine vx_ret ?_
      refine W.widen (k := 6) (n := 326) (Nat.le_of_ble_eq_true rfl) (Nat.le_of_ble_eq_true rfl) ?_
      exact W.iret (v := 2) hx hb hr (fun t9 ht9 hW9 => ⟨⟨2, g, rfl, ⟨by rw [h0]; rfl, hL, hV.1, by rw [hS2]; exact hV.2.1, rfl⟩, ⟨by rw [ht9, hS2]; exact hM1, v0, by rw [ht9]; exact hOut1, fun q => absurd q hp⟩⟩, hS1.F ht9⟩) hS1.2.2 dL_admit_24
  · rw [ht] at hB
    have hOut1 : at1 D oa (LA cy v0) H1 := hOut.kept (hk1 oa hOut.lt hoA)
    obtain ⟨hp0, hr1⟩ := hp
    refine lv_if_eq (tgt := 14) hx hb dL_admit_7 (by decide) (fun c0 => ?_) (fun c0 => ?_)
    · refine lv_lconst (v := 0) hx hb dL_admit_14 rfl ?_
      refine lw_put (x := (0 : Int64)) hx hb hK hOut1 dL_admit_15 (fun H2 j hO2 hz2 oq2 => ?_)
      have hS2 := S_put j hS1 hz2 oq2 (Or.inr rfl)
      refine lv_goto (tgt := 25) hx hb dL_admit_16 (by decide) ?_
      refine lv_iconst (v := 0) hx hb dL_admit_25 (by decide) ?_
      refine vx_ret ?_
      refine W.widen (k := 6) (n := 326) (Nat.le_of_ble_eq_true rfl) (Nat.le_of_ble_eq_true rfl) ?_
      exact W.iret (v := 0) hx hb hr (fun t9 ht9 hW9 => ⟨⟨0, g, rfl, ⟨by rw [hp0]; rfl, hL, hV.1, (k7_admit S p0).ct hV.2.1, rfl⟩, ⟨by rw [ht9]; exact hB.off hL hoA oq2, (0 : Int64), by rw [ht9]; exact hO2, fun _ => by rw [← hr1, if_pos c0]⟩⟩, hS2.F ht9⟩) hS2.2.2 dL_admit_26
    · refine lv_lconst (v := 1) hx hb dL_admit_10 rfl ?_
      refine lv_goto (tgt := 15) hx hb dL_admit_11 (by decide) ?_
      refine lw_put (x := (1 : Int64)) hx hb hK hOut1 dL_admit_15 (fun H2 j hO2 hz2 oq2 => ?_)
      have hS2 := S_put j hS1 hz2 oq2 (Or.inr rfl)
      refine lv_goto (tgt := 25) hx hb dL_admit_16 (by decide) ?_
      refine lv_iconst (v := 0) hx hb dL_admit_25 (by decide) ?_
      refine vx_ret ?_
      refine W.widen (k := 6) (n := 326) (Nat.le_of_ble_eq_true rfl) (Nat.le_of_ble_eq_true rfl) ?_
      exact W.iret (v := 0) hx hb hr (fun t9 ht9 hW9 => ⟨⟨0, g, rfl, ⟨by rw [hp0]; rfl, hL, hV.1, (k7_admit S p0).ct hV.2.1, rfl⟩, ⟨by rw [ht9]; exact hB.off hL hoA oq2, (1 : Int64), by rw [ht9]; exact hO2, fun _ => by rw [← hr1, if_neg c0]⟩⟩, hS2.F ht9⟩) hS2.2.2 dL_admit_26
set_option maxHeartbeats 4000000 in
set_option maxRecDepth 100000 in
theorem qL_deal (l : Launch) (hfl : l.stackTraces = false) (A : Nat → Prop) (D : va_G) (cy : Nat → ClassId) (g : CWt) (hL : CL A g) (S : St) (e0 mi n0 oa : Nat) (hA : ∀ q, n0 ≤ q → A q) (hoA : ¬ A oa) (hV : CV e0 g S) (hZ : ZR S) (hPP : NPK S) (p0 p1 p2 : Int32) : vx_Met l yL_deal wsL_deal ({ frames := 9, cells := 6, slots := 326, locals := 240 } : Room) (va_Pc [.ref (ga g 18 0), .int p0, .int p1, .int p2, .ref oa] (LPw A D cy g S e0 mi n0 oa)) (va_Qi (fun (r : Int32) (g1 : CWt) => r = mp3 (fX7_deal S p0 p1 p2).2.1 ∧ LG A g e0 g1 (fX7_deal S p0 p1 p2).2.2) (fun g1 t => CH D cy g1 (fX7_deal S p0 p1 p2).2.2 t.heap ∧ ∃ v, at1 D oa (LA cy v) t.heap ∧ ((fX7_deal S p0 p1 p2).2.1 = 0 → v = ((fX7_deal S p0 p1 p2).1.toInt64))) (fun q => A q ∨ q = oa)) LF 6 326 (fun q => A q ∨ q = oa) := by
  refine vx_ofWH (cc := cL_deal) (maxL := 6) (ret := (some .int)) (hh := [(0, 12, 15, 13), (0, 12, 19, 15), (0, 12, 23, 17)]) (by decide) rfl ?_
  intro p e s m args below meth c s₁ B hml hv
  obtain ⟨rfl, ⟨⟨⟨hM, hK⟩, hJ⟩, hX, hO, hn0⟩, hNc, v0, hOut⟩ := hv
  have hx := B.exec
  have hb := B.bytes
  have hr := B.returns
  have hts := atoms_spec (ws := wsL_deal) B.pre
  have hown : s.vm.findClass RL = some m.cls := findClass_of_methodNamed B.named
  have hct := vx_table (p := p) (x := yL_deal) B (hts (.codeWith yL_deal cL_deal 6 (some .int) [(0, 12, 15, 13), (0, 12, 19, 15), (0, 12, 23, 17)]) List.mem_cons_self)
  have hC : CC p s m _ c cL_deal 6 RL D cy wsL_deal := ⟨⟨hx, hb, hml, hown, hts⟩, hK⟩
  have hI : CI A D cy g s S s.heap [] := ⟨hM, va_S.rf⟩
  have hS : va_S (fun q => A q ∨ q = oa) s.heap s.heap [] := va_S.rf
  have k_13 := hts (.classLink RL 13 "java/lang/IndexOutOfBoundsException") (List.mem_cons_of_mem _ (List.mem_append_left _ (List.mem_append_left _ (List.mem_append_left _ (List.mem_append_left _ (List.mem_append_left _ (List.mem_append_left _ (List.mem_append_left _ (List.mem_append_left _ (List.mem_of_getElem? (i := 0) rfl))))))))))
  have k_15 := hts (.classLink RL 15 "java/lang/IllegalArgumentException") (List.mem_cons_of_mem _ (List.mem_append_left _ (List.mem_append_left _ (List.mem_append_left _ (List.mem_append_left _ (List.mem_append_left _ (List.mem_append_left _ (List.mem_append_left _ (List.mem_append_left _ (List.mem_of_getElem? (i := 1) rfl))))))))))
  have k_17 := hts (.classLink RL 17 "java/lang/IllegalStateException") (List.mem_cons_of_mem _ (List.mem_append_left _ (List.mem_append_left _ (List.mem_append_left _ (List.mem_append_left _ (List.mem_append_left _ (List.mem_append_left _ (List.mem_append_left _ (List.mem_append_left _ (List.mem_of_getElem? (i := 2) rfl))))))))))
  have hl := lv_entry ([.ref (ga g 18 0), .int p0, .int p1, .int p2, .ref oa]) (n := 6) (Nat.le_of_ble_eq_true rfl)
  rw [lg_entry_eq]
  generalize (lg_sl ([.ref (ga g 18 0), .int p0, .int p1, .int p2, .ref oa]) ++ List.replicate (6 - (lg_sl ([.ref (ga g 18 0), .int p0, .int p1, .int p2, .ref oa])).length) Slot.unset).toArray = ls at hl ⊢
  have hl : lv_has ls 6 [(0, .ref (ga g 18 0)), (1, .int p0), (2, .int p1), (3, .int p2), (4, .ref oa)] := hl
  refine lv_aload hx hb dL_deal_0 (lv_at hl 4 rfl) ?_
  refine lv_iconst (v := 0) hx hb dL_deal_2 (by decide) ?_
  refine lv_aload_n hx hb dL_deal_3 rfl (lv_at hl 0 rfl) ?_
  refine lv_iload_n hx hb dL_deal_4 rfl (lv_at hl 1 rfl) ?_
  refine lv_iload_n hx hb dL_deal_5 rfl (lv_at hl 2 rfl) ?_
  refine lv_iload_n hx hb dL_deal_6 rfl (lv_at hl 3 rfl) ?_
  refine vx_calli (vx_runV (As := [.int p0, .int p1, .int p2]) (rest := [.int 0, .ref oa]) hC.1 (qX7_deal l hfl A D cy g hL S e0 mi n0 hA hV hZ p0 p1 p2) (cwV 3 hts gL_deal_X7_deal rfl rfl rfl (by decide +kernel) ⟨Nat.le_of_ble_eq_true rfl, Nat.le_of_ble_eq_true rfl⟩) ⟨LM_blind, cr_recv (ci := 8) hC.2 hI 18 0 rfl rfl rfl, fun U hU hW => ⟨rfl, ⟨⟨by rw [hU]; exact hM, va_K.moved hW.alike hK⟩, by rw [hU]; exact JT.warm hW hJ⟩, by rw [hU]; exact JX.moved hW.alike hX, JO.warm hW hO, by rw [hU]; exact hn0⟩⟩ rfl rfl hl.1 rfl (lv_room (Nat.le_of_ble_eq_true rfl)) dL_deal_7 ⟨Nat.le_of_ble_eq_true rfl, Nat.le_of_ble_eq_true rfl⟩) hS (fun q _ h => Or.inl h) (fun q h => Or.inl h) (fun q _ h => Or.inl h) (fun E ce q9 u t H1 locs1 ht hvm hp hE hz1 hk1 hS1 hce hcv hcl => ?_) (fun r u t H1 locs1 ht hvm hp hB hz1 hk1 hS1 => ?_)
  · obtain ⟨hE, hM1⟩ := hE
    rw [ht] at hM1
    have hOut1 : at1 D oa (LA cy v0) H1 := hOut.kept (hk1 oa hOut.lt hoA)
    obtain ⟨hc7, hs7⟩ := c7_deal S p0 p1 p2
    have hS2 := hs7 hp
    rcases hc7 with h0 | h0 | h0 | h0
    · exact absurd h0 hp
    · have hE : E = "java/lang/IndexOutOfBoundsException" := hE.trans (by rw [h0]; rfl)
      subst hE
      refine vx_catch hown [] ⟨0, 12, 15, 13⟩ [⟨0, 12, 19, 15⟩, ⟨0, 12, 23, 17⟩] (by rw [hct]; rfl) (fun _ hz => absurd hz List.not_mem_nil) rfl (by decide) k_13 (va_Nw.use (jwl_tab _ (List.mem_of_getElem? (i := 0) rfl)) (hJ.2.2.2 _ (List.mem_of_getElem? (i := 0) rfl))) hce hcv hcl ?_
      refine lv_astore (lv' := [(5, .ref q9), (0, .ref (ga g 18 0)), (1, .int p0), (2, .int p1), (3, .int p2), (4, .ref oa)]) hx hb dL_deal_15 hl (by decide) rfl (fun ls hl => ?_)
      refine lv_iconst (v := 1) hx hb dL_deal_17 (by decide) ?_
      refine vx_ret ?_
      refine W.widen (k := 6) (n := 326) (Nat.le_of_ble_eq_true rfl) (Nat.le_of_ble_eq_true rfl) ?_
      exact W.iret (v := 1) hx hb hr (fun t9 ht9 hW9 => ⟨⟨1, g, rfl, ⟨by rw [h0]; rfl, hL, hV.1, by rw [hS2]; exact hV.2.1, rfl⟩, ⟨by rw [ht9, hS2]; exact hM1, v0, by rw [ht9]; exact hOut1, fun q => absurd q hp⟩⟩, hS1.F ht9⟩) hS1.2.2 dL_deal_18
    · have hE : E = "java/lang/IllegalArgumentException" := hE.trans (by rw [h0]; rfl)
      subst hE
      refine vx_catch hown [⟨0, 12, 15, 13⟩] ⟨0, 12, 19, 15⟩ [⟨0, 12, 23, 17⟩] (by rw [hct]; rfl) (List.forall_mem_cons.mpr ⟨Or.inr ⟨by decide, _, k_13, hNc.1⟩, fun _ hz => absurd hz List.not_mem_nil⟩) rfl (by decide) k_15 (va_Nw.use (jwl_tab _ (List.mem_of_getElem? (i := 1) rfl)) (hJ.2.2.2 _ (List.mem_of_getElem? (i := 1) rfl))) hce hcv hcl ?_
      refine lv_astore (lv' := [(5, .ref q9), (0, .ref (ga g 18 0)), (1, .int p0), (2, .int p1), (3, .int p2), (4, .ref oa)]) hx hb dL_deal_19 hl (by decide) rfl (fun ls hl => ?_)
      refine lv_iconst (v := 2) hx hb dL_deal_21 (by decide) ?_
      refine vx_ret ?_
      refine W.widen (k := 6) (n := 326) (Nat.le_of_ble_eq_true rfl) (Nat.le_of_ble_eq_true rfl) ?_
      exact W.iret (v := 2) hx hb hr (fun t9 ht9 hW9 => ⟨⟨2, g, rfl, ⟨by rw [h0]; rfl, hL, hV.1, by rw [hS2]; exact hV.2.1, rfl⟩, ⟨by rw [ht9, hS2]; exact hM1, v0, by rw [ht9]; exact hOut1, fun q => absurd q hp⟩⟩, hS1.F ht9⟩) hS1.2.2 dL_deal_22
    · have hE : E = "java/lang/IllegalStateException" := hE.trans (by rw [h0]; rfl)
      subst hE
      refine vx_catch hown [⟨0, 12, 15, 13⟩, ⟨0, 12, 19, 15⟩] ⟨0, 12, 23, 17⟩ [] (by rw [hct]; rfl) (List.forall_mem_cons.mpr ⟨Or.inr ⟨by decide, _, k_13, hNc.2.1⟩, List.forall_mem_cons.mpr ⟨Or.inr ⟨by decide, _, k_15, hNc.2.2⟩, fun _ hz => absurd hz List.not_mem_nil⟩⟩) rfl (by decide) k_17 (va_Nw.use (jwl_tab _ (List.mem_of_getElem? (i := 2) rfl)) (hJ.2.2.2 _ (List.mem_of_getElem? (i := 2) rfl))) hce hcv hcl ?_
      refine lv_astore (lv' := [(5, .ref q9), (0, .ref (ga g 18 0)), (1, .int p0), (2, .int p1), (3, .int p2), (4, .ref oa)]) hx hb dL_deal_23 hl (by decide) rfl (fun ls hl => ?_)
      refine lv_iconst (v := 3) hx hb dL_deal_25 (by decide) ?_
      refine vx_ret ?_
      refine W.widen (k := 6) (n := 326) (Nat.le_of_ble_eq_true rfl) (Nat.le_of_ble_eq_true rfl) ?_
      exact W.iret (v := 3) hx hb hr (fun t9 ht9 hW9 => ⟨⟨3, g, rfl, ⟨by rw [h0]; rfl, hL, hV.1, by rw [hS2]; exact hV.2.1, rfl⟩, ⟨by rw [ht9, hS2]; exact hM1, v0, by rw [ht9]; exact hOut1, fun q => absurd q hp⟩⟩, hS1.F ht9⟩) hS1.2.2 dL_deal_26
  · rw [ht] at hB
    have hOut1 : at1 D oa (LA cy v0) H1 := hOut.kept (hk1 oa hOut.lt hoA)
    obtain ⟨hp0, hr1, hL1, hG1, hT1, h18⟩ := hp
    refine lv_i2l hx hb dL_deal_10 rfl ?_
    refine lw_put (x := r.toInt64) hx hb hK hOut1 dL_deal_11 (fun H2 j hO2 hz2 oq2 => ?_)
    have hS2 := S_put j hS1 hz2 oq2 (Or.inr rfl)
    refine lv_goto (tgt := 27) hx hb dL_deal_12 (by decide) ?_
    refine lv_iconst (v := 0) hx hb dL_deal_27 (by decide) ?_
    refine vx_ret ?_
    refine W.widen (k := 6) (n := 326) (Nat.le_of_ble_eq_true rfl) (Nat.le_of_ble_eq_true rfl) ?_
    exact W.iret (v := 0) hx hb hr (fun t9 ht9 hW9 => ⟨⟨0, u, rfl, ⟨by rw [hp0]; rfl, hL1, hG1, hT1, h18⟩, ⟨by rw [ht9]; exact hB.off hL1 hoA oq2, r.toInt64, by rw [ht9]; exact hO2, fun _ => by rw [hr1]⟩⟩, hS2.F ht9⟩) hS2.2.2 dL_deal_28
set_option maxHeartbeats 4000000 in
set_option maxRecDepth 100000 in
theorem qL_file (l : Launch) (hfl : l.stackTraces = false) (A : Nat → Prop) (D : va_G) (cy : Nat → ClassId) (g : CWt) (hL : CL A g) (S : St) (e0 mi n0 oa : Nat) (hA : ∀ q, n0 ≤ q → A q) (hoA : ¬ A oa) (hV : CV e0 g S) (hZ : ZR S) (hPP : NPK S) (p0 p1 p2 : Int32) : vx_Met l yL_file wsL_file ({ frames := 9, cells := 6, slots := 326, locals := 240 } : Room) (va_Pc [.ref (ga g 18 0), .int p0, .int p1, .int p2, .ref oa] (LPw A D cy g S e0 mi n0 oa)) (va_Qi (fun (r : Int32) (g1 : CWt) => r = mp3 (fX7_file S p0 p1 p2).2.1 ∧ LG A g e0 g1 (fX7_file S p0 p1 p2).2.2) (fun g1 t => CH D cy g1 (fX7_file S p0 p1 p2).2.2 t.heap ∧ ∃ v, at1 D oa (LA cy v) t.heap ∧ ((fX7_file S p0 p1 p2).2.1 = 0 → v = ((fX7_file S p0 p1 p2).1.toInt64))) (fun q => A q ∨ q = oa)) LF 6 326 (fun q => A q ∨ q = oa) := by
  refine vx_ofWH (cc := cL_file) (maxL := 6) (ret := (some .int)) (hh := [(0, 12, 15, 13), (0, 12, 19, 15), (0, 12, 23, 17)]) (by decide) rfl ?_
  intro p e s m args below meth c s₁ B hml hv
  obtain ⟨rfl, ⟨⟨⟨hM, hK⟩, hJ⟩, hX, hO, hn0⟩, hNc, v0, hOut⟩ := hv
  have hx := B.exec
  have hb := B.bytes
  have hr := B.returns
  have hts := atoms_spec (ws := wsL_file) B.pre
  have hown : s.vm.findClass RL = some m.cls := findClass_of_methodNamed B.named
  have hct := vx_table (p := p) (x := yL_file) B (hts (.codeWith yL_file cL_file 6 (some .int) [(0, 12, 15, 13), (0, 12, 19, 15), (0, 12, 23, 17)]) List.mem_cons_self)
  have hC : CC p s m _ c cL_file 6 RL D cy wsL_file := ⟨⟨hx, hb, hml, hown, hts⟩, hK⟩
  have hI : CI A D cy g s S s.heap [] := ⟨hM, va_S.rf⟩
  have hS : va_S (fun q => A q ∨ q = oa) s.heap s.heap [] := va_S.rf
  have k_13 := hts (.classLink RL 13 "java/lang/IndexOutOfBoundsException") (List.mem_cons_of_mem _ (List.mem_append_left _ (List.mem_append_left _ (List.mem_append_left _ (List.mem_append_left _ (List.mem_append_left _ (List.mem_append_left _ (List.mem_append_left _ (List.mem_append_left _ (List.mem_append_left _ (List.mem_of_getElem? (i := 0) rfl)))))))))))
  have k_15 := hts (.classLink RL 15 "java/lang/IllegalArgumentException") (List.mem_cons_of_mem _ (List.mem_append_left _ (List.mem_append_left _ (List.mem_append_left _ (List.mem_append_left _ (List.mem_append_left _ (List.mem_append_left _ (List.mem_append_left _ (List.mem_append_left _ (List.mem_append_left _ (List.mem_of_getElem? (i := 1) rfl)))))))))))
  have k_17 := hts (.classLink RL 17 "java/lang/IllegalStateException") (List.mem_cons_of_mem _ (List.mem_append_left _ (List.mem_append_left _ (List.mem_append_left _ (List.mem_append_left _ (List.mem_append_left _ (List.mem_append_left _ (List.mem_append_left _ (List.mem_append_left _ (List.mem_append_left _ (List.mem_of_getElem? (i := 2) rfl)))))))))))
  have hl := lv_entry ([.ref (ga g 18 0), .int p0, .int p1, .int p2, .ref oa]) (n := 6) (Nat.le_of_ble_eq_true rfl)
  rw [lg_entry_eq]
  generalize (lg_sl ([.ref (ga g 18 0), .int p0, .int p1, .int p2, .ref oa]) ++ List.replicate (6 - (lg_sl ([.ref (ga g 18 0), .int p0, .int p1, .int p2, .ref oa])).length) Slot.unset).toArray = ls at hl ⊢
  have hl : lv_has ls 6 [(0, .ref (ga g 18 0)), (1, .int p0), (2, .int p1), (3, .int p2), (4, .ref oa)] := hl
  refine lv_aload hx hb dL_file_0 (lv_at hl 4 rfl) ?_
  refine lv_iconst (v := 0) hx hb dL_file_2 (by decide) ?_
  refine lv_aload_n hx hb dL_file_3 rfl (lv_at hl 0 rfl) ?_
  refine lv_iload_n hx hb dL_file_4 rfl (lv_at hl 1 rfl) ?_
  refine lv_iload_n hx hb dL_file_5 rfl (lv_at hl 2 rfl) ?_
  refine lv_iload_n hx hb dL_file_6 rfl (lv_at hl 3 rfl) ?_
  refine vx_calli (vx_runV (As := [.int p0, .int p1, .int p2]) (rest := [.int 0, .ref oa]) hC.1 (qX7_file l hfl A D cy g hL S e0 mi n0 hA hV hZ p0 p1 p2) (cwV 3 hts gL_file_X7_file rfl rfl rfl (by decide +kernel) ⟨Nat.le_of_ble_eq_true rfl, Nat.le_of_ble_eq_true rfl⟩) ⟨LM_blind, cr_recv (ci := 8) hC.2 hI 18 0 rfl rfl rfl, fun U hU hW => ⟨rfl, ⟨⟨by rw [hU]; exact hM, va_K.moved hW.alike hK⟩, by rw [hU]; exact JT.warm hW hJ⟩, by rw [hU]; exact JX.moved hW.alike hX, JO.warm hW hO, by rw [hU]; exact hn0⟩⟩ rfl rfl hl.1 rfl (lv_room (Nat.le_of_ble_eq_true rfl)) dL_file_7 ⟨Nat.le_of_ble_eq_true rfl, Nat.le_of_ble_eq_true rfl⟩) hS (fun q _ h => Or.inl h) (fun q h => Or.inl h) (fun q _ h => Or.inl h) (fun E ce q9 u t H1 locs1 ht hvm hp hE hz1 hk1 hS1 hce hcv hcl => ?_) (fun r u t H1 locs1 ht hvm hp hB hz1 hk1 hS1 => ?_)
  · obtain ⟨hE, hM1⟩ := hE
    rw [ht] at hM1
    have hOut1 : at1 D oa (LA cy v0) H1 := hOut.kept (hk1 oa hOut.lt hoA)
    obtain ⟨hc7, hs7⟩ := c7_file S p0 p1 p2
    have hS2 := hs7 hp
    rcases hc7 with h0 | h0 | h0 | h0
    · exact absurd h0 hp
    · have hE : E = "java/lang/IndexOutOfBoundsException" := hE.trans (by rw [h0]; rfl)
      subst hE
      refine vx_catch hown [] ⟨0, 12, 15, 13⟩ [⟨0, 12, 19, 15⟩, ⟨0, 12, 23, 17⟩] (by rw [hct]; rfl) (fun _ hz => absurd hz List.not_mem_nil) rfl (by decide) k_13 (va_Nw.use (jwl_tab _ (List.mem_of_getElem? (i := 0) rfl)) (hJ.2.2.2 _ (List.mem_of_getElem? (i := 0) rfl))) hce hcv hcl ?_
      refine lv_astore (lv' := [(5, .ref q9), (0, .ref (ga g 18 0)), (1, .int p0), (2, .int p1), (3, .int p2), (4, .ref oa)]) hx hb dL_file_15 hl (by decide) rfl (fun ls hl => ?_)
      refine lv_iconst (v := 1) hx hb dL_file_17 (by decide) ?_
      refine vx_ret ?_
      refine W.widen (k := 6) (n := 326) (Nat.le_of_ble_eq_true rfl) (Nat.le_of_ble_eq_true rfl) ?_
      exact W.iret (v := 1) hx hb hr (fun t9 ht9 hW9 => ⟨⟨1, g, rfl, ⟨by rw [h0]; rfl, hL, hV.1, by rw [hS2]; exact hV.2.1, rfl⟩, ⟨by rw [ht9, hS2]; exact hM1, v0, by rw [ht9]; exact hOut1, fun q => absurd q hp⟩⟩, hS1.F ht9⟩) hS1.2.2 dL_file_18
    · have hE : E = "java/lang/IllegalArgumentException" := hE.trans (by rw [h0]; rfl)
      subst hE
      refine vx_catch hown [⟨0, 12, 15, 13⟩] ⟨0, 12, 19, 15⟩ [⟨0, 12, 23, 17⟩] (by rw [hct]; rfl) (List.forall_mem_cons.mpr ⟨Or.inr ⟨by decide, _, k_13, hNc.1⟩, fun _ hz => absurd hz List.not_mem_nil⟩) rfl (by decide) k_15 (va_Nw.use (jwl_tab _ (List.mem_of_getElem? (i := 1) rfl)) (hJ.2.2.2 _ (List.mem_of_getElem? (i := 1) rfl))) hce hcv hcl ?_
      refine lv_astore (lv' := [(5, .ref q9), (0, .ref (ga g 18 0)), (1, .int p0), (2, .int p1), (3, .int p2), (4, .ref oa)]) hx hb dL_file_19 hl (by decide) rfl (fun ls hl => ?_)
      refine lv_iconst (v := 2) hx hb dL_file_21 (by decide) ?_
      refine vx_ret ?_
      refine W.widen (k := 6) (n := 326) (Nat.le_of_ble_eq_true rfl) (Nat.le_of_ble_eq_true rfl) ?_
      exact W.iret (v := 2) hx hb hr (fun t9 ht9 hW9 => ⟨⟨2, g, rfl, ⟨by rw [h0]; rfl, hL, hV.1, by rw [hS2]; exact hV.2.1, rfl⟩, ⟨by rw [ht9, hS2]; exact hM1, v0, by rw [ht9]; exact hOut1, fun q => absurd q hp⟩⟩, hS1.F ht9⟩) hS1.2.2 dL_file_22
    · have hE : E = "java/lang/IllegalStateException" := hE.trans (by rw [h0]; rfl)
      subst hE
      refine vx_catch hown [⟨0, 12, 15, 13⟩, ⟨0, 12, 19, 15⟩] ⟨0, 12, 23, 17⟩ [] (by rw [hct]; rfl) (List.forall_mem_cons.mpr ⟨Or.inr ⟨by decide, _, k_13, hNc.2.1⟩, List.forall_mem_cons.mpr ⟨Or.inr ⟨by decide, _, k_15, hNc.2.2⟩, fun _ hz => absurd hz List.not_mem_nil⟩⟩) rfl (by decide) k_17 (va_Nw.use (jwl_tab _ (List.mem_of_getElem? (i := 2) rfl)) (hJ.2.2.2 _ (List.mem_of_getElem? (i := 2) rfl))) hce hcv hcl ?_
      refine lv_astore (lv' := [(5, .ref q9), (0, .ref (ga g 18 0)), (1, .int p0), (2, .int p1), (3, .int p2), (4, .ref oa)]) hx hb dL_file_23 hl (by decide) rfl (fun ls hl => ?_)
      refine lv_iconst (v := 3) hx hb dL_file_25 (by decide) ?_
      refine vx_ret ?_
      refine W.widen (k := 6) (n := 326) (Nat.le_of_ble_eq_true rfl) (Nat.le_of_ble_eq_true rfl) ?_
      exact W.iret (v := 3) hx hb hr (fun t9 ht9 hW9 => ⟨⟨3, g, rfl, ⟨by rw [h0]; rfl, hL, hV.1, by rw [hS2]; exact hV.2.1, rfl⟩, ⟨by rw [ht9, hS2]; exact hM1, v0, by rw [ht9]; exact hOut1, fun q => absurd q hp⟩⟩, hS1.F ht9⟩) hS1.2.2 dL_file_26
  · rw [ht] at hB
    have hOut1 : at1 D oa (LA cy v0) H1 := hOut.kept (hk1 oa hOut.lt hoA)
    obtain ⟨hp0, hr1, hL1, hG1, hT1, h18⟩ := hp
    refine lv_i2l hx hb dL_file_10 rfl ?_
    refine lw_put (x := r.toInt64) hx hb hK hOut1 dL_file_11 (fun H2 j hO2 hz2 oq2 => ?_)
    have hS2 := S_put j hS1 hz2 oq2 (Or.inr rfl)
    refine lv_goto (tgt := 27) hx hb dL_file_12 (by decide) ?_
    refine lv_iconst (v := 0) hx hb dL_file_27 (by decide) ?_
    refine vx_ret ?_
    refine W.widen (k := 6) (n := 326) (Nat.le_of_ble_eq_true rfl) (Nat.le_of_ble_eq_true rfl) ?_
    exact W.iret (v := 0) hx hb hr (fun t9 ht9 hW9 => ⟨⟨0, u, rfl, ⟨by rw [hp0]; rfl, hL1, hG1, hT1, h18⟩, ⟨by rw [ht9]; exact hB.off hL1 hoA oq2, r.toInt64, by rw [ht9]; exact hO2, fun _ => by rw [hr1]⟩⟩, hS2.F ht9⟩) hS2.2.2 dL_file_28
