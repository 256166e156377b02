/-! 'calls', walked for each call of it -/
theorem yes_bz {x : Int32} (h : bz x) : fL_yes x = x := by rcases h with h | h <;> subst h <;> rfl
theorem yes_admit {S : St} (hN : MInv S) (a : Int32) (h : (fX7_admit S a).2.1 = 0) : bz (fX7_admit S a).1 := by
  unfold fX7_admit at h ⊢
  repeat' split
  · exact hN.z14 _
  · exact Or.inl rfl
  · exact Or.inl rfl
theorem yes_fire (S : St) (a b : Int32) : bz (fX7_fire S a b).1 := by
  unfold fX7_fire
  repeat' split
  all_goals first | exact Or.inl rfl | (unfold fX7_wouldFireForTelling; repeat' split) 
  all_goals first | exact Or.inl rfl | exact Or.inr rfl
set_option maxHeartbeats 4000000 in
set_option maxRecDepth 100000 in
theorem qC_claim (l : Launch) (hfl : l.stackTraces = false) (A : Nat → Prop) (D : va_G) (cy : Nat → ClassId) (g : CWt) (hL : CL A g) (S : St) (e0 mi n0 : Nat) (hA : ∀ q, n0 ≤ q → A q) (hV : CV e0 g S) (hI9 : Inv S) (x0 : Nat) (h18 : ga g 18 0 = x0) (a b c2 : Int32) (hc : (xq7 S 0 a b c2).2.1 = 0 ∨ (xq7 S 0 a b c2).2.1 = 3) : LCall l A D cy g S e0 mi n0 0 a b c2 yL_calls wsL_calls ({ frames := 9, cells := 6, slots := 326, locals := 240 } : Room) [.ref x0, .int 0, .int a, .int b, .int c2] := by
  subst h18
  refine vx_ofWH (cc := cL_calls) (maxL := 6) (ret := (some .int)) (hh := [(0, 171, 172, 59)]) (by decide) rfl ?_
  intro p e s m args below meth c s₁ B hml hv
  obtain ⟨rfl, ⟨⟨hM, hK⟩, hJ⟩, hX, hO, hn0⟩ := hv
  have hx := B.exec
  have hb := B.bytes
  have hr := B.returns
  have hts := atoms_spec (ws := wsL_calls) B.pre
  have hown : s.vm.findClass RL = some m.cls := findClass_of_methodNamed B.named
  have hct := vx_table (p := p) (x := yL_calls) B (hts (.codeWith yL_calls cL_calls 6 (some .int) [(0, 171, 172, 59)]) List.mem_cons_self)
  have hC : CC p s m _ c cL_calls 6 RL D cy wsL_calls := ⟨⟨hx, hb, hml, hown, hts⟩, hK⟩
  have hI : CI A D cy g s S s.heap [] := ⟨hM, va_S.rf⟩
  have hS : va_S A s.heap s.heap [] := va_S.rf
  have k_59 := hts (.classLink RL 59 "java/lang/IllegalStateException") (List.mem_cons_of_mem _ (List.mem_append_left _ (List.mem_append_left _ (List.mem_append_left _ (List.mem_append_left _ (List.mem_append_left _ (List.mem_append_left _ (List.mem_append_left _ (List.mem_append_left _ (List.mem_append_left _ (List.mem_append_left _ (List.mem_append_left _ (List.mem_append_left _ (List.mem_append_left _ (List.mem_of_getElem? (i := 0) rfl)))))))))))))))
  have hl := lv_entry ([.ref (ga g 18 0), .int 0, .int a, .int b, .int c2]) (n := 6) (Nat.le_of_ble_eq_true rfl)
  rw [lg_entry_eq]
  generalize (lg_sl ([.ref (ga g 18 0), .int 0, .int a, .int b, .int c2]) ++ List.replicate (6 - (lg_sl ([.ref (ga g 18 0), .int 0, .int a, .int b, .int c2])).length) Slot.unset).toArray = ls at hl ⊢
  have hl : lv_has ls 6 [(0, .ref (ga g 18 0)), (1, .int 0), (2, .int a), (3, .int b), (4, .int c2)] := hl
  refine lv_iload_n hx hb dL_calls_0 rfl (lv_at hl 1 rfl) ?_
  refine lv_if_ne (tgt := 13) hx hb dL_calls_1 (by decide) (fun c => absurd rfl c) (fun _ => ?_)
  refine lv_aload_n hx hb dL_calls_4 rfl (lv_at hl 0 rfl) ?_
  refine lv_iload_n hx hb dL_calls_5 rfl (lv_at hl 2 rfl) ?_
  refine lv_iload_n hx hb dL_calls_6 rfl (lv_at hl 3 rfl) ?_
  refine vx_calli (vx_runV (As := [.int a, .int b]) (rest := []) hC.1 (qX7_claim l hfl A D cy g hL S e0 mi n0 hA hV hI9.z a b) (cwV 2 hts gL_calls_X7_claim rfl rfl rfl (by decide +kernel) ⟨Nat.le_of_ble_eq_true rfl, Nat.le_of_ble_eq_true rfl⟩) ⟨LM_blind, cr_recv (ci := 8) hC.2 hI 18 0 rfl rfl rfl, fun U hU hW => ⟨rfl, ⟨⟨by rw [hU]; exact hM, va_K.moved hW.alike hK⟩, by rw [hU]; exact JT.warm hW hJ⟩, by rw [hU]; exact JX.moved hW.alike hX, JO.warm hW hO, by rw [hU]; exact hn0⟩⟩ rfl rfl hl.1 rfl (lv_room (Nat.le_of_ble_eq_true rfl)) dL_calls_7 ⟨Nat.le_of_ble_eq_true rfl, Nat.le_of_ble_eq_true rfl⟩) hS (fun q _ h => h) (fun q h => h) (fun q _ h => h) (fun E ce q9 u t H1 locs1 ht hvm hp hE hz1 hk1 hS1 hce hcv hcl => ?_) (fun r g1 t H1 locs1 ht hvm hp hB hz1 hk1 hS1 => ?_)
  · obtain ⟨hE, hM1⟩ := hE
    rw [ht] at hM1
    have h3 : (fX7_claim S a b).2.1 = 3 := hc.resolve_left hp
    have hS2 := (c7_claim S a b).2 hp
    have hE : E = "java/lang/IllegalStateException" := hE.trans (by rw [h3]; rfl)
    subst hE
    refine vx_catch hown [] ⟨0, 171, 172, 59⟩ [] (by rw [hct]; rfl) (fun _ hz => absurd hz List.not_mem_nil) rfl (by decide) k_59 (va_Nw.use (jwl_tab _ (List.mem_of_getElem? (i := 2) rfl)) (hJ.2.2.2 _ (List.mem_of_getElem? (i := 2) rfl))) hce hcv hcl ?_
    refine lv_astore (lv' := [(5, .ref q9), (0, .ref (ga g 18 0)), (1, .int 0), (2, .int a), (3, .int b), (4, .int c2)]) hx hb dL_calls_172 hl (by decide) rfl (fun ls hl => ?_)
    refine lv_sipush (v := (-1003)) hx hb dL_calls_174 (by decide) ?_
    refine vx_ret ?_
    refine W.widen (k := 6) (n := 326) (Nat.le_of_ble_eq_true rfl) (Nat.le_of_ble_eq_true rfl) ?_
    exact W.iret (v := -1003) hx hb hr (fun t9 ht9 hW9 => ⟨⟨-1003, g, rfl, ⟨(if_neg hp).symm, hL, hV.1, by show CT g (fX7_claim S a b).2.2; rw [hS2]; exact hV.2.1, rfl⟩, by show CH D cy g (fX7_claim S a b).2.2 _; rw [ht9, hS2]; exact hM1⟩, hS1.F ht9⟩) hS1.2.2 dL_calls_177
  · rw [ht] at hB
    obtain ⟨hp0, hr1, hG⟩ := hp
    have hI1 : CI A D cy g1 s (fX7_claim S a b).2.2 H1 locs1 := ⟨hB, hS1⟩
    refine lv_goto (tgt := 171) hx hb dL_calls_10 (by decide) ?_
    refine vx_ret ?_
    refine W.widen (k := 6) (n := 326) (Nat.le_of_ble_eq_true rfl) (Nat.le_of_ble_eq_true rfl) ?_
    exact W.iret (v := r) hx hb hr (fun t9 ht9 hW9 => ⟨⟨r, g1, rfl, ⟨hr1.trans (if_pos hp0).symm, ⟨hG.1, hG.2.1, hG.2.2.1, hG.2.2.2⟩⟩, by show CH D cy g1 _ t9.heap; rw [ht9]; exact hI1.1⟩, hI1.2.F ht9⟩) hI1.2.2.2 dL_calls_171
set_option maxHeartbeats 4000000 in
set_option maxRecDepth 100000 in
theorem qC_admit (l : Launch) (hfl : l.stackTraces = false) (A : Nat → Prop) (D : va_G) (cy : Nat → ClassId) (g : CWt) (hL : CL A g) (S : St) (e0 mi n0 : Nat) (hA : ∀ q, n0 ≤ q → A q) (hV : CV e0 g S) (hI9 : Inv S) (x0 : Nat) (h18 : ga g 18 0 = x0) (a b c2 : Int32) (hc : (xq7 S 1 a b c2).2.1 = 0 ∨ (xq7 S 1 a b c2).2.1 = 3) : LCall l A D cy g S e0 mi n0 1 a b c2 yL_calls wsL_calls ({ frames := 9, cells := 6, slots := 326, locals := 240 } : Room) [.ref x0, .int 1, .int a, .int b, .int c2] := by
  subst h18
  refine vx_ofWH (cc := cL_calls) (maxL := 6) (ret := (some .int)) (hh := [(0, 171, 172, 59)]) (by decide) rfl ?_
  intro p e s m args below meth c s₁ B hml hv
  obtain ⟨rfl, ⟨⟨hM, hK⟩, hJ⟩, hX, hO, hn0⟩ := hv
  have hx := B.exec
  have hb := B.bytes
  have hr := B.returns
  have hts := atoms_spec (ws := wsL_calls) B.pre
  have hown : s.vm.findClass RL = some m.cls := findClass_of_methodNamed B.named
  have hct := vx_table (p := p) (x := yL_calls) B (hts (.codeWith yL_calls cL_calls 6 (some .int) [(0, 171, 172, 59)]) List.mem_cons_self)
  have hC : CC p s m _ c cL_calls 6 RL D cy wsL_calls := ⟨⟨hx, hb, hml, hown, hts⟩, hK⟩
  have hI : CI A D cy g s S s.heap [] := ⟨hM, va_S.rf⟩
  have hS : va_S A s.heap s.heap [] := va_S.rf
  have k_59 := hts (.classLink RL 59 "java/lang/IllegalStateException") (List.mem_cons_of_mem _ (List.mem_append_left _ (List.mem_append_left _ (List.mem_append_left _ (List.mem_append_left _ (List.mem_append_left _ (List.mem_append_left _ (List.mem_append_left _ (List.mem_append_left _ (List.mem_append_left _ (List.mem_append_left _ (List.mem_append_left _ (List.mem_append_left _ (List.mem_append_left _ (List.mem_of_getElem? (i := 0) rfl)))))))))))))))
  have hl := lv_entry ([.ref (ga g 18 0), .int 1, .int a, .int b, .int c2]) (n := 6) (Nat.le_of_ble_eq_true rfl)
  rw [lg_entry_eq]
  generalize (lg_sl ([.ref (ga g 18 0), .int 1, .int a, .int b, .int c2]) ++ List.replicate (6 - (lg_sl ([.ref (ga g 18 0), .int 1, .int a, .int b, .int c2])).length) Slot.unset).toArray = ls at hl ⊢
  have hl : lv_has ls 6 [(0, .ref (ga g 18 0)), (1, .int 1), (2, .int a), (3, .int b), (4, .int c2)] := hl
  refine lv_iload_n hx hb dL_calls_0 rfl (lv_at hl 1 rfl) ?_
  refine lv_if_ne (tgt := 13) hx hb dL_calls_1 (by decide) (fun _ => ?_) (fun c => absurd c (by decide))
  refine lv_iload_n hx hb dL_calls_13 rfl (lv_at hl 1 rfl) ?_
  refine lv_iconst (v := 1) hx hb dL_calls_14 (by decide) ?_
  refine lv_icmp_ne (tgt := 29) hx hb dL_calls_15 (by decide) (fun c => absurd rfl c) (fun _ => ?_)
  refine lv_aload_n hx hb dL_calls_18 rfl (lv_at hl 0 rfl) ?_
  refine lv_iload_n hx hb dL_calls_19 rfl (lv_at hl 2 rfl) ?_
  refine vx_calli (vx_runV (As := [.int a]) (rest := []) hC.1 (qX7_admit l hfl A D cy g hL S e0 hV a) (cwV 1 hts gL_calls_X7_admit rfl rfl rfl (by decide +kernel) ⟨Nat.le_of_ble_eq_true rfl, Nat.le_of_ble_eq_true rfl⟩) ⟨CTh_blind, cr_recv (ci := 8) hC.2 hI 18 0 rfl rfl rfl, fun U hU hW => ⟨rfl, ⟨by rw [hU]; exact hM, va_K.moved hW.alike hK⟩, by rw [hU]; exact JT.warm hW hJ⟩⟩ rfl rfl hl.1 rfl (lv_room (Nat.le_of_ble_eq_true rfl)) dL_calls_20 ⟨Nat.le_of_ble_eq_true rfl, Nat.le_of_ble_eq_true rfl⟩) hS (fun q _ h => h) (fun q h => h) (fun q _ h => h) (fun E ce q9 u t H1 locs1 ht hvm hp hE hz1 hk1 hS1 hce hcv hcl => ?_) (fun r u t H1 locs1 ht hvm hp hB hz1 hk1 hS1 => ?_)
  · obtain ⟨hE, hM1⟩ := hE
    rw [ht] at hM1
    have h3 : (fX7_admit S a).2.1 = 3 := hc.resolve_left hp
    have hS2 := (c7_admit S a).2 hp
    have hE : E = "java/lang/IllegalStateException" := hE.trans (by rw [h3]; rfl)
    subst hE
    refine vx_catch hown [] ⟨0, 171, 172, 59⟩ [] (by rw [hct]; rfl) (fun _ hz => absurd hz List.not_mem_nil) rfl (by decide) k_59 (va_Nw.use (jwl_tab _ (List.mem_of_getElem? (i := 2) rfl)) (hJ.2.2.2 _ (List.mem_of_getElem? (i := 2) rfl))) hce hcv hcl ?_
    refine lv_astore (lv' := [(5, .ref q9), (0, .ref (ga g 18 0)), (1, .int 1), (2, .int a), (3, .int b), (4, .int c2)]) hx hb dL_calls_172 hl (by decide) rfl (fun ls hl => ?_)
    refine lv_sipush (v := (-1003)) hx hb dL_calls_174 (by decide) ?_
    refine vx_ret ?_
    refine W.widen (k := 6) (n := 326) (Nat.le_of_ble_eq_true rfl) (Nat.le_of_ble_eq_true rfl) ?_
    exact W.iret (v := -1003) hx hb hr (fun t9 ht9 hW9 => ⟨⟨-1003, g, rfl, ⟨(if_neg hp).symm, hL, hV.1, by show CT g (fX7_admit S a).2.2; rw [hS2]; exact hV.2.1, rfl⟩, by show CH D cy g (fX7_admit S a).2.2 _; rw [ht9, hS2]; exact hM1⟩, hS1.F ht9⟩) hS1.2.2 dL_calls_177
  · rw [ht] at hB
    obtain ⟨hp0, hr1⟩ := hp
    have hI1 : CI A D cy g s (fX7_admit S a).2.2 H1 locs1 := ⟨hB, hS1⟩
    refine cr_callS (As := [.int r]) (rest := []) hC hI1 (qL_yes l r) (va_cwS 1 hts gL_calls_L_yes rfl rfl rfl (by decide +kernel) ⟨Nat.le_of_ble_eq_true rfl, Nat.le_of_ble_eq_true rfl⟩) rfl hl.1 rfl (Nat.le_of_ble_eq_true rfl) dL_calls_23 ⟨Nat.le_of_ble_eq_true rfl, Nat.le_of_ble_eq_true rfl⟩ (fun H1 locs1 hI1 => ?_)
    rw [show fL_yes r = r by rw [hr1]; exact yes_bz (yes_admit hI9.m a hp0)]
    refine lv_goto (tgt := 171) hx hb dL_calls_26 (by decide) ?_
    refine vx_ret ?_
    refine W.widen (k := 6) (n := 326) (Nat.le_of_ble_eq_true rfl) (Nat.le_of_ble_eq_true rfl) ?_
    exact W.iret (v := r) hx hb hr (fun t9 ht9 hW9 => ⟨⟨r, g, rfl, ⟨hr1.trans (if_pos hp0).symm, ⟨hL, hV.1, (k7_admit S a).ct hV.2.1, rfl⟩⟩, by show CH D cy g _ t9.heap; rw [ht9]; exact hI1.1⟩, hI1.2.F ht9⟩) hI1.2.2.2 dL_calls_171
set_option maxHeartbeats 4000000 in
set_option maxRecDepth 100000 in
theorem qC_deal (l : Launch) (hfl : l.stackTraces = false) (A : Nat → Prop) (D : va_G) (cy : Nat → ClassId) (g : CWt) (hL : CL A g) (S : St) (e0 mi n0 : Nat) (hA : ∀ q, n0 ≤ q → A q) (hV : CV e0 g S) (hI9 : Inv S) (x0 : Nat) (h18 : ga g 18 0 = x0) (a b c2 : Int32) (hc : (xq7 S 2 a b c2).2.1 = 0 ∨ (xq7 S 2 a b c2).2.1 = 3) : LCall l A D cy g S e0 mi n0 2 a b c2 yL_calls wsL_calls ({ frames := 9, cells := 6, slots := 326, locals := 240 } : Room) [.ref x0, .int 2, .int a, .int b, .int c2] := by
  subst h18
  refine vx_ofWH (cc := cL_calls) (maxL := 6) (ret := (some .int)) (hh := [(0, 171, 172, 59)]) (by decide) rfl ?_
  intro p e s m args below meth c s₁ B hml hv
  obtain ⟨rfl, ⟨⟨hM, hK⟩, hJ⟩, hX, hO, hn0⟩ := hv
  have hx := B.exec
  have hb := B.bytes
  have hr := B.returns
  have hts := atoms_spec (ws := wsL_calls) B.pre
  have hown : s.vm.findClass RL = some m.cls := findClass_of_methodNamed B.named
  have hct := vx_table (p := p) (x := yL_calls) B (hts (.codeWith yL_calls cL_calls 6 (some .int) [(0, 171, 172, 59)]) List.mem_cons_self)
  have hC : CC p s m _ c cL_calls 6 RL D cy wsL_calls := ⟨⟨hx, hb, hml, hown, hts⟩, hK⟩
  have hI : CI A D cy g s S s.heap [] := ⟨hM, va_S.rf⟩
  have hS : va_S A s.heap s.heap [] := va_S.rf
  have k_59 := hts (.classLink RL 59 "java/lang/IllegalStateException") (List.mem_cons_of_mem _ (List.mem_append_left _ (List.mem_append_left _ (List.mem_append_left _ (List.mem_append_left _ (List.mem_append_left _ (List.mem_append_left _ (List.mem_append_left _ (List.mem_append_left _ (List.mem_append_left _ (List.mem_append_left _ (List.mem_append_left _ (List.mem_append_left _ (List.mem_append_left _ (List.mem_of_getElem? (i := 0) rfl)))))))))))))))
  have hl := lv_entry ([.ref (ga g 18 0), .int 2, .int a, .int b, .int c2]) (n := 6) (Nat.le_of_ble_eq_true rfl)
  rw [lg_entry_eq]
  generalize (lg_sl ([.ref (ga g 18 0), .int 2, .int a, .int b, .int c2]) ++ List.replicate (6 - (lg_sl ([.ref (ga g 18 0), .int 2, .int a, .int b, .int c2])).length) Slot.unset).toArray = ls at hl ⊢
  have hl : lv_has ls 6 [(0, .ref (ga g 18 0)), (1, .int 2), (2, .int a), (3, .int b), (4, .int c2)] := hl
  refine lv_iload_n hx hb dL_calls_0 rfl (lv_at hl 1 rfl) ?_
  refine lv_if_ne (tgt := 13) hx hb dL_calls_1 (by decide) (fun _ => ?_) (fun c => absurd c (by decide))
  refine lv_iload_n hx hb dL_calls_13 rfl (lv_at hl 1 rfl) ?_
  refine lv_iconst (v := 1) hx hb dL_calls_14 (by decide) ?_
  refine lv_icmp_ne (tgt := 29) hx hb dL_calls_15 (by decide) (fun _ => ?_) (fun c => absurd c (by decide))
  refine lv_iload_n hx hb dL_calls_29 rfl (lv_at hl 1 rfl) ?_
  refine lv_iconst (v := 2) hx hb dL_calls_30 (by decide) ?_
  refine lv_icmp_ne (tgt := 45) hx hb dL_calls_31 (by decide) (fun c => absurd rfl c) (fun _ => ?_)
  refine lv_aload_n hx hb dL_calls_34 rfl (lv_at hl 0 rfl) ?_
  refine lv_iload_n hx hb dL_calls_35 rfl (lv_at hl 2 rfl) ?_
  refine lv_iload_n hx hb dL_calls_36 rfl (lv_at hl 3 rfl) ?_
  refine lv_iload hx hb dL_calls_37 (lv_at hl 4 rfl) ?_
  refine vx_calli (vx_runV (As := [.int a, .int b, .int c2]) (rest := []) hC.1 (qX7_deal l hfl A D cy g hL S e0 mi n0 hA hV hI9.z a b c2) (cwV 3 hts gL_calls_X7_deal rfl rfl rfl (by decide +kernel) ⟨Nat.le_of_ble_eq_true rfl, Nat.le_of_ble_eq_true rfl⟩) ⟨LM_blind, cr_recv (ci := 8) hC.2 hI 18 0 rfl rfl rfl, fun U hU hW => ⟨rfl, ⟨⟨by rw [hU]; exact hM, va_K.moved hW.alike hK⟩, by rw [hU]; exact JT.warm hW hJ⟩, by rw [hU]; exact JX.moved hW.alike hX, JO.warm hW hO, by rw [hU]; exact hn0⟩⟩ rfl rfl hl.1 rfl (lv_room (Nat.le_of_ble_eq_true rfl)) dL_calls_39 ⟨Nat.le_of_ble_eq_true rfl, Nat.le_of_ble_eq_true rfl⟩) hS (fun q _ h => h) (fun q h => h) (fun q _ h => h) (fun E ce q9 u t H1 locs1 ht hvm hp hE hz1 hk1 hS1 hce hcv hcl => ?_) (fun r g1 t H1 locs1 ht hvm hp hB hz1 hk1 hS1 => ?_)
  · obtain ⟨hE, hM1⟩ := hE
    rw [ht] at hM1
    have h3 : (fX7_deal S a b c2).2.1 = 3 := hc.resolve_left hp
    have hS2 := (c7_deal S a b c2).2 hp
    have hE : E = "java/lang/IllegalStateException" := hE.trans (by rw [h3]; rfl)
    subst hE
    refine vx_catch hown [] ⟨0, 171, 172, 59⟩ [] (by rw [hct]; rfl) (fun _ hz => absurd hz List.not_mem_nil) rfl (by decide) k_59 (va_Nw.use (jwl_tab _ (List.mem_of_getElem? (i := 2) rfl)) (hJ.2.2.2 _ (List.mem_of_getElem? (i := 2) rfl))) hce hcv hcl ?_
    refine lv_astore (lv' := [(5, .ref q9), (0, .ref (ga g 18 0)), (1, .int 2), (2, .int a), (3, .int b), (4, .int c2)]) hx hb dL_calls_172 hl (by decide) rfl (fun ls hl => ?_)
    refine lv_sipush (v := (-1003)) hx hb dL_calls_174 (by decide) ?_
    refine vx_ret ?_
    refine W.widen (k := 6) (n := 326) (Nat.le_of_ble_eq_true rfl) (Nat.le_of_ble_eq_true rfl) ?_
    exact W.iret (v := -1003) hx hb hr (fun t9 ht9 hW9 => ⟨⟨-1003, g, rfl, ⟨(if_neg hp).symm, hL, hV.1, by show CT g (fX7_deal S a b c2).2.2; rw [hS2]; exact hV.2.1, rfl⟩, by show CH D cy g (fX7_deal S a b c2).2.2 _; rw [ht9, hS2]; exact hM1⟩, hS1.F ht9⟩) hS1.2.2 dL_calls_177
  · rw [ht] at hB
    obtain ⟨hp0, hr1, hG⟩ := hp
    have hI1 : CI A D cy g1 s (fX7_deal S a b c2).2.2 H1 locs1 := ⟨hB, hS1⟩
    refine lv_goto (tgt := 171) hx hb dL_calls_42 (by decide) ?_
    refine vx_ret ?_
    refine W.widen (k := 6) (n := 326) (Nat.le_of_ble_eq_true rfl) (Nat.le_of_ble_eq_true rfl) ?_
    exact W.iret (v := r) hx hb hr (fun t9 ht9 hW9 => ⟨⟨r, g1, rfl, ⟨hr1.trans (if_pos hp0).symm, ⟨hG.1, hG.2.1, hG.2.2.1, hG.2.2.2⟩⟩, by show CH D cy g1 _ t9.heap; rw [ht9]; exact hI1.1⟩, hI1.2.F ht9⟩) hI1.2.2.2 dL_calls_171
set_option maxHeartbeats 4000000 in
set_option maxRecDepth 100000 in
theorem qC_file (l : Launch) (hfl : l.stackTraces = false) (A : Nat → Prop) (D : va_G) (cy : Nat → ClassId) (g : CWt) (hL : CL A g) (S : St) (e0 mi n0 : Nat) (hA : ∀ q, n0 ≤ q → A q) (hV : CV e0 g S) (hI9 : Inv S) (x0 : Nat) (h18 : ga g 18 0 = x0) (a b c2 : Int32) (hc : (xq7 S 3 a b c2).2.1 = 0 ∨ (xq7 S 3 a b c2).2.1 = 3) : LCall l A D cy g S e0 mi n0 3 a b c2 yL_calls wsL_calls ({ frames := 9, cells := 6, slots := 326, locals := 240 } : Room) [.ref x0, .int 3, .int a, .int b, .int c2] := by
  subst h18
  refine vx_ofWH (cc := cL_calls) (maxL := 6) (ret := (some .int)) (hh := [(0, 171, 172, 59)]) (by decide) rfl ?_
  intro p e s m args below meth c s₁ B hml hv
  obtain ⟨rfl, ⟨⟨hM, hK⟩, hJ⟩, hX, hO, hn0⟩ := hv
  have hx := B.exec
  have hb := B.bytes
  have hr := B.returns
  have hts := atoms_spec (ws := wsL_calls) B.pre
  have hown : s.vm.findClass RL = some m.cls := findClass_of_methodNamed B.named
  have hct := vx_table (p := p) (x := yL_calls) B (hts (.codeWith yL_calls cL_calls 6 (some .int) [(0, 171, 172, 59)]) List.mem_cons_self)
  have hC : CC p s m _ c cL_calls 6 RL D cy wsL_calls := ⟨⟨hx, hb, hml, hown, hts⟩, hK⟩
  have hI : CI A D cy g s S s.heap [] := ⟨hM, va_S.rf⟩
  have hS : va_S A s.heap s.heap [] := va_S.rf
  have k_59 := hts (.classLink RL 59 "java/lang/IllegalStateException") (List.mem_cons_of_mem _ (List.mem_append_left _ (List.mem_append_left _ (List.mem_append_left _ (List.mem_append_left _ (List.mem_append_left _ (List.mem_append_left _ (List.mem_append_left _ (List.mem_append_left _ (List.mem_append_left _ (List.mem_append_left _ (List.mem_append_left _ (List.mem_append_left _ (List.mem_append_left _ (List.mem_of_getElem? (i := 0) rfl)))))))))))))))
  have hl := lv_entry ([.ref (ga g 18 0), .int 3, .int a, .int b, .int c2]) (n := 6) (Nat.le_of_ble_eq_true rfl)
  rw [lg_entry_eq]
  generalize (lg_sl ([.ref (ga g 18 0), .int 3, .int a, .int b, .int c2]) ++ List.replicate (6 - (lg_sl ([.ref (ga g 18 0), .int 3, .int a, .int b, .int c2])).length) Slot.unset).toArray = ls at hl ⊢
  have hl : lv_has ls 6 [(0, .ref (ga g 18 0)), (1, .int 3), (2, .int a), (3, .int b), (4, .int c2)] := hl
  refine lv_iload_n hx hb dL_calls_0 rfl (lv_at hl 1 rfl) ?_
  refine lv_if_ne (tgt := 13) hx hb dL_calls_1 (by decide) (fun _ => ?_) (fun c => absurd c (by decide))
  refine lv_iload_n hx hb dL_calls_13 rfl (lv_at hl 1 rfl) ?_
  refine lv_iconst (v := 1) hx hb dL_calls_14 (by decide) ?_
  refine lv_icmp_ne (tgt := 29) hx hb dL_calls_15 (by decide) (fun _ => ?_) (fun c => absurd c (by decide))
  refine lv_iload_n hx hb dL_calls_29 rfl (lv_at hl 1 rfl) ?_
  refine lv_iconst (v := 2) hx hb dL_calls_30 (by decide) ?_
  refine lv_icmp_ne (tgt := 45) hx hb dL_calls_31 (by decide) (fun _ => ?_) (fun c => absurd c (by decide))
  refine lv_iload_n hx hb dL_calls_45 rfl (lv_at hl 1 rfl) ?_
  refine lv_iconst (v := 3) hx hb dL_calls_46 (by decide) ?_
  refine lv_icmp_ne (tgt := 61) hx hb dL_calls_47 (by decide) (fun c => absurd rfl c) (fun _ => ?_)
  refine lv_aload_n hx hb dL_calls_50 rfl (lv_at hl 0 rfl) ?_
  refine lv_iload_n hx hb dL_calls_51 rfl (lv_at hl 2 rfl) ?_
  refine lv_iload_n hx hb dL_calls_52 rfl (lv_at hl 3 rfl) ?_
  refine lv_iload hx hb dL_calls_53 (lv_at hl 4 rfl) ?_
  refine vx_calli (vx_runV (As := [.int a, .int b, .int c2]) (rest := []) hC.1 (qX7_file l hfl A D cy g hL S e0 mi n0 hA hV hI9.z a b c2) (cwV 3 hts gL_calls_X7_file rfl rfl rfl (by decide +kernel) ⟨Nat.le_of_ble_eq_true rfl, Nat.le_of_ble_eq_true rfl⟩) ⟨LM_blind, cr_recv (ci := 8) hC.2 hI 18 0 rfl rfl rfl, fun U hU hW => ⟨rfl, ⟨⟨by rw [hU]; exact hM, va_K.moved hW.alike hK⟩, by rw [hU]; exact JT.warm hW hJ⟩, by rw [hU]; exact JX.moved hW.alike hX, JO.warm hW hO, by rw [hU]; exact hn0⟩⟩ rfl rfl hl.1 rfl (lv_room (Nat.le_of_ble_eq_true rfl)) dL_calls_55 ⟨Nat.le_of_ble_eq_true rfl, Nat.le_of_ble_eq_true rfl⟩) hS (fun q _ h => h) (fun q h => h) (fun q _ h => h) (fun E ce q9 u t H1 locs1 ht hvm hp hE hz1 hk1 hS1 hce hcv hcl => ?_) (fun r g1 t H1 locs1 ht hvm hp hB hz1 hk1 hS1 => ?_)
  · obtain ⟨hE, hM1⟩ := hE
    rw [ht] at hM1
    have h3 : (fX7_file S a b c2).2.1 = 3 := hc.resolve_left hp
    have hS2 := (c7_file S a b c2).2 hp
    have hE : E = "java/lang/IllegalStateException" := hE.trans (by rw [h3]; rfl)
    subst hE
    refine vx_catch hown [] ⟨0, 171, 172, 59⟩ [] (by rw [hct]; rfl) (fun _ hz => absurd hz List.not_mem_nil) rfl (by decide) k_59 (va_Nw.use (jwl_tab _ (List.mem_of_getElem? (i := 2) rfl)) (hJ.2.2.2 _ (List.mem_of_getElem? (i := 2) rfl))) hce hcv hcl ?_
    refine lv_astore (lv' := [(5, .ref q9), (0, .ref (ga g 18 0)), (1, .int 3), (2, .int a), (3, .int b), (4, .int c2)]) hx hb dL_calls_172 hl (by decide) rfl (fun ls hl => ?_)
    refine lv_sipush (v := (-1003)) hx hb dL_calls_174 (by decide) ?_
    refine vx_ret ?_
    refine W.widen (k := 6) (n := 326) (Nat.le_of_ble_eq_true rfl) (Nat.le_of_ble_eq_true rfl) ?_
    exact W.iret (v := -1003) hx hb hr (fun t9 ht9 hW9 => ⟨⟨-1003, g, rfl, ⟨(if_neg hp).symm, hL, hV.1, by show CT g (fX7_file S a b c2).2.2; rw [hS2]; exact hV.2.1, rfl⟩, by show CH D cy g (fX7_file S a b c2).2.2 _; rw [ht9, hS2]; exact hM1⟩, hS1.F ht9⟩) hS1.2.2 dL_calls_177
  · rw [ht] at hB
    obtain ⟨hp0, hr1, hG⟩ := hp
    have hI1 : CI A D cy g1 s (fX7_file S a b c2).2.2 H1 locs1 := ⟨hB, hS1⟩
    refine lv_goto (tgt := 171) hx hb dL_calls_58 (by decide) ?_
    refine vx_ret ?_
    refine W.widen (k := 6) (n := 326) (Nat.le_of_ble_eq_true rfl) (Nat.le_of_ble_eq_true rfl) ?_
    exact W.iret (v := r) hx hb hr (fun t9 ht9 hW9 => ⟨⟨r, g1, rfl, ⟨hr1.trans (if_pos hp0).symm, ⟨hG.1, hG.2.1, hG.2.2.1, hG.2.2.2⟩⟩, by show CH D cy g1 _ t9.heap; rw [ht9]; exact hI1.1⟩, hI1.2.F ht9⟩) hI1.2.2.2 dL_calls_171
set_option maxHeartbeats 4000000 in
set_option maxRecDepth 100000 in
theorem qC_amend (l : Launch) (hfl : l.stackTraces = false) (A : Nat → Prop) (D : va_G) (cy : Nat → ClassId) (g : CWt) (hL : CL A g) (S : St) (e0 mi n0 : Nat) (hA : ∀ q, n0 ≤ q → A q) (hV : CV e0 g S) (hI9 : Inv S) (x0 : Nat) (h18 : ga g 18 0 = x0) (a b c2 : Int32) (hc : (xq7 S 4 a b c2).2.1 = 0 ∨ (xq7 S 4 a b c2).2.1 = 3) : LCall l A D cy g S e0 mi n0 4 a b c2 yL_calls wsL_calls ({ frames := 9, cells := 6, slots := 326, locals := 240 } : Room) [.ref x0, .int 4, .int a, .int b, .int c2] := by
  subst h18
  refine vx_ofWH (cc := cL_calls) (maxL := 6) (ret := (some .int)) (hh := [(0, 171, 172, 59)]) (by decide) rfl ?_
  intro p e s m args below meth c s₁ B hml hv
  obtain ⟨rfl, ⟨⟨hM, hK⟩, hJ⟩, hX, hO, hn0⟩ := hv
  have hx := B.exec
  have hb := B.bytes
  have hr := B.returns
  have hts := atoms_spec (ws := wsL_calls) B.pre
  have hown : s.vm.findClass RL = some m.cls := findClass_of_methodNamed B.named
  have hct := vx_table (p := p) (x := yL_calls) B (hts (.codeWith yL_calls cL_calls 6 (some .int) [(0, 171, 172, 59)]) List.mem_cons_self)
  have hC : CC p s m _ c cL_calls 6 RL D cy wsL_calls := ⟨⟨hx, hb, hml, hown, hts⟩, hK⟩
  have hI : CI A D cy g s S s.heap [] := ⟨hM, va_S.rf⟩
  have hS : va_S A s.heap s.heap [] := va_S.rf
  have k_59 := hts (.classLink RL 59 "java/lang/IllegalStateException") (List.mem_cons_of_mem _ (List.mem_append_left _ (List.mem_append_left _ (List.mem_append_left _ (List.mem_append_left _ (List.mem_append_left _ (List.mem_append_left _ (List.mem_append_left _ (List.mem_append_left _ (List.mem_append_left _ (List.mem_append_left _ (List.mem_append_left _ (List.mem_append_left _ (List.mem_append_left _ (List.mem_of_getElem? (i := 0) rfl)))))))))))))))
  have hl := lv_entry ([.ref (ga g 18 0), .int 4, .int a, .int b, .int c2]) (n := 6) (Nat.le_of_ble_eq_true rfl)
  rw [lg_entry_eq]
  generalize (lg_sl ([.ref (ga g 18 0), .int 4, .int a, .int b, .int c2]) ++ List.replicate (6 - (lg_sl ([.ref (ga g 18 0), .int 4, .int a, .int b, .int c2])).length) Slot.unset).toArray = ls at hl ⊢
  have hl : lv_has ls 6 [(0, .ref (ga g 18 0)), (1, .int 4), (2, .int a), (3, .int b), (4, .int c2)] := hl
  refine lv_iload_n hx hb dL_calls_0 rfl (lv_at hl 1 rfl) ?_
  refine lv_if_ne (tgt := 13) hx hb dL_calls_1 (by decide) (fun _ => ?_) (fun c => absurd c (by decide))
  refine lv_iload_n hx hb dL_calls_13 rfl (lv_at hl 1 rfl) ?_
  refine lv_iconst (v := 1) hx hb dL_calls_14 (by decide) ?_
  refine lv_icmp_ne (tgt := 29) hx hb dL_calls_15 (by decide) (fun _ => ?_) (fun c => absurd c (by decide))
  refine lv_iload_n hx hb dL_calls_29 rfl (lv_at hl 1 rfl) ?_
  refine lv_iconst (v := 2) hx hb dL_calls_30 (by decide) ?_
  refine lv_icmp_ne (tgt := 45) hx hb dL_calls_31 (by decide) (fun _ => ?_) (fun c => absurd c (by decide))
  refine lv_iload_n hx hb dL_calls_45 rfl (lv_at hl 1 rfl) ?_
  refine lv_iconst (v := 3) hx hb dL_calls_46 (by decide) ?_
  refine lv_icmp_ne (tgt := 61) hx hb dL_calls_47 (by decide) (fun _ => ?_) (fun c => absurd c (by decide))
  refine lv_iload_n hx hb dL_calls_61 rfl (lv_at hl 1 rfl) ?_
  refine lv_iconst (v := 4) hx hb dL_calls_62 (by decide) ?_
  refine lv_icmp_ne (tgt := 75) hx hb dL_calls_63 (by decide) (fun c => absurd rfl c) (fun _ => ?_)
  refine lv_aload_n hx hb dL_calls_66 rfl (lv_at hl 0 rfl) ?_
  refine lv_iload_n hx hb dL_calls_67 rfl (lv_at hl 2 rfl) ?_
  refine lv_iload_n hx hb dL_calls_68 rfl (lv_at hl 3 rfl) ?_
  refine vx_calli (vx_runV (As := [.int a, .int b]) (rest := []) hC.1 (qX7_amend l hfl A D cy g hL S e0 mi n0 hA hV hI9.n a b) (cwV 2 hts gL_calls_X7_amend rfl rfl rfl (by decide +kernel) ⟨Nat.le_of_ble_eq_true rfl, Nat.le_of_ble_eq_true rfl⟩) ⟨LM_blind, cr_recv (ci := 8) hC.2 hI 18 0 rfl rfl rfl, fun U hU hW => ⟨rfl, ⟨⟨by rw [hU]; exact hM, va_K.moved hW.alike hK⟩, by rw [hU]; exact JT.warm hW hJ⟩, by rw [hU]; exact JX.moved hW.alike hX, JO.warm hW hO, by rw [hU]; exact hn0⟩⟩ rfl rfl hl.1 rfl (lv_room (Nat.le_of_ble_eq_true rfl)) dL_calls_69 ⟨Nat.le_of_ble_eq_true rfl, Nat.le_of_ble_eq_true rfl⟩) hS (fun q _ h => h) (fun q h => h) (fun q _ h => h) (fun E ce q9 u t H1 locs1 ht hvm hp hE hz1 hk1 hS1 hce hcv hcl => ?_) (fun r g1 t H1 locs1 ht hvm hp hB hz1 hk1 hS1 => ?_)
  · obtain ⟨hE, hM1⟩ := hE
    rw [ht] at hM1
    have h3 : (fX7_amend S a b).2.1 = 3 := hc.resolve_left hp
    have hS2 := (c7_amend S a b).2 hp
    have hE : E = "java/lang/IllegalStateException" := hE.trans (by rw [h3]; rfl)
    subst hE
    refine vx_catch hown [] ⟨0, 171, 172, 59⟩ [] (by rw [hct]; rfl) (fun _ hz => absurd hz List.not_mem_nil) rfl (by decide) k_59 (va_Nw.use (jwl_tab _ (List.mem_of_getElem? (i := 2) rfl)) (hJ.2.2.2 _ (List.mem_of_getElem? (i := 2) rfl))) hce hcv hcl ?_
    refine lv_astore (lv' := [(5, .ref q9), (0, .ref (ga g 18 0)), (1, .int 4), (2, .int a), (3, .int b), (4, .int c2)]) hx hb dL_calls_172 hl (by decide) rfl (fun ls hl => ?_)
    refine lv_sipush (v := (-1003)) hx hb dL_calls_174 (by decide) ?_
    refine vx_ret ?_
    refine W.widen (k := 6) (n := 326) (Nat.le_of_ble_eq_true rfl) (Nat.le_of_ble_eq_true rfl) ?_
    exact W.iret (v := -1003) hx hb hr (fun t9 ht9 hW9 => ⟨⟨-1003, g, rfl, ⟨(if_neg hp).symm, hL, hV.1, by show CT g (fX7_amend S a b).2.2; rw [hS2]; exact hV.2.1, rfl⟩, by show CH D cy g (fX7_amend S a b).2.2 _; rw [ht9, hS2]; exact hM1⟩, hS1.F ht9⟩) hS1.2.2 dL_calls_177
  · rw [ht] at hB
    obtain ⟨hp0, hr1, hG⟩ := hp
    have hI1 : CI A D cy g1 s (fX7_amend S a b).2.2 H1 locs1 := ⟨hB, hS1⟩
    refine lv_goto (tgt := 171) hx hb dL_calls_72 (by decide) ?_
    refine vx_ret ?_
    refine W.widen (k := 6) (n := 326) (Nat.le_of_ble_eq_true rfl) (Nat.le_of_ble_eq_true rfl) ?_
    exact W.iret (v := r) hx hb hr (fun t9 ht9 hW9 => ⟨⟨r, g1, rfl, ⟨hr1.trans (if_pos hp0).symm, ⟨hG.1, hG.2.1, hG.2.2.1, hG.2.2.2⟩⟩, by show CH D cy g1 _ t9.heap; rw [ht9]; exact hI1.1⟩, hI1.2.F ht9⟩) hI1.2.2.2 dL_calls_171
set_option maxHeartbeats 4000000 in
set_option maxRecDepth 100000 in
theorem qC_extend (l : Launch) (hfl : l.stackTraces = false) (A : Nat → Prop) (D : va_G) (cy : Nat → ClassId) (g : CWt) (hL : CL A g) (S : St) (e0 mi n0 : Nat) (hA : ∀ q, n0 ≤ q → A q) (hV : CV e0 g S) (hI9 : Inv S) (x0 : Nat) (h18 : ga g 18 0 = x0) (a b c2 : Int32) (hc : (xq7 S 5 a b c2).2.1 = 0 ∨ (xq7 S 5 a b c2).2.1 = 3) : LCall l A D cy g S e0 mi n0 5 a b c2 yL_calls wsL_calls ({ frames := 9, cells := 6, slots := 326, locals := 240 } : Room) [.ref x0, .int 5, .int a, .int b, .int c2] := by
  subst h18
  refine vx_ofWH (cc := cL_calls) (maxL := 6) (ret := (some .int)) (hh := [(0, 171, 172, 59)]) (by decide) rfl ?_
  intro p e s m args below meth c s₁ B hml hv
  obtain ⟨rfl, ⟨⟨hM, hK⟩, hJ⟩, hX, hO, hn0⟩ := hv
  have hx := B.exec
  have hb := B.bytes
  have hr := B.returns
  have hts := atoms_spec (ws := wsL_calls) B.pre
  have hown : s.vm.findClass RL = some m.cls := findClass_of_methodNamed B.named
  have hct := vx_table (p := p) (x := yL_calls) B (hts (.codeWith yL_calls cL_calls 6 (some .int) [(0, 171, 172, 59)]) List.mem_cons_self)
  have hC : CC p s m _ c cL_calls 6 RL D cy wsL_calls := ⟨⟨hx, hb, hml, hown, hts⟩, hK⟩
  have hI : CI A D cy g s S s.heap [] := ⟨hM, va_S.rf⟩
  have hS : va_S A s.heap s.heap [] := va_S.rf
  have k_59 := hts (.classLink RL 59 "java/lang/IllegalStateException") (List.mem_cons_of_mem _ (List.mem_append_left _ (List.mem_append_left _ (List.mem_append_left _ (List.mem_append_left _ (List.mem_append_left _ (List.mem_append_left _ (List.mem_append_left _ (List.mem_append_left _ (List.mem_append_left _ (List.mem_append_left _ (List.mem_append_left _ (List.mem_append_left _ (List.mem_append_left _ (List.mem_of_getElem? (i := 0) rfl)))))))))))))))
  have hl := lv_entry ([.ref (ga g 18 0), .int 5, .int a, .int b, .int c2]) (n := 6) (Nat.le_of_ble_eq_true rfl)
  rw [lg_entry_eq]
  generalize (lg_sl ([.ref (ga g 18 0), .int 5, .int a, .int b, .int c2]) ++ List.replicate (6 - (lg_sl ([.ref (ga g 18 0), .int 5, .int a, .int b, .int c2])).length) Slot.unset).toArray = ls at hl ⊢
  have hl : lv_has ls 6 [(0, .ref (ga g 18 0)), (1, .int 5), (2, .int a), (3, .int b), (4, .int c2)] := hl
  refine lv_iload_n hx hb dL_calls_0 rfl (lv_at hl 1 rfl) ?_
  refine lv_if_ne (tgt := 13) hx hb dL_calls_1 (by decide) (fun _ => ?_) (fun c => absurd c (by decide))
  refine lv_iload_n hx hb dL_calls_13 rfl (lv_at hl 1 rfl) ?_
  refine lv_iconst (v := 1) hx hb dL_calls_14 (by decide) ?_
  refine lv_icmp_ne (tgt := 29) hx hb dL_calls_15 (by decide) (fun _ => ?_) (fun c => absurd c (by decide))
  refine lv_iload_n hx hb dL_calls_29 rfl (lv_at hl 1 rfl) ?_
  refine lv_iconst (v := 2) hx hb dL_calls_30 (by decide) ?_
  refine lv_icmp_ne (tgt := 45) hx hb dL_calls_31 (by decide) (fun _ => ?_) (fun c => absurd c (by decide))
  refine lv_iload_n hx hb dL_calls_45 rfl (lv_at hl 1 rfl) ?_
  refine lv_iconst (v := 3) hx hb dL_calls_46 (by decide) ?_
  refine lv_icmp_ne (tgt := 61) hx hb dL_calls_47 (by decide) (fun _ => ?_) (fun c => absurd c (by decide))
  refine lv_iload_n hx hb dL_calls_61 rfl (lv_at hl 1 rfl) ?_
  refine lv_iconst (v := 4) hx hb dL_calls_62 (by decide) ?_
  refine lv_icmp_ne (tgt := 75) hx hb dL_calls_63 (by decide) (fun _ => ?_) (fun c => absurd c (by decide))
  refine lv_iload_n hx hb dL_calls_75 rfl (lv_at hl 1 rfl) ?_
  refine lv_iconst (v := 5) hx hb dL_calls_76 (by decide) ?_
  refine lv_icmp_ne (tgt := 88) hx hb dL_calls_77 (by decide) (fun c => absurd rfl c) (fun _ => ?_)
  refine lv_aload_n hx hb dL_calls_80 rfl (lv_at hl 0 rfl) ?_
  refine lv_iload_n hx hb dL_calls_81 rfl (lv_at hl 2 rfl) ?_
  refine vx_calli (vx_runV (As := [.int a]) (rest := []) hC.1 (qX7_extend l hfl A D cy g hL S e0 hV a) (cwV 1 hts gL_calls_X7_extend rfl rfl rfl (by decide +kernel) ⟨Nat.le_of_ble_eq_true rfl, Nat.le_of_ble_eq_true rfl⟩) ⟨CTh_blind, cr_recv (ci := 8) hC.2 hI 18 0 rfl rfl rfl, fun U hU hW => ⟨rfl, ⟨by rw [hU]; exact hM, va_K.moved hW.alike hK⟩, by rw [hU]; exact JT.warm hW hJ⟩⟩ rfl rfl hl.1 rfl (lv_room (Nat.le_of_ble_eq_true rfl)) dL_calls_82 ⟨Nat.le_of_ble_eq_true rfl, Nat.le_of_ble_eq_true rfl⟩) hS (fun q _ h => h) (fun q h => h) (fun q _ h => h) (fun E ce q9 u t H1 locs1 ht hvm hp hE hz1 hk1 hS1 hce hcv hcl => ?_) (fun r u t H1 locs1 ht hvm hp hB hz1 hk1 hS1 => ?_)
  · obtain ⟨hE, hM1⟩ := hE
    rw [ht] at hM1
    have h3 : (fX7_extend S a).2.1 = 3 := hc.resolve_left hp
    have hS2 := (c7_extend S a).2 hp
    have hE : E = "java/lang/IllegalStateException" := hE.trans (by rw [h3]; rfl)
    subst hE
    refine vx_catch hown [] ⟨0, 171, 172, 59⟩ [] (by rw [hct]; rfl) (fun _ hz => absurd hz List.not_mem_nil) rfl (by decide) k_59 (va_Nw.use (jwl_tab _ (List.mem_of_getElem? (i := 2) rfl)) (hJ.2.2.2 _ (List.mem_of_getElem? (i := 2) rfl))) hce hcv hcl ?_
    refine lv_astore (lv' := [(5, .ref q9), (0, .ref (ga g 18 0)), (1, .int 5), (2, .int a), (3, .int b), (4, .int c2)]) hx hb dL_calls_172 hl (by decide) rfl (fun ls hl => ?_)
    refine lv_sipush (v := (-1003)) hx hb dL_calls_174 (by decide) ?_
    refine vx_ret ?_
    refine W.widen (k := 6) (n := 326) (Nat.le_of_ble_eq_true rfl) (Nat.le_of_ble_eq_true rfl) ?_
    exact W.iret (v := -1003) hx hb hr (fun t9 ht9 hW9 => ⟨⟨-1003, g, rfl, ⟨(if_neg hp).symm, hL, hV.1, by show CT g (fX7_extend S a).2.2; rw [hS2]; exact hV.2.1, rfl⟩, by show CH D cy g (fX7_extend S a).2.2 _; rw [ht9, hS2]; exact hM1⟩, hS1.F ht9⟩) hS1.2.2 dL_calls_177
  · rw [ht] at hB
    obtain ⟨hp0, hr1⟩ := hp
    have hI1 : CI A D cy g s (fX7_extend S a).2.2 H1 locs1 := ⟨hB, hS1⟩
    refine lv_goto (tgt := 171) hx hb dL_calls_85 (by decide) ?_
    refine vx_ret ?_
    refine W.widen (k := 6) (n := 326) (Nat.le_of_ble_eq_true rfl) (Nat.le_of_ble_eq_true rfl) ?_
    exact W.iret (v := r) hx hb hr (fun t9 ht9 hW9 => ⟨⟨r, g, rfl, ⟨hr1.trans (if_pos hp0).symm, ⟨hL, hV.1, (k7_extend S a).ct hV.2.1, rfl⟩⟩, by show CH D cy g _ t9.heap; rw [ht9]; exact hI1.1⟩, hI1.2.F ht9⟩) hI1.2.2.2 dL_calls_171
set_option maxHeartbeats 4000000 in
set_option maxRecDepth 100000 in
theorem qC_choose (l : Launch) (hfl : l.stackTraces = false) (A : Nat → Prop) (D : va_G) (cy : Nat → ClassId) (g : CWt) (hL : CL A g) (S : St) (e0 mi n0 : Nat) (hA : ∀ q, n0 ≤ q → A q) (hV : CV e0 g S) (hI9 : Inv S) (x0 : Nat) (h18 : ga g 18 0 = x0) (a b c2 : Int32) (hc : (xq7 S 6 a b c2).2.1 = 0 ∨ (xq7 S 6 a b c2).2.1 = 3) : LCall l A D cy g S e0 mi n0 6 a b c2 yL_calls wsL_calls ({ frames := 9, cells := 6, slots := 326, locals := 240 } : Room) [.ref x0, .int 6, .int a, .int b, .int c2] := by
  subst h18
  refine vx_ofWH (cc := cL_calls) (maxL := 6) (ret := (some .int)) (hh := [(0, 171, 172, 59)]) (by decide) rfl ?_
  intro p e s m args below meth c s₁ B hml hv
  obtain ⟨rfl, ⟨⟨hM, hK⟩, hJ⟩, hX, hO, hn0⟩ := hv
  have hx := B.exec
  have hb := B.bytes
  have hr := B.returns
  have hts := atoms_spec (ws := wsL_calls) B.pre
  have hown : s.vm.findClass RL = some m.cls := findClass_of_methodNamed B.named
  have hct := vx_table (p := p) (x := yL_calls) B (hts (.codeWith yL_calls cL_calls 6 (some .int) [(0, 171, 172, 59)]) List.mem_cons_self)
  have hC : CC p s m _ c cL_calls 6 RL D cy wsL_calls := ⟨⟨hx, hb, hml, hown, hts⟩, hK⟩
  have hI : CI A D cy g s S s.heap [] := ⟨hM, va_S.rf⟩
  have hS : va_S A s.heap s.heap [] := va_S.rf
  have k_59 := hts (.classLink RL 59 "java/lang/IllegalStateException") (List.mem_cons_of_mem _ (List.mem_append_left _ (List.mem_append_left _ (List.mem_append_left _ (List.mem_append_left _ (List.mem_append_left _ (List.mem_append_left _ (List.mem_append_left _ (List.mem_append_left _ (List.mem_append_left _ (List.mem_append_left _ (List.mem_append_left _ (List.mem_append_left _ (List.mem_append_left _ (List.mem_of_getElem? (i := 0) rfl)))))))))))))))
  have hl := lv_entry ([.ref (ga g 18 0), .int 6, .int a, .int b, .int c2]) (n := 6) (Nat.le_of_ble_eq_true rfl)
  rw [lg_entry_eq]
  generalize (lg_sl ([.ref (ga g 18 0), .int 6, .int a, .int b, .int c2]) ++ List.replicate (6 - (lg_sl ([.ref (ga g 18 0), .int 6, .int a, .int b, .int c2])).length) Slot.unset).toArray = ls at hl ⊢
  have hl : lv_has ls 6 [(0, .ref (ga g 18 0)), (1, .int 6), (2, .int a), (3, .int b), (4, .int c2)] := hl
  refine lv_iload_n hx hb dL_calls_0 rfl (lv_at hl 1 rfl) ?_
  refine lv_if_ne (tgt := 13) hx hb dL_calls_1 (by decide) (fun _ => ?_) (fun c => absurd c (by decide))
  refine lv_iload_n hx hb dL_calls_13 rfl (lv_at hl 1 rfl) ?_
  refine lv_iconst (v := 1) hx hb dL_calls_14 (by decide) ?_
  refine lv_icmp_ne (tgt := 29) hx hb dL_calls_15 (by decide) (fun _ => ?_) (fun c => absurd c (by decide))
  refine lv_iload_n hx hb dL_calls_29 rfl (lv_at hl 1 rfl) ?_
  refine lv_iconst (v := 2) hx hb dL_calls_30 (by decide) ?_
  refine lv_icmp_ne (tgt := 45) hx hb dL_calls_31 (by decide) (fun _ => ?_) (fun c => absurd c (by decide))
  refine lv_iload_n hx hb dL_calls_45 rfl (lv_at hl 1 rfl) ?_
  refine lv_iconst (v := 3) hx hb dL_calls_46 (by decide) ?_
  refine lv_icmp_ne (tgt := 61) hx hb dL_calls_47 (by decide) (fun _ => ?_) (fun c => absurd c (by decide))
  refine lv_iload_n hx hb dL_calls_61 rfl (lv_at hl 1 rfl) ?_
  refine lv_iconst (v := 4) hx hb dL_calls_62 (by decide) ?_
  refine lv_icmp_ne (tgt := 75) hx hb dL_calls_63 (by decide) (fun _ => ?_) (fun c => absurd c (by decide))
  refine lv_iload_n hx hb dL_calls_75 rfl (lv_at hl 1 rfl) ?_
  refine lv_iconst (v := 5) hx hb dL_calls_76 (by decide) ?_
  refine lv_icmp_ne (tgt := 88) hx hb dL_calls_77 (by decide) (fun _ => ?_) (fun c => absurd c (by decide))
  refine lv_iload_n hx hb dL_calls_88 rfl (lv_at hl 1 rfl) ?_
  refine lv_bipush (v := 6) hx hb dL_calls_89 (by decide) ?_
  refine lv_icmp_ne (tgt := 103) hx hb dL_calls_91 (by decide) (fun c => absurd rfl c) (fun _ => ?_)
  refine lv_aload_n hx hb dL_calls_94 rfl (lv_at hl 0 rfl) ?_
  refine lv_iload_n hx hb dL_calls_95 rfl (lv_at hl 2 rfl) ?_
  refine lv_iload_n hx hb dL_calls_96 rfl (lv_at hl 3 rfl) ?_
  refine vx_calli (vx_runV (As := [.int a, .int b]) (rest := []) hC.1 (qX7_choose l hfl A D cy g hL S e0 hV a b) (cwV 2 hts gL_calls_X7_choose rfl rfl rfl (by decide +kernel) ⟨Nat.le_of_ble_eq_true rfl, Nat.le_of_ble_eq_true rfl⟩) ⟨CTh_blind, cr_recv (ci := 8) hC.2 hI 18 0 rfl rfl rfl, fun U hU hW => ⟨rfl, ⟨by rw [hU]; exact hM, va_K.moved hW.alike hK⟩, by rw [hU]; exact JT.warm hW hJ⟩⟩ rfl rfl hl.1 rfl (lv_room (Nat.le_of_ble_eq_true rfl)) dL_calls_97 ⟨Nat.le_of_ble_eq_true rfl, Nat.le_of_ble_eq_true rfl⟩) hS (fun q _ h => h) (fun q h => h) (fun q _ h => h) (fun E ce q9 u t H1 locs1 ht hvm hp hE hz1 hk1 hS1 hce hcv hcl => ?_) (fun r u t H1 locs1 ht hvm hp hB hz1 hk1 hS1 => ?_)
  · obtain ⟨hE, hM1⟩ := hE
    rw [ht] at hM1
    have h3 : (fX7_choose S a b).2.1 = 3 := hc.resolve_left hp
    have hS2 := (c7_choose S a b).2 hp
    have hE : E = "java/lang/IllegalStateException" := hE.trans (by rw [h3]; rfl)
    subst hE
    refine vx_catch hown [] ⟨0, 171, 172, 59⟩ [] (by rw [hct]; rfl) (fun _ hz => absurd hz List.not_mem_nil) rfl (by decide) k_59 (va_Nw.use (jwl_tab _ (List.mem_of_getElem? (i := 2) rfl)) (hJ.2.2.2 _ (List.mem_of_getElem? (i := 2) rfl))) hce hcv hcl ?_
    refine lv_astore (lv' := [(5, .ref q9), (0, .ref (ga g 18 0)), (1, .int 6), (2, .int a), (3, .int b), (4, .int c2)]) hx hb dL_calls_172 hl (by decide) rfl (fun ls hl => ?_)
    refine lv_sipush (v := (-1003)) hx hb dL_calls_174 (by decide) ?_
    refine vx_ret ?_
    refine W.widen (k := 6) (n := 326) (Nat.le_of_ble_eq_true rfl) (Nat.le_of_ble_eq_true rfl) ?_
    exact W.iret (v := -1003) hx hb hr (fun t9 ht9 hW9 => ⟨⟨-1003, g, rfl, ⟨(if_neg hp).symm, hL, hV.1, by show CT g (fX7_choose S a b).2.2; rw [hS2]; exact hV.2.1, rfl⟩, by show CH D cy g (fX7_choose S a b).2.2 _; rw [ht9, hS2]; exact hM1⟩, hS1.F ht9⟩) hS1.2.2 dL_calls_177
  · rw [ht] at hB
    obtain ⟨hp0, hr1⟩ := hp
    have hI1 : CI A D cy g s (fX7_choose S a b).2.2 H1 locs1 := ⟨hB, hS1⟩
    refine lv_goto (tgt := 171) hx hb dL_calls_100 (by decide) ?_
    refine vx_ret ?_
    refine W.widen (k := 6) (n := 326) (Nat.le_of_ble_eq_true rfl) (Nat.le_of_ble_eq_true rfl) ?_
    exact W.iret (v := r) hx hb hr (fun t9 ht9 hW9 => ⟨⟨r, g, rfl, ⟨hr1.trans (if_pos hp0).symm, ⟨hL, hV.1, (k7_choose S a b).ct hV.2.1, rfl⟩⟩, by show CH D cy g _ t9.heap; rw [ht9]; exact hI1.1⟩, hI1.2.F ht9⟩) hI1.2.2.2 dL_calls_171
set_option maxHeartbeats 4000000 in
set_option maxRecDepth 100000 in
theorem qC_help (l : Launch) (hfl : l.stackTraces = false) (A : Nat → Prop) (D : va_G) (cy : Nat → ClassId) (g : CWt) (hL : CL A g) (S : St) (e0 mi n0 : Nat) (hA : ∀ q, n0 ≤ q → A q) (hV : CV e0 g S) (hI9 : Inv S) (x0 : Nat) (h18 : ga g 18 0 = x0) (a b c2 : Int32) (hc : (xq7 S 7 a b c2).2.1 = 0 ∨ (xq7 S 7 a b c2).2.1 = 3) : LCall l A D cy g S e0 mi n0 7 a b c2 yL_calls wsL_calls ({ frames := 9, cells := 6, slots := 326, locals := 240 } : Room) [.ref x0, .int 7, .int a, .int b, .int c2] := by
  subst h18
  refine vx_ofWH (cc := cL_calls) (maxL := 6) (ret := (some .int)) (hh := [(0, 171, 172, 59)]) (by decide) rfl ?_
  intro p e s m args below meth c s₁ B hml hv
  obtain ⟨rfl, ⟨⟨hM, hK⟩, hJ⟩, hX, hO, hn0⟩ := hv
  have hx := B.exec
  have hb := B.bytes
  have hr := B.returns
  have hts := atoms_spec (ws := wsL_calls) B.pre
  have hown : s.vm.findClass RL = some m.cls := findClass_of_methodNamed B.named
  have hct := vx_table (p := p) (x := yL_calls) B (hts (.codeWith yL_calls cL_calls 6 (some .int) [(0, 171, 172, 59)]) List.mem_cons_self)
  have hC : CC p s m _ c cL_calls 6 RL D cy wsL_calls := ⟨⟨hx, hb, hml, hown, hts⟩, hK⟩
  have hI : CI A D cy g s S s.heap [] := ⟨hM, va_S.rf⟩
  have hS : va_S A s.heap s.heap [] := va_S.rf
  have k_59 := hts (.classLink RL 59 "java/lang/IllegalStateException") (List.mem_cons_of_mem _ (List.mem_append_left _ (List.mem_append_left _ (List.mem_append_left _ (List.mem_append_left _ (List.mem_append_left _ (List.mem_append_left _ (List.mem_append_left _ (List.mem_append_left _ (List.mem_append_left _ (List.mem_append_left _ (List.mem_append_left _ (List.mem_append_left _ (List.mem_append_left _ (List.mem_of_getElem? (i := 0) rfl)))))))))))))))
  have hl := lv_entry ([.ref (ga g 18 0), .int 7, .int a, .int b, .int c2]) (n := 6) (Nat.le_of_ble_eq_true rfl)
  rw [lg_entry_eq]
  generalize (lg_sl ([.ref (ga g 18 0), .int 7, .int a, .int b, .int c2]) ++ List.replicate (6 - (lg_sl ([.ref (ga g 18 0), .int 7, .int a, .int b, .int c2])).length) Slot.unset).toArray = ls at hl ⊢
  have hl : lv_has ls 6 [(0, .ref (ga g 18 0)), (1, .int 7), (2, .int a), (3, .int b), (4, .int c2)] := hl
  refine lv_iload_n hx hb dL_calls_0 rfl (lv_at hl 1 rfl) ?_
  refine lv_if_ne (tgt := 13) hx hb dL_calls_1 (by decide) (fun _ => ?_) (fun c => absurd c (by decide))
  refine lv_iload_n hx hb dL_calls_13 rfl (lv_at hl 1 rfl) ?_
  refine lv_iconst (v := 1) hx hb dL_calls_14 (by decide) ?_
  refine lv_icmp_ne (tgt := 29) hx hb dL_calls_15 (by decide) (fun _ => ?_) (fun c => absurd c (by decide))
  refine lv_iload_n hx hb dL_calls_29 rfl (lv_at hl 1 rfl) ?_
  refine lv_iconst (v := 2) hx hb dL_calls_30 (by decide) ?_
  refine lv_icmp_ne (tgt := 45) hx hb dL_calls_31 (by decide) (fun _ => ?_) (fun c => absurd c (by decide))
  refine lv_iload_n hx hb dL_calls_45 rfl (lv_at hl 1 rfl) ?_
  refine lv_iconst (v := 3) hx hb dL_calls_46 (by decide) ?_
  refine lv_icmp_ne (tgt := 61) hx hb dL_calls_47 (by decide) (fun _ => ?_) (fun c => absurd c (by decide))
  refine lv_iload_n hx hb dL_calls_61 rfl (lv_at hl 1 rfl) ?_
  refine lv_iconst (v := 4) hx hb dL_calls_62 (by decide) ?_
  refine lv_icmp_ne (tgt := 75) hx hb dL_calls_63 (by decide) (fun _ => ?_) (fun c => absurd c (by decide))
  refine lv_iload_n hx hb dL_calls_75 rfl (lv_at hl 1 rfl) ?_
  refine lv_iconst (v := 5) hx hb dL_calls_76 (by decide) ?_
  refine lv_icmp_ne (tgt := 88) hx hb dL_calls_77 (by decide) (fun _ => ?_) (fun c => absurd c (by decide))
  refine lv_iload_n hx hb dL_calls_88 rfl (lv_at hl 1 rfl) ?_
  refine lv_bipush (v := 6) hx hb dL_calls_89 (by decide) ?_
  refine lv_icmp_ne (tgt := 103) hx hb dL_calls_91 (by decide) (fun _ => ?_) (fun c => absurd c (by decide))
  refine lv_iload_n hx hb dL_calls_103 rfl (lv_at hl 1 rfl) ?_
  refine lv_bipush (v := 7) hx hb dL_calls_104 (by decide) ?_
  refine lv_icmp_ne (tgt := 118) hx hb dL_calls_106 (by decide) (fun c => absurd rfl c) (fun _ => ?_)
  refine lv_aload_n hx hb dL_calls_109 rfl (lv_at hl 0 rfl) ?_
  refine lv_iload_n hx hb dL_calls_110 rfl (lv_at hl 2 rfl) ?_
  refine lv_iload_n hx hb dL_calls_111 rfl (lv_at hl 3 rfl) ?_
  refine vx_calli (vx_runV (As := [.int a, .int b]) (rest := []) hC.1 (qX7_help l hfl A D cy g hL S e0 hV a b) (cwV 2 hts gL_calls_X7_help rfl rfl rfl (by decide +kernel) ⟨Nat.le_of_ble_eq_true rfl, Nat.le_of_ble_eq_true rfl⟩) ⟨CTh_blind, cr_recv (ci := 8) hC.2 hI 18 0 rfl rfl rfl, fun U hU hW => ⟨rfl, ⟨by rw [hU]; exact hM, va_K.moved hW.alike hK⟩, by rw [hU]; exact JT.warm hW hJ⟩⟩ rfl rfl hl.1 rfl (lv_room (Nat.le_of_ble_eq_true rfl)) dL_calls_112 ⟨Nat.le_of_ble_eq_true rfl, Nat.le_of_ble_eq_true rfl⟩) hS (fun q _ h => h) (fun q h => h) (fun q _ h => h) (fun E ce q9 u t H1 locs1 ht hvm hp hE hz1 hk1 hS1 hce hcv hcl => ?_) (fun r u t H1 locs1 ht hvm hp hB hz1 hk1 hS1 => ?_)
  · obtain ⟨hE, hM1⟩ := hE
    rw [ht] at hM1
    have h3 : (fX7_help S a b).2.1 = 3 := hc.resolve_left hp
    have hS2 := (c7_help S a b).2 hp
    have hE : E = "java/lang/IllegalStateException" := hE.trans (by rw [h3]; rfl)
    subst hE
    refine vx_catch hown [] ⟨0, 171, 172, 59⟩ [] (by rw [hct]; rfl) (fun _ hz => absurd hz List.not_mem_nil) rfl (by decide) k_59 (va_Nw.use (jwl_tab _ (List.mem_of_getElem? (i := 2) rfl)) (hJ.2.2.2 _ (List.mem_of_getElem? (i := 2) rfl))) hce hcv hcl ?_
    refine lv_astore (lv' := [(5, .ref q9), (0, .ref (ga g 18 0)), (1, .int 7), (2, .int a), (3, .int b), (4, .int c2)]) hx hb dL_calls_172 hl (by decide) rfl (fun ls hl => ?_)
    refine lv_sipush (v := (-1003)) hx hb dL_calls_174 (by decide) ?_
    refine vx_ret ?_
    refine W.widen (k := 6) (n := 326) (Nat.le_of_ble_eq_true rfl) (Nat.le_of_ble_eq_true rfl) ?_
    exact W.iret (v := -1003) hx hb hr (fun t9 ht9 hW9 => ⟨⟨-1003, g, rfl, ⟨(if_neg hp).symm, hL, hV.1, by show CT g (fX7_help S a b).2.2; rw [hS2]; exact hV.2.1, rfl⟩, by show CH D cy g (fX7_help S a b).2.2 _; rw [ht9, hS2]; exact hM1⟩, hS1.F ht9⟩) hS1.2.2 dL_calls_177
  · rw [ht] at hB
    obtain ⟨hp0, hr1⟩ := hp
    have hI1 : CI A D cy g s (fX7_help S a b).2.2 H1 locs1 := ⟨hB, hS1⟩
    refine lv_goto (tgt := 171) hx hb dL_calls_115 (by decide) ?_
    refine vx_ret ?_
    refine W.widen (k := 6) (n := 326) (Nat.le_of_ble_eq_true rfl) (Nat.le_of_ble_eq_true rfl) ?_
    exact W.iret (v := r) hx hb hr (fun t9 ht9 hW9 => ⟨⟨r, g, rfl, ⟨hr1.trans (if_pos hp0).symm, ⟨hL, hV.1, (k7_help S a b).ct hV.2.1, rfl⟩⟩, by show CH D cy g _ t9.heap; rw [ht9]; exact hI1.1⟩, hI1.2.F ht9⟩) hI1.2.2.2 dL_calls_171
set_option maxHeartbeats 4000000 in
set_option maxRecDepth 100000 in
theorem qC_judge (l : Launch) (hfl : l.stackTraces = false) (A : Nat → Prop) (D : va_G) (cy : Nat → ClassId) (g : CWt) (hL : CL A g) (S : St) (e0 mi n0 : Nat) (hA : ∀ q, n0 ≤ q → A q) (hV : CV e0 g S) (hI9 : Inv S) (x0 : Nat) (h18 : ga g 18 0 = x0) (a b c2 : Int32) (hc : (xq7 S 8 a b c2).2.1 = 0 ∨ (xq7 S 8 a b c2).2.1 = 3) : LCall l A D cy g S e0 mi n0 8 a b c2 yL_calls wsL_calls ({ frames := 9, cells := 6, slots := 326, locals := 240 } : Room) [.ref x0, .int 8, .int a, .int b, .int c2] := by
  subst h18
  refine vx_ofWH (cc := cL_calls) (maxL := 6) (ret := (some .int)) (hh := [(0, 171, 172, 59)]) (by decide) rfl ?_
  intro p e s m args below meth c s₁ B hml hv
  obtain ⟨rfl, ⟨⟨hM, hK⟩, hJ⟩, hX, hO, hn0⟩ := hv
  have hx := B.exec
  have hb := B.bytes
  have hr := B.returns
  have hts := atoms_spec (ws := wsL_calls) B.pre
  have hown : s.vm.findClass RL = some m.cls := findClass_of_methodNamed B.named
  have hct := vx_table (p := p) (x := yL_calls) B (hts (.codeWith yL_calls cL_calls 6 (some .int) [(0, 171, 172, 59)]) List.mem_cons_self)
  have hC : CC p s m _ c cL_calls 6 RL D cy wsL_calls := ⟨⟨hx, hb, hml, hown, hts⟩, hK⟩
  have hI : CI A D cy g s S s.heap [] := ⟨hM, va_S.rf⟩
  have hS : va_S A s.heap s.heap [] := va_S.rf
  have k_59 := hts (.classLink RL 59 "java/lang/IllegalStateException") (List.mem_cons_of_mem _ (List.mem_append_left _ (List.mem_append_left _ (List.mem_append_left _ (List.mem_append_left _ (List.mem_append_left _ (List.mem_append_left _ (List.mem_append_left _ (List.mem_append_left _ (List.mem_append_left _ (List.mem_append_left _ (List.mem_append_left _ (List.mem_append_left _ (List.mem_append_left _ (List.mem_of_getElem? (i := 0) rfl)))))))))))))))
  have hl := lv_entry ([.ref (ga g 18 0), .int 8, .int a, .int b, .int c2]) (n := 6) (Nat.le_of_ble_eq_true rfl)
  rw [lg_entry_eq]
  generalize (lg_sl ([.ref (ga g 18 0), .int 8, .int a, .int b, .int c2]) ++ List.replicate (6 - (lg_sl ([.ref (ga g 18 0), .int 8, .int a, .int b, .int c2])).length) Slot.unset).toArray = ls at hl ⊢
  have hl : lv_has ls 6 [(0, .ref (ga g 18 0)), (1, .int 8), (2, .int a), (3, .int b), (4, .int c2)] := hl
  refine lv_iload_n hx hb dL_calls_0 rfl (lv_at hl 1 rfl) ?_
  refine lv_if_ne (tgt := 13) hx hb dL_calls_1 (by decide) (fun _ => ?_) (fun c => absurd c (by decide))
  refine lv_iload_n hx hb dL_calls_13 rfl (lv_at hl 1 rfl) ?_
  refine lv_iconst (v := 1) hx hb dL_calls_14 (by decide) ?_
  refine lv_icmp_ne (tgt := 29) hx hb dL_calls_15 (by decide) (fun _ => ?_) (fun c => absurd c (by decide))
  refine lv_iload_n hx hb dL_calls_29 rfl (lv_at hl 1 rfl) ?_
  refine lv_iconst (v := 2) hx hb dL_calls_30 (by decide) ?_
  refine lv_icmp_ne (tgt := 45) hx hb dL_calls_31 (by decide) (fun _ => ?_) (fun c => absurd c (by decide))
  refine lv_iload_n hx hb dL_calls_45 rfl (lv_at hl 1 rfl) ?_
  refine lv_iconst (v := 3) hx hb dL_calls_46 (by decide) ?_
  refine lv_icmp_ne (tgt := 61) hx hb dL_calls_47 (by decide) (fun _ => ?_) (fun c => absurd c (by decide))
  refine lv_iload_n hx hb dL_calls_61 rfl (lv_at hl 1 rfl) ?_
  refine lv_iconst (v := 4) hx hb dL_calls_62 (by decide) ?_
  refine lv_icmp_ne (tgt := 75) hx hb dL_calls_63 (by decide) (fun _ => ?_) (fun c => absurd c (by decide))
  refine lv_iload_n hx hb dL_calls_75 rfl (lv_at hl 1 rfl) ?_
  refine lv_iconst (v := 5) hx hb dL_calls_76 (by decide) ?_
  refine lv_icmp_ne (tgt := 88) hx hb dL_calls_77 (by decide) (fun _ => ?_) (fun c => absurd c (by decide))
  refine lv_iload_n hx hb dL_calls_88 rfl (lv_at hl 1 rfl) ?_
  refine lv_bipush (v := 6) hx hb dL_calls_89 (by decide) ?_
  refine lv_icmp_ne (tgt := 103) hx hb dL_calls_91 (by decide) (fun _ => ?_) (fun c => absurd c (by decide))
  refine lv_iload_n hx hb dL_calls_103 rfl (lv_at hl 1 rfl) ?_
  refine lv_bipush (v := 7) hx hb dL_calls_104 (by decide) ?_
  refine lv_icmp_ne (tgt := 118) hx hb dL_calls_106 (by decide) (fun _ => ?_) (fun c => absurd c (by decide))
  refine lv_iload_n hx hb dL_calls_118 rfl (lv_at hl 1 rfl) ?_
  refine lv_bipush (v := 8) hx hb dL_calls_119 (by decide) ?_
  refine lv_icmp_ne (tgt := 132) hx hb dL_calls_121 (by decide) (fun c => absurd rfl c) (fun _ => ?_)
  refine lv_aload_n hx hb dL_calls_124 rfl (lv_at hl 0 rfl) ?_
  refine lv_iload_n hx hb dL_calls_125 rfl (lv_at hl 2 rfl) ?_
  refine vx_calli (vx_runV (As := [.int a]) (rest := []) hC.1 (qX7_judge l hfl A D cy g hL S e0 hV a) (cwV 1 hts gL_calls_X7_judge rfl rfl rfl (by decide +kernel) ⟨Nat.le_of_ble_eq_true rfl, Nat.le_of_ble_eq_true rfl⟩) ⟨CTh_blind, cr_recv (ci := 8) hC.2 hI 18 0 rfl rfl rfl, fun U hU hW => ⟨rfl, ⟨by rw [hU]; exact hM, va_K.moved hW.alike hK⟩, by rw [hU]; exact JT.warm hW hJ⟩⟩ rfl rfl hl.1 rfl (lv_room (Nat.le_of_ble_eq_true rfl)) dL_calls_126 ⟨Nat.le_of_ble_eq_true rfl, Nat.le_of_ble_eq_true rfl⟩) hS (fun q _ h => h) (fun q h => h) (fun q _ h => h) (fun E ce q9 u t H1 locs1 ht hvm hp hE hz1 hk1 hS1 hce hcv hcl => ?_) (fun r u t H1 locs1 ht hvm hp hB hz1 hk1 hS1 => ?_)
  · obtain ⟨hE, hM1⟩ := hE
    rw [ht] at hM1
    have h3 : (fX7_judge S a).2.1 = 3 := hc.resolve_left hp
    have hS2 := (c7_judge S a).2 hp
    have hE : E = "java/lang/IllegalStateException" := hE.trans (by rw [h3]; rfl)
    subst hE
    refine vx_catch hown [] ⟨0, 171, 172, 59⟩ [] (by rw [hct]; rfl) (fun _ hz => absurd hz List.not_mem_nil) rfl (by decide) k_59 (va_Nw.use (jwl_tab _ (List.mem_of_getElem? (i := 2) rfl)) (hJ.2.2.2 _ (List.mem_of_getElem? (i := 2) rfl))) hce hcv hcl ?_
    refine lv_astore (lv' := [(5, .ref q9), (0, .ref (ga g 18 0)), (1, .int 8), (2, .int a), (3, .int b), (4, .int c2)]) hx hb dL_calls_172 hl (by decide) rfl (fun ls hl => ?_)
    refine lv_sipush (v := (-1003)) hx hb dL_calls_174 (by decide) ?_
    refine vx_ret ?_
    refine W.widen (k := 6) (n := 326) (Nat.le_of_ble_eq_true rfl) (Nat.le_of_ble_eq_true rfl) ?_
    exact W.iret (v := -1003) hx hb hr (fun t9 ht9 hW9 => ⟨⟨-1003, g, rfl, ⟨(if_neg hp).symm, hL, hV.1, by show CT g (fX7_judge S a).2.2; rw [hS2]; exact hV.2.1, rfl⟩, by show CH D cy g (fX7_judge S a).2.2 _; rw [ht9, hS2]; exact hM1⟩, hS1.F ht9⟩) hS1.2.2 dL_calls_177
  · rw [ht] at hB
    obtain ⟨hp0, hr1⟩ := hp
    have hI1 : CI A D cy g s (fX7_judge S a).2.2 H1 locs1 := ⟨hB, hS1⟩
    refine lv_goto (tgt := 171) hx hb dL_calls_129 (by decide) ?_
    refine vx_ret ?_
    refine W.widen (k := 6) (n := 326) (Nat.le_of_ble_eq_true rfl) (Nat.le_of_ble_eq_true rfl) ?_
    exact W.iret (v := r) hx hb hr (fun t9 ht9 hW9 => ⟨⟨r, g, rfl, ⟨hr1.trans (if_pos hp0).symm, ⟨hL, hV.1, (k7_judge S a).ct hV.2.1, rfl⟩⟩, by show CH D cy g _ t9.heap; rw [ht9]; exact hI1.1⟩, hI1.2.F ht9⟩) hI1.2.2.2 dL_calls_171
set_option maxHeartbeats 4000000 in
set_option maxRecDepth 100000 in
theorem qC_settle (l : Launch) (hfl : l.stackTraces = false) (A : Nat → Prop) (D : va_G) (cy : Nat → ClassId) (g : CWt) (hL : CL A g) (S : St) (e0 mi n0 : Nat) (hA : ∀ q, n0 ≤ q → A q) (hV : CV e0 g S) (hI9 : Inv S) (x0 : Nat) (h18 : ga g 18 0 = x0) (a b c2 : Int32) (hc : (xq7 S 9 a b c2).2.1 = 0 ∨ (xq7 S 9 a b c2).2.1 = 3) : LCall l A D cy g S e0 mi n0 9 a b c2 yL_calls wsL_calls ({ frames := 9, cells := 6, slots := 326, locals := 240 } : Room) [.ref x0, .int 9, .int a, .int b, .int c2] := by
  subst h18
  refine vx_ofWH (cc := cL_calls) (maxL := 6) (ret := (some .int)) (hh := [(0, 171, 172, 59)]) (by decide) rfl ?_
  intro p e s m args below meth c s₁ B hml hv
  obtain ⟨rfl, ⟨⟨hM, hK⟩, hJ⟩, hX, hO, hn0⟩ := hv
  have hx := B.exec
  have hb := B.bytes
  have hr := B.returns
  have hts := atoms_spec (ws := wsL_calls) B.pre
  have hown : s.vm.findClass RL = some m.cls := findClass_of_methodNamed B.named
  have hct := vx_table (p := p) (x := yL_calls) B (hts (.codeWith yL_calls cL_calls 6 (some .int) [(0, 171, 172, 59)]) List.mem_cons_self)
  have hC : CC p s m _ c cL_calls 6 RL D cy wsL_calls := ⟨⟨hx, hb, hml, hown, hts⟩, hK⟩
  have hI : CI A D cy g s S s.heap [] := ⟨hM, va_S.rf⟩
  have hS : va_S A s.heap s.heap [] := va_S.rf
  have k_59 := hts (.classLink RL 59 "java/lang/IllegalStateException") (List.mem_cons_of_mem _ (List.mem_append_left _ (List.mem_append_left _ (List.mem_append_left _ (List.mem_append_left _ (List.mem_append_left _ (List.mem_append_left _ (List.mem_append_left _ (List.mem_append_left _ (List.mem_append_left _ (List.mem_append_left _ (List.mem_append_left _ (List.mem_append_left _ (List.mem_append_left _ (List.mem_of_getElem? (i := 0) rfl)))))))))))))))
  have hl := lv_entry ([.ref (ga g 18 0), .int 9, .int a, .int b, .int c2]) (n := 6) (Nat.le_of_ble_eq_true rfl)
  rw [lg_entry_eq]
  generalize (lg_sl ([.ref (ga g 18 0), .int 9, .int a, .int b, .int c2]) ++ List.replicate (6 - (lg_sl ([.ref (ga g 18 0), .int 9, .int a, .int b, .int c2])).length) Slot.unset).toArray = ls at hl ⊢
  have hl : lv_has ls 6 [(0, .ref (ga g 18 0)), (1, .int 9), (2, .int a), (3, .int b), (4, .int c2)] := hl
  refine lv_iload_n hx hb dL_calls_0 rfl (lv_at hl 1 rfl) ?_
  refine lv_if_ne (tgt := 13) hx hb dL_calls_1 (by decide) (fun _ => ?_) (fun c => absurd c (by decide))
  refine lv_iload_n hx hb dL_calls_13 rfl (lv_at hl 1 rfl) ?_
  refine lv_iconst (v := 1) hx hb dL_calls_14 (by decide) ?_
  refine lv_icmp_ne (tgt := 29) hx hb dL_calls_15 (by decide) (fun _ => ?_) (fun c => absurd c (by decide))
  refine lv_iload_n hx hb dL_calls_29 rfl (lv_at hl 1 rfl) ?_
  refine lv_iconst (v := 2) hx hb dL_calls_30 (by decide) ?_
  refine lv_icmp_ne (tgt := 45) hx hb dL_calls_31 (by decide) (fun _ => ?_) (fun c => absurd c (by decide))
  refine lv_iload_n hx hb dL_calls_45 rfl (lv_at hl 1 rfl) ?_
  refine lv_iconst (v := 3) hx hb dL_calls_46 (by decide) ?_
  refine lv_icmp_ne (tgt := 61) hx hb dL_calls_47 (by decide) (fun _ => ?_) (fun c => absurd c (by decide))
  refine lv_iload_n hx hb dL_calls_61 rfl (lv_at hl 1 rfl) ?_
  refine lv_iconst (v := 4) hx hb dL_calls_62 (by decide) ?_
  refine lv_icmp_ne (tgt := 75) hx hb dL_calls_63 (by decide) (fun _ => ?_) (fun c => absurd c (by decide))
  refine lv_iload_n hx hb dL_calls_75 rfl (lv_at hl 1 rfl) ?_
  refine lv_iconst (v := 5) hx hb dL_calls_76 (by decide) ?_
  refine lv_icmp_ne (tgt := 88) hx hb dL_calls_77 (by decide) (fun _ => ?_) (fun c => absurd c (by decide))
  refine lv_iload_n hx hb dL_calls_88 rfl (lv_at hl 1 rfl) ?_
  refine lv_bipush (v := 6) hx hb dL_calls_89 (by decide) ?_
  refine lv_icmp_ne (tgt := 103) hx hb dL_calls_91 (by decide) (fun _ => ?_) (fun c => absurd c (by decide))
  refine lv_iload_n hx hb dL_calls_103 rfl (lv_at hl 1 rfl) ?_
  refine lv_bipush (v := 7) hx hb dL_calls_104 (by decide) ?_
  refine lv_icmp_ne (tgt := 118) hx hb dL_calls_106 (by decide) (fun _ => ?_) (fun c => absurd c (by decide))
  refine lv_iload_n hx hb dL_calls_118 rfl (lv_at hl 1 rfl) ?_
  refine lv_bipush (v := 8) hx hb dL_calls_119 (by decide) ?_
  refine lv_icmp_ne (tgt := 132) hx hb dL_calls_121 (by decide) (fun _ => ?_) (fun c => absurd c (by decide))
  refine lv_iload_n hx hb dL_calls_132 rfl (lv_at hl 1 rfl) ?_
  refine lv_bipush (v := 9) hx hb dL_calls_133 (by decide) ?_
  refine lv_icmp_ne (tgt := 147) hx hb dL_calls_135 (by decide) (fun c => absurd rfl c) (fun _ => ?_)
  refine lv_aload_n hx hb dL_calls_138 rfl (lv_at hl 0 rfl) ?_
  refine lv_iload_n hx hb dL_calls_139 rfl (lv_at hl 2 rfl) ?_
  refine lv_iload_n hx hb dL_calls_140 rfl (lv_at hl 3 rfl) ?_
  refine vx_calli (vx_runV (As := [.int a, .int b]) (rest := []) hC.1 (qX7_settle l hfl A D cy g hL S e0 hV a b) (cwV 2 hts gL_calls_X7_settle rfl rfl rfl (by decide +kernel) ⟨Nat.le_of_ble_eq_true rfl, Nat.le_of_ble_eq_true rfl⟩) ⟨CTh_blind, cr_recv (ci := 8) hC.2 hI 18 0 rfl rfl rfl, fun U hU hW => ⟨rfl, ⟨by rw [hU]; exact hM, va_K.moved hW.alike hK⟩, by rw [hU]; exact JT.warm hW hJ⟩⟩ rfl rfl hl.1 rfl (lv_room (Nat.le_of_ble_eq_true rfl)) dL_calls_141 ⟨Nat.le_of_ble_eq_true rfl, Nat.le_of_ble_eq_true rfl⟩) hS (fun q _ h => h) (fun q h => h) (fun q _ h => h) (fun E ce q9 u t H1 locs1 ht hvm hp hE hz1 hk1 hS1 hce hcv hcl => ?_) (fun r u t H1 locs1 ht hvm hp hB hz1 hk1 hS1 => ?_)
  · obtain ⟨hE, hM1⟩ := hE
    rw [ht] at hM1
    have h3 : (fX7_settle S a b).2.1 = 3 := hc.resolve_left hp
    have hS2 := (c7_settle S a b).2 hp
    have hE : E = "java/lang/IllegalStateException" := hE.trans (by rw [h3]; rfl)
    subst hE
    refine vx_catch hown [] ⟨0, 171, 172, 59⟩ [] (by rw [hct]; rfl) (fun _ hz => absurd hz List.not_mem_nil) rfl (by decide) k_59 (va_Nw.use (jwl_tab _ (List.mem_of_getElem? (i := 2) rfl)) (hJ.2.2.2 _ (List.mem_of_getElem? (i := 2) rfl))) hce hcv hcl ?_
    refine lv_astore (lv' := [(5, .ref q9), (0, .ref (ga g 18 0)), (1, .int 9), (2, .int a), (3, .int b), (4, .int c2)]) hx hb dL_calls_172 hl (by decide) rfl (fun ls hl => ?_)
    refine lv_sipush (v := (-1003)) hx hb dL_calls_174 (by decide) ?_
    refine vx_ret ?_
    refine W.widen (k := 6) (n := 326) (Nat.le_of_ble_eq_true rfl) (Nat.le_of_ble_eq_true rfl) ?_
    exact W.iret (v := -1003) hx hb hr (fun t9 ht9 hW9 => ⟨⟨-1003, g, rfl, ⟨(if_neg hp).symm, hL, hV.1, by show CT g (fX7_settle S a b).2.2; rw [hS2]; exact hV.2.1, rfl⟩, by show CH D cy g (fX7_settle S a b).2.2 _; rw [ht9, hS2]; exact hM1⟩, hS1.F ht9⟩) hS1.2.2 dL_calls_177
  · rw [ht] at hB
    obtain ⟨hp0, hr1⟩ := hp
    have hI1 : CI A D cy g s (fX7_settle S a b).2.2 H1 locs1 := ⟨hB, hS1⟩
    refine lv_goto (tgt := 171) hx hb dL_calls_144 (by decide) ?_
    refine vx_ret ?_
    refine W.widen (k := 6) (n := 326) (Nat.le_of_ble_eq_true rfl) (Nat.le_of_ble_eq_true rfl) ?_
    exact W.iret (v := r) hx hb hr (fun t9 ht9 hW9 => ⟨⟨r, g, rfl, ⟨hr1.trans (if_pos hp0).symm, ⟨hL, hV.1, (k7_settle S a b).ct hV.2.1, rfl⟩⟩, by show CH D cy g _ t9.heap; rw [ht9]; exact hI1.1⟩, hI1.2.F ht9⟩) hI1.2.2.2 dL_calls_171
set_option maxHeartbeats 4000000 in
set_option maxRecDepth 100000 in
theorem qC_fire (l : Launch) (hfl : l.stackTraces = false) (A : Nat → Prop) (D : va_G) (cy : Nat → ClassId) (g : CWt) (hL : CL A g) (S : St) (e0 mi n0 : Nat) (hA : ∀ q, n0 ≤ q → A q) (hV : CV e0 g S) (hI9 : Inv S) (x0 : Nat) (h18 : ga g 18 0 = x0) (a b c2 : Int32) (hc : (xq7 S 10 a b c2).2.1 = 0 ∨ (xq7 S 10 a b c2).2.1 = 3) : LCall l A D cy g S e0 mi n0 10 a b c2 yL_calls wsL_calls ({ frames := 9, cells := 6, slots := 326, locals := 240 } : Room) [.ref x0, .int 10, .int a, .int b, .int c2] := by
  subst h18
  refine vx_ofWH (cc := cL_calls) (maxL := 6) (ret := (some .int)) (hh := [(0, 171, 172, 59)]) (by decide) rfl ?_
  intro p e s m args below meth c s₁ B hml hv
  obtain ⟨rfl, ⟨⟨hM, hK⟩, hJ⟩, hX, hO, hn0⟩ := hv
  have hx := B.exec
  have hb := B.bytes
  have hr := B.returns
  have hts := atoms_spec (ws := wsL_calls) B.pre
  have hown : s.vm.findClass RL = some m.cls := findClass_of_methodNamed B.named
  have hct := vx_table (p := p) (x := yL_calls) B (hts (.codeWith yL_calls cL_calls 6 (some .int) [(0, 171, 172, 59)]) List.mem_cons_self)
  have hC : CC p s m _ c cL_calls 6 RL D cy wsL_calls := ⟨⟨hx, hb, hml, hown, hts⟩, hK⟩
  have hI : CI A D cy g s S s.heap [] := ⟨hM, va_S.rf⟩
  have hS : va_S A s.heap s.heap [] := va_S.rf
  have k_59 := hts (.classLink RL 59 "java/lang/IllegalStateException") (List.mem_cons_of_mem _ (List.mem_append_left _ (List.mem_append_left _ (List.mem_append_left _ (List.mem_append_left _ (List.mem_append_left _ (List.mem_append_left _ (List.mem_append_left _ (List.mem_append_left _ (List.mem_append_left _ (List.mem_append_left _ (List.mem_append_left _ (List.mem_append_left _ (List.mem_append_left _ (List.mem_of_getElem? (i := 0) rfl)))))))))))))))
  have hl := lv_entry ([.ref (ga g 18 0), .int 10, .int a, .int b, .int c2]) (n := 6) (Nat.le_of_ble_eq_true rfl)
  rw [lg_entry_eq]
  generalize (lg_sl ([.ref (ga g 18 0), .int 10, .int a, .int b, .int c2]) ++ List.replicate (6 - (lg_sl ([.ref (ga g 18 0), .int 10, .int a, .int b, .int c2])).length) Slot.unset).toArray = ls at hl ⊢
  have hl : lv_has ls 6 [(0, .ref (ga g 18 0)), (1, .int 10), (2, .int a), (3, .int b), (4, .int c2)] := hl
  refine lv_iload_n hx hb dL_calls_0 rfl (lv_at hl 1 rfl) ?_
  refine lv_if_ne (tgt := 13) hx hb dL_calls_1 (by decide) (fun _ => ?_) (fun c => absurd c (by decide))
  refine lv_iload_n hx hb dL_calls_13 rfl (lv_at hl 1 rfl) ?_
  refine lv_iconst (v := 1) hx hb dL_calls_14 (by decide) ?_
  refine lv_icmp_ne (tgt := 29) hx hb dL_calls_15 (by decide) (fun _ => ?_) (fun c => absurd c (by decide))
  refine lv_iload_n hx hb dL_calls_29 rfl (lv_at hl 1 rfl) ?_
  refine lv_iconst (v := 2) hx hb dL_calls_30 (by decide) ?_
  refine lv_icmp_ne (tgt := 45) hx hb dL_calls_31 (by decide) (fun _ => ?_) (fun c => absurd c (by decide))
  refine lv_iload_n hx hb dL_calls_45 rfl (lv_at hl 1 rfl) ?_
  refine lv_iconst (v := 3) hx hb dL_calls_46 (by decide) ?_
  refine lv_icmp_ne (tgt := 61) hx hb dL_calls_47 (by decide) (fun _ => ?_) (fun c => absurd c (by decide))
  refine lv_iload_n hx hb dL_calls_61 rfl (lv_at hl 1 rfl) ?_
  refine lv_iconst (v := 4) hx hb dL_calls_62 (by decide) ?_
  refine lv_icmp_ne (tgt := 75) hx hb dL_calls_63 (by decide) (fun _ => ?_) (fun c => absurd c (by decide))
  refine lv_iload_n hx hb dL_calls_75 rfl (lv_at hl 1 rfl) ?_
  refine lv_iconst (v := 5) hx hb dL_calls_76 (by decide) ?_
  refine lv_icmp_ne (tgt := 88) hx hb dL_calls_77 (by decide) (fun _ => ?_) (fun c => absurd c (by decide))
  refine lv_iload_n hx hb dL_calls_88 rfl (lv_at hl 1 rfl) ?_
  refine lv_bipush (v := 6) hx hb dL_calls_89 (by decide) ?_
  refine lv_icmp_ne (tgt := 103) hx hb dL_calls_91 (by decide) (fun _ => ?_) (fun c => absurd c (by decide))
  refine lv_iload_n hx hb dL_calls_103 rfl (lv_at hl 1 rfl) ?_
  refine lv_bipush (v := 7) hx hb dL_calls_104 (by decide) ?_
  refine lv_icmp_ne (tgt := 118) hx hb dL_calls_106 (by decide) (fun _ => ?_) (fun c => absurd c (by decide))
  refine lv_iload_n hx hb dL_calls_118 rfl (lv_at hl 1 rfl) ?_
  refine lv_bipush (v := 8) hx hb dL_calls_119 (by decide) ?_
  refine lv_icmp_ne (tgt := 132) hx hb dL_calls_121 (by decide) (fun _ => ?_) (fun c => absurd c (by decide))
  refine lv_iload_n hx hb dL_calls_132 rfl (lv_at hl 1 rfl) ?_
  refine lv_bipush (v := 9) hx hb dL_calls_133 (by decide) ?_
  refine lv_icmp_ne (tgt := 147) hx hb dL_calls_135 (by decide) (fun _ => ?_) (fun c => absurd c (by decide))
  refine lv_iload_n hx hb dL_calls_147 rfl (lv_at hl 1 rfl) ?_
  refine lv_bipush (v := 10) hx hb dL_calls_148 (by decide) ?_
  refine lv_icmp_ne (tgt := 165) hx hb dL_calls_150 (by decide) (fun c => absurd rfl c) (fun _ => ?_)
  refine lv_aload_n hx hb dL_calls_153 rfl (lv_at hl 0 rfl) ?_
  refine lv_iload_n hx hb dL_calls_154 rfl (lv_at hl 2 rfl) ?_
  refine lv_iload_n hx hb dL_calls_155 rfl (lv_at hl 3 rfl) ?_
  refine vx_calli (vx_runV (As := [.int a, .int b]) (rest := []) hC.1 (qX7_fire l hfl A D cy g hL S e0 hV a b) (cwV 2 hts gL_calls_X7_fire rfl rfl rfl (by decide +kernel) ⟨Nat.le_of_ble_eq_true rfl, Nat.le_of_ble_eq_true rfl⟩) ⟨CTh_blind, cr_recv (ci := 8) hC.2 hI 18 0 rfl rfl rfl, fun U hU hW => ⟨rfl, ⟨by rw [hU]; exact hM, va_K.moved hW.alike hK⟩, by rw [hU]; exact JT.warm hW hJ⟩⟩ rfl rfl hl.1 rfl (lv_room (Nat.le_of_ble_eq_true rfl)) dL_calls_156 ⟨Nat.le_of_ble_eq_true rfl, Nat.le_of_ble_eq_true rfl⟩) hS (fun q _ h => h) (fun q h => h) (fun q _ h => h) (fun E ce q9 u t H1 locs1 ht hvm hp hE hz1 hk1 hS1 hce hcv hcl => ?_) (fun r u t H1 locs1 ht hvm hp hB hz1 hk1 hS1 => ?_)
  · obtain ⟨hE, hM1⟩ := hE
    rw [ht] at hM1
    have h3 : (fX7_fire S a b).2.1 = 3 := hc.resolve_left hp
    have hS2 := (c7_fire S a b).2 hp
    have hE : E = "java/lang/IllegalStateException" := hE.trans (by rw [h3]; rfl)
    subst hE
    refine vx_catch hown [] ⟨0, 171, 172, 59⟩ [] (by rw [hct]; rfl) (fun _ hz => absurd hz List.not_mem_nil) rfl (by decide) k_59 (va_Nw.use (jwl_tab _ (List.mem_of_getElem? (i := 2) rfl)) (hJ.2.2.2 _ (List.mem_of_getElem? (i := 2) rfl))) hce hcv hcl ?_
    refine lv_astore (lv' := [(5, .ref q9), (0, .ref (ga g 18 0)), (1, .int 10), (2, .int a), (3, .int b), (4, .int c2)]) hx hb dL_calls_172 hl (by decide) rfl (fun ls hl => ?_)
    refine lv_sipush (v := (-1003)) hx hb dL_calls_174 (by decide) ?_
    refine vx_ret ?_
    refine W.widen (k := 6) (n := 326) (Nat.le_of_ble_eq_true rfl) (Nat.le_of_ble_eq_true rfl) ?_
    exact W.iret (v := -1003) hx hb hr (fun t9 ht9 hW9 => ⟨⟨-1003, g, rfl, ⟨(if_neg hp).symm, hL, hV.1, by show CT g (fX7_fire S a b).2.2; rw [hS2]; exact hV.2.1, rfl⟩, by show CH D cy g (fX7_fire S a b).2.2 _; rw [ht9, hS2]; exact hM1⟩, hS1.F ht9⟩) hS1.2.2 dL_calls_177
  · rw [ht] at hB
    obtain ⟨hp0, hr1⟩ := hp
    have hI1 : CI A D cy g s (fX7_fire S a b).2.2 H1 locs1 := ⟨hB, hS1⟩
    refine cr_callS (As := [.int r]) (rest := []) hC hI1 (qL_yes l r) (va_cwS 1 hts gL_calls_L_yes rfl rfl rfl (by decide +kernel) ⟨Nat.le_of_ble_eq_true rfl, Nat.le_of_ble_eq_true rfl⟩) rfl hl.1 rfl (Nat.le_of_ble_eq_true rfl) dL_calls_159 ⟨Nat.le_of_ble_eq_true rfl, Nat.le_of_ble_eq_true rfl⟩ (fun H1 locs1 hI1 => ?_)
    rw [show fL_yes r = r by rw [hr1]; exact yes_bz (yes_fire S a b)]
    refine lv_goto (tgt := 171) hx hb dL_calls_162 (by decide) ?_
    refine vx_ret ?_
    refine W.widen (k := 6) (n := 326) (Nat.le_of_ble_eq_true rfl) (Nat.le_of_ble_eq_true rfl) ?_
    exact W.iret (v := r) hx hb hr (fun t9 ht9 hW9 => ⟨⟨r, g, rfl, ⟨hr1.trans (if_pos hp0).symm, ⟨hL, hV.1, (k7_fire S a b).ct hV.2.1, rfl⟩⟩, by show CH D cy g _ t9.heap; rw [ht9]; exact hI1.1⟩, hI1.2.F ht9⟩) hI1.2.2.2 dL_calls_171
set_option maxHeartbeats 4000000 in
set_option maxRecDepth 100000 in
theorem qC_award (l : Launch) (hfl : l.stackTraces = false) (A : Nat → Prop) (D : va_G) (cy : Nat → ClassId) (g : CWt) (hL : CL A g) (S : St) (e0 mi n0 : Nat) (hA : ∀ q, n0 ≤ q → A q) (hV : CV e0 g S) (hI9 : Inv S) (x0 : Nat) (h18 : ga g 18 0 = x0) (a b c2 : Int32) (hc : (xq7 S 11 a b c2).2.1 = 0 ∨ (xq7 S 11 a b c2).2.1 = 3) : LCall l A D cy g S e0 mi n0 11 a b c2 yL_calls wsL_calls ({ frames := 9, cells := 6, slots := 326, locals := 240 } : Room) [.ref x0, .int 11, .int a, .int b, .int c2] := by
  subst h18
  refine vx_ofWH (cc := cL_calls) (maxL := 6) (ret := (some .int)) (hh := [(0, 171, 172, 59)]) (by decide) rfl ?_
  intro p e s m args below meth c s₁ B hml hv
  obtain ⟨rfl, ⟨⟨hM, hK⟩, hJ⟩, hX, hO, hn0⟩ := hv
  have hx := B.exec
  have hb := B.bytes
  have hr := B.returns
  have hts := atoms_spec (ws := wsL_calls) B.pre
  have hown : s.vm.findClass RL = some m.cls := findClass_of_methodNamed B.named
  have hct := vx_table (p := p) (x := yL_calls) B (hts (.codeWith yL_calls cL_calls 6 (some .int) [(0, 171, 172, 59)]) List.mem_cons_self)
  have hC : CC p s m _ c cL_calls 6 RL D cy wsL_calls := ⟨⟨hx, hb, hml, hown, hts⟩, hK⟩
  have hI : CI A D cy g s S s.heap [] := ⟨hM, va_S.rf⟩
  have hS : va_S A s.heap s.heap [] := va_S.rf
  have k_59 := hts (.classLink RL 59 "java/lang/IllegalStateException") (List.mem_cons_of_mem _ (List.mem_append_left _ (List.mem_append_left _ (List.mem_append_left _ (List.mem_append_left _ (List.mem_append_left _ (List.mem_append_left _ (List.mem_append_left _ (List.mem_append_left _ (List.mem_append_left _ (List.mem_append_left _ (List.mem_append_left _ (List.mem_append_left _ (List.mem_append_left _ (List.mem_of_getElem? (i := 0) rfl)))))))))))))))
  have hl := lv_entry ([.ref (ga g 18 0), .int 11, .int a, .int b, .int c2]) (n := 6) (Nat.le_of_ble_eq_true rfl)
  rw [lg_entry_eq]
  generalize (lg_sl ([.ref (ga g 18 0), .int 11, .int a, .int b, .int c2]) ++ List.replicate (6 - (lg_sl ([.ref (ga g 18 0), .int 11, .int a, .int b, .int c2])).length) Slot.unset).toArray = ls at hl ⊢
  have hl : lv_has ls 6 [(0, .ref (ga g 18 0)), (1, .int 11), (2, .int a), (3, .int b), (4, .int c2)] := hl
  refine lv_iload_n hx hb dL_calls_0 rfl (lv_at hl 1 rfl) ?_
  refine lv_if_ne (tgt := 13) hx hb dL_calls_1 (by decide) (fun _ => ?_) (fun c => absurd c (by decide))
  refine lv_iload_n hx hb dL_calls_13 rfl (lv_at hl 1 rfl) ?_
  refine lv_iconst (v := 1) hx hb dL_calls_14 (by decide) ?_
  refine lv_icmp_ne (tgt := 29) hx hb dL_calls_15 (by decide) (fun _ => ?_) (fun c => absurd c (by decide))
  refine lv_iload_n hx hb dL_calls_29 rfl (lv_at hl 1 rfl) ?_
  refine lv_iconst (v := 2) hx hb dL_calls_30 (by decide) ?_
  refine lv_icmp_ne (tgt := 45) hx hb dL_calls_31 (by decide) (fun _ => ?_) (fun c => absurd c (by decide))
  refine lv_iload_n hx hb dL_calls_45 rfl (lv_at hl 1 rfl) ?_
  refine lv_iconst (v := 3) hx hb dL_calls_46 (by decide) ?_
  refine lv_icmp_ne (tgt := 61) hx hb dL_calls_47 (by decide) (fun _ => ?_) (fun c => absurd c (by decide))
  refine lv_iload_n hx hb dL_calls_61 rfl (lv_at hl 1 rfl) ?_
  refine lv_iconst (v := 4) hx hb dL_calls_62 (by decide) ?_
  refine lv_icmp_ne (tgt := 75) hx hb dL_calls_63 (by decide) (fun _ => ?_) (fun c => absurd c (by decide))
  refine lv_iload_n hx hb dL_calls_75 rfl (lv_at hl 1 rfl) ?_
  refine lv_iconst (v := 5) hx hb dL_calls_76 (by decide) ?_
  refine lv_icmp_ne (tgt := 88) hx hb dL_calls_77 (by decide) (fun _ => ?_) (fun c => absurd c (by decide))
  refine lv_iload_n hx hb dL_calls_88 rfl (lv_at hl 1 rfl) ?_
  refine lv_bipush (v := 6) hx hb dL_calls_89 (by decide) ?_
  refine lv_icmp_ne (tgt := 103) hx hb dL_calls_91 (by decide) (fun _ => ?_) (fun c => absurd c (by decide))
  refine lv_iload_n hx hb dL_calls_103 rfl (lv_at hl 1 rfl) ?_
  refine lv_bipush (v := 7) hx hb dL_calls_104 (by decide) ?_
  refine lv_icmp_ne (tgt := 118) hx hb dL_calls_106 (by decide) (fun _ => ?_) (fun c => absurd c (by decide))
  refine lv_iload_n hx hb dL_calls_118 rfl (lv_at hl 1 rfl) ?_
  refine lv_bipush (v := 8) hx hb dL_calls_119 (by decide) ?_
  refine lv_icmp_ne (tgt := 132) hx hb dL_calls_121 (by decide) (fun _ => ?_) (fun c => absurd c (by decide))
  refine lv_iload_n hx hb dL_calls_132 rfl (lv_at hl 1 rfl) ?_
  refine lv_bipush (v := 9) hx hb dL_calls_133 (by decide) ?_
  refine lv_icmp_ne (tgt := 147) hx hb dL_calls_135 (by decide) (fun _ => ?_) (fun c => absurd c (by decide))
  refine lv_iload_n hx hb dL_calls_147 rfl (lv_at hl 1 rfl) ?_
  refine lv_bipush (v := 10) hx hb dL_calls_148 (by decide) ?_
  refine lv_icmp_ne (tgt := 165) hx hb dL_calls_150 (by decide) (fun _ => ?_) (fun c => absurd c (by decide))
  refine lv_aload_n hx hb dL_calls_165 rfl (lv_at hl 0 rfl) ?_
  refine lv_iload_n hx hb dL_calls_166 rfl (lv_at hl 2 rfl) ?_
  refine lv_iload_n hx hb dL_calls_167 rfl (lv_at hl 3 rfl) ?_
  refine vx_calli (vx_runV (As := [.int a, .int b]) (rest := []) hC.1 (qX7_award l hfl A D cy g hL S e0 hV a b) (cwV 2 hts gL_calls_X7_award rfl rfl rfl (by decide +kernel) ⟨Nat.le_of_ble_eq_true rfl, Nat.le_of_ble_eq_true rfl⟩) ⟨CTh_blind, cr_recv (ci := 8) hC.2 hI 18 0 rfl rfl rfl, fun U hU hW => ⟨rfl, ⟨by rw [hU]; exact hM, va_K.moved hW.alike hK⟩, by rw [hU]; exact JT.warm hW hJ⟩⟩ rfl rfl hl.1 rfl (lv_room (Nat.le_of_ble_eq_true rfl)) dL_calls_168 ⟨Nat.le_of_ble_eq_true rfl, Nat.le_of_ble_eq_true rfl⟩) hS (fun q _ h => h) (fun q h => h) (fun q _ h => h) (fun E ce q9 u t H1 locs1 ht hvm hp hE hz1 hk1 hS1 hce hcv hcl => ?_) (fun r u t H1 locs1 ht hvm hp hB hz1 hk1 hS1 => ?_)
  · obtain ⟨hE, hM1⟩ := hE
    rw [ht] at hM1
    have h3 : (fX7_award S a b).2.1 = 3 := hc.resolve_left hp
    have hS2 := (c7_award S a b).2 hp
    have hE : E = "java/lang/IllegalStateException" := hE.trans (by rw [h3]; rfl)
    subst hE
    refine vx_catch hown [] ⟨0, 171, 172, 59⟩ [] (by rw [hct]; rfl) (fun _ hz => absurd hz List.not_mem_nil) rfl (by decide) k_59 (va_Nw.use (jwl_tab _ (List.mem_of_getElem? (i := 2) rfl)) (hJ.2.2.2 _ (List.mem_of_getElem? (i := 2) rfl))) hce hcv hcl ?_
    refine lv_astore (lv' := [(5, .ref q9), (0, .ref (ga g 18 0)), (1, .int 11), (2, .int a), (3, .int b), (4, .int c2)]) hx hb dL_calls_172 hl (by decide) rfl (fun ls hl => ?_)
    refine lv_sipush (v := (-1003)) hx hb dL_calls_174 (by decide) ?_
    refine vx_ret ?_
    refine W.widen (k := 6) (n := 326) (Nat.le_of_ble_eq_true rfl) (Nat.le_of_ble_eq_true rfl) ?_
    exact W.iret (v := -1003) hx hb hr (fun t9 ht9 hW9 => ⟨⟨-1003, g, rfl, ⟨(if_neg hp).symm, hL, hV.1, by show CT g (fX7_award S a b).2.2; rw [hS2]; exact hV.2.1, rfl⟩, by show CH D cy g (fX7_award S a b).2.2 _; rw [ht9, hS2]; exact hM1⟩, hS1.F ht9⟩) hS1.2.2 dL_calls_177
  · rw [ht] at hB
    obtain ⟨hp0, hr1⟩ := hp
    have hI1 : CI A D cy g s (fX7_award S a b).2.2 H1 locs1 := ⟨hB, hS1⟩
    refine vx_ret ?_
    refine W.widen (k := 6) (n := 326) (Nat.le_of_ble_eq_true rfl) (Nat.le_of_ble_eq_true rfl) ?_
    exact W.iret (v := r) hx hb hr (fun t9 ht9 hW9 => ⟨⟨r, g, rfl, ⟨hr1.trans (if_pos hp0).symm, ⟨hL, hV.1, (k7_award S a b).ct hV.2.1, rfl⟩⟩, by show CH D cy g _ t9.heap; rw [ht9]; exact hI1.1⟩, hI1.2.F ht9⟩) hI1.2.2.2 dL_calls_171
