/-! the law's readers, walked -/
set_option maxHeartbeats 4000000 in
set_option maxRecDepth 100000 in
theorem qL_low (l : Launch) (v : Int32) (n : Int32) (hn : ¬ n = 0) : SPure l yL_low wsL_low ({ frames := 0, cells := 0, slots := 0, locals := 0 } : Room) [.int v, .int n] (fL_low v n) := by
  refine Met.ofW (cc := cL_low) (maxL := 2) (ret := (some .int)) (by decide) rfl ?_
  intro p e s m args below meth c s₁ B hml hv
  obtain ⟨rfl, -⟩ := hv
  have hx := B.exec
  have hb := B.bytes
  have hr := B.returns
  have hts := atoms_spec (ws := wsL_low) B.pre
  have hown : s.vm.findClass RL = some m.cls := findClass_of_methodNamed B.named
  have hlocks := B.notSynchronized
  have hI : va_S (fun _ => False) s.heap s.heap [] := va_S.rf
  have k_9 := hts (.constant RL 9 (2147483647)) (List.mem_cons_of_mem _ (List.mem_of_getElem? (i := 0) rfl))
  have hl := lv_entry ([.int v, .int n]) (n := 2) (Nat.le_of_ble_eq_true rfl)
  rw [lg_entry_eq]
  generalize (lg_sl ([.int v, .int n]) ++ List.replicate (2 - (lg_sl ([.int v, .int n])).length) Slot.unset).toArray = ls at hl ⊢
  have hl : lv_has ls 2 [(0, .int v), (1, .int n)] := hl
  have hG : fL_low v n = fL_low v n := rfl
  refine lv_iload_n hx hb dL_low_0 rfl (lv_at hl 0 rfl) ?_
  refine lv_ldc hx hb hown k_9 dL_low_1 ?_
  refine lv_iand hx hb dL_low_3 ?_
  refine lv_iload_n hx hb dL_low_4 rfl (lv_at hl 1 rfl) ?_
  refine lv_irem hx hb dL_low_5 hn ?_
  exact W.iret (v := ((v &&& 2147483647) - (v &&& 2147483647) / n * n)) hx hb hr (fun t9 ht9 hW9 => ⟨⟨((v &&& 2147483647) - (v &&& 2147483647) / n * n), (), rfl, hG.symm, trivial⟩, hI.F ht9⟩) hI.2.2 dL_low_6
set_option maxHeartbeats 4000000 in
set_option maxRecDepth 100000 in
theorem qL_yes (l : Launch) (is_ : Int32) : SPure l yL_yes wsL_yes ({ frames := 0, cells := 0, slots := 0, locals := 0 } : Room) [.int is_] (fL_yes is_) := by
  refine Met.ofW (cc := cL_yes) (maxL := 1) (ret := (some .int)) (by decide) rfl ?_
  intro p e s m args below meth c s₁ B hml hv
  obtain ⟨rfl, -⟩ := hv
  have hx := B.exec
  have hb := B.bytes
  have hr := B.returns
  have hts := atoms_spec (ws := wsL_yes) B.pre
  have hown : s.vm.findClass RL = some m.cls := findClass_of_methodNamed B.named
  have hlocks := B.notSynchronized
  have hI : va_S (fun _ => False) s.heap s.heap [] := va_S.rf
  have hl := lv_entry ([.int is_]) (n := 1) (Nat.le_of_ble_eq_true rfl)
  rw [lg_entry_eq]
  generalize (lg_sl ([.int is_]) ++ List.replicate (1 - (lg_sl ([.int is_])).length) Slot.unset).toArray = ls at hl ⊢
  have hl : lv_has ls 1 [(0, .int is_)] := hl
  have hG : fL_yes is_ = fL_yes is_ := rfl
  refine lv_iload_n hx hb dL_yes_0 rfl (lv_at hl 0 rfl) ?_
  refine lv_if_eq (tgt := 8) hx hb dL_yes_1 (by decide) (fun c_1 => ?_) (fun c_1 => ?_)
  · have hG := hG.trans (if_pos c_1)
    refine lv_iconst (v := 0) hx hb dL_yes_8 (by decide) ?_
    exact W.iret (v := 0) hx hb hr (fun t9 ht9 hW9 => ⟨⟨0, (), rfl, hG.symm, trivial⟩, hI.F ht9⟩) hI.2.2 dL_yes_9
  · have hG := hG.trans (if_neg c_1)
    refine lv_iconst (v := 1) hx hb dL_yes_4 (by decide) ?_
    refine lv_goto (tgt := 9) hx hb dL_yes_5 (by decide) ?_
    exact W.iret (v := 1) hx hb hr (fun t9 ht9 hW9 => ⟨⟨1, (), rfl, hG.symm, trivial⟩, hI.F ht9⟩) hI.2.2 dL_yes_9
set_option maxHeartbeats 4000000 in
set_option maxRecDepth 100000 in
theorem qL_had (l : Launch) (D : va_G) (cy : Nat → ClassId) (la : Nat → Nat) (L : St) (hV : LV L) (k : Nat) (hk : k < 8) {x_k : Int32} (ek : x_k = nI k) (day : Int32) : LPure l D cy la L yL_had wsL_had ({ frames := 0, cells := 0, slots := 0, locals := 0 } : Room) 0 0 [.int x_k, .int day, .ref (la 7)] (fL_had L k day) := by
  subst ek
  refine Met.ofW (cc := cL_had) (maxL := 5) (ret := (some .int)) (by decide) rfl ?_
  intro p e s m args below meth c s₁ B hml hv
  obtain ⟨rfl, hM, hK⟩ := hv
  have hx := B.exec
  have hb := B.bytes
  have hr := B.returns
  have hts := atoms_spec (ws := wsL_had) B.pre
  have hown : s.vm.findClass RL = some m.cls := findClass_of_methodNamed B.named
  have hlocks := B.notSynchronized
  have hC : CC p s m _ c cL_had 5 RL D cy wsL_had := ⟨⟨hx, hb, hml, hown, hts⟩, hK⟩
  have hI : LI (fun _ => False) 12 D cy la s L s.heap [] := ⟨hM, va_S.rf⟩
  have hb1 := hV.b1
  have hb2 := hV.b2
  have hb3 := hV.b3
  have hb4 := hV.b4
  have hl := lv_entry ([.int (nI k), .int day, .ref (la 7)]) (n := 5) (Nat.le_of_ble_eq_true rfl)
  rw [lg_entry_eq]
  generalize (lg_sl ([.int (nI k), .int day, .ref (la 7)]) ++ List.replicate (5 - (lg_sl ([.int (nI k), .int day, .ref (la 7)])).length) Slot.unset).toArray = ls at hl ⊢
  have hl : lv_has ls 5 [(0, .int (nI k)), (1, .int day), (2, .ref (la 7))] := hl
  have hG : fL_had L k day = fL_had L k day := rfl
  refine lv_iconst (v := 0) hx hb dL_had_0 (by decide) ?_
  refine lv_istore_n (lv' := [(3, .int 0), (0, .int (nI k)), (1, .int day), (2, .ref (la 7))]) hx hb dL_had_1 rfl hl (by decide) rfl (fun ls hl => ?_)
  refine lv_iconst (v := 0) hx hb dL_had_2 (by decide) ?_
  refine lv_istore (lv' := [(4, .int 0), (3, .int 0), (0, .int (nI k)), (1, .int day), (2, .ref (la 7))]) hx hb dL_had_3 hl (by decide) rfl (fun ls hl => ?_)
  refine w_loop (σ := Int32) 8 5 (fun i5 z H locs ls => z = lL_had_5 L k day i5 ∧ LI (fun _ => False) 12 D cy la s L H locs ∧ lv_has ls 5 [(4, .int (nI i5)), (3, .int z), (0, .int (nI k)), (1, .int day), (2, .ref (la 7))]) ?_ 0 ⟨rfl, hI, lv_sub hl [0, 1, 2, 3, 4] rfl⟩
  intro i5 z H locs ls ⟨hz5, hI, hl⟩ hi5 ih5
  obtain ⟨x5_3, rfl⟩ : ∃ x, x = z := ⟨_, rfl⟩
  refine lv_iload hx hb dL_had_5 (lv_at hl 0 rfl) ?_
  refine lv_bipush (v := 8) hx hb dL_had_7 (by decide) ?_
  refine lv_icmp_ge (tgt := 60) hx hb dL_had_9 (by decide) (fun c_1 => ?_) (fun c_1 => ?_)
  · obtain rfl : i5 = 8 := w_exit (by decide : (8 : Int32) = nI 8) hi5 (by decide) c_1
    obtain rfl : x5_3 = (lL_had_5 L k day 8) := by rw [← hz5]
    refine lv_iload_n hx hb dL_had_60 rfl (lv_at hl 1 rfl) ?_
    exact W.iret (v := (lL_had_5 L k day 8)) hx hb hr (fun t9 ht9 hW9 => ⟨⟨(lL_had_5 L k day 8), (), rfl, hG.symm, trivial⟩, hI.2.F ht9⟩) hI.2.2.2 dL_had_61
  · have hlt5 : i5 < 8 := w_in (by decide : (8 : Int32) = nI 8) hi5 (by decide) c_1
    have hB5 : iL_had_5 L k day i5 x5_3 = iL_had_5 L k day i5 x5_3 := rfl
    refine lv_iload_n hx hb dL_had_12 rfl (lv_at hl 1 rfl) ?_
    refine lv_aload_n hx hb dL_had_13 rfl (lv_at hl 4 rfl) ?_
    refine lv_bipush (v := 8) hx hb dL_had_14 (by decide) ?_
    refine lv_iload_n hx hb dL_had_16 rfl (lv_at hl 2 rfl) ?_
    refine lv_imul hx hb dL_had_17 ?_
    refine lv_iload hx hb dL_had_18 (lv_at hl 0 rfl) ?_
    refine lv_iadd hx hb dL_had_20 ?_
    refine lr_ld hC hI 7 (by decide) (show vp_in ((8 * (nI k)) + (nI i5)) 64 from nx_in (nx_add (nx_mul (by decide : (8 : Int32) = nI 8) rfl) rfl) (by omega) (by decide)) (v := (L 7 (8 * k + i5))) (congrArg (L 7) (nx_ix (x := ((8 * (nI k)) + (nI i5))) (nx_add (nx_mul (by decide : (8 : Int32) = nI 8) rfl) rfl) (by omega))) dL_had_21 ?_
    refine lv_if_le (tgt := 51) hx hb dL_had_22 (by decide) (fun c_2 => ?_) (fun c_2 => ?_)
    · have hB5 := hB5.trans (if_pos c_2)
      refine lv_iconst (v := 0) hx hb dL_had_51 (by decide) ?_
      refine lv_ior hx hb dL_had_52 ?_
      refine lv_istore_n (lv' := [(3, .int (x5_3 ||| 0)), (4, .int (nI i5)), (0, .int (nI k)), (1, .int day), (2, .ref (la 7))]) hx hb dL_had_53 rfl hl (by decide) rfl (fun ls hl => ?_)
      refine lv_iinc (v := (nI (i5 + 1))) (lv' := [(4, .int (nI (i5 + 1))), (3, .int (x5_3 ||| 0)), (0, .int (nI k)), (1, .int day), (2, .ref (la 7))]) hx hb dL_had_54 hl (k := 1) rfl (nI_1 i5) (by decide) rfl (fun ls hl => ?_)
      refine lv_goto (tgt := 5) hx hb dL_had_57 (by decide) ?_
      exact ih5 (x5_3 ||| 0) _ _ ls hlt5 ⟨(by show _ = iL_had_5 L k day i5 (lL_had_5 L k day i5); rw [← hz5]; exact hB5.symm), hI, lv_sub hl [0, 1, 2, 3, 4] rfl⟩
    · have hB5 := hB5.trans (if_neg c_2)
      refine lv_aload_n hx hb dL_had_25 rfl (lv_at hl 4 rfl) ?_
      refine lv_bipush (v := 8) hx hb dL_had_26 (by decide) ?_
      refine lv_iload_n hx hb dL_had_28 rfl (lv_at hl 2 rfl) ?_
      refine lv_imul hx hb dL_had_29 ?_
      refine lv_iload hx hb dL_had_30 (lv_at hl 0 rfl) ?_
      refine lv_iadd hx hb dL_had_32 ?_
      refine lr_ld hC hI 7 (by decide) (show vp_in ((8 * (nI k)) + (nI i5)) 64 from nx_in (nx_add (nx_mul (by decide : (8 : Int32) = nI 8) rfl) rfl) (by omega) (by decide)) (v := (L 7 (8 * k + i5))) (congrArg (L 7) (nx_ix (x := ((8 * (nI k)) + (nI i5))) (nx_add (nx_mul (by decide : (8 : Int32) = nI 8) rfl) rfl) (by omega))) dL_had_33 ?_
      refine lv_sipush (v := 4096) hx hb dL_had_34 (by decide) ?_
      refine lv_irem hx hb dL_had_37 (by decide) ?_
      refine lv_iconst (v := 1) hx hb dL_had_38 (by decide) ?_
      refine lv_isub hx hb dL_had_39 ?_
      refine lv_iload_n hx hb dL_had_40 rfl (lv_at hl 3 rfl) ?_
      refine lv_icmp_gt (tgt := 51) hx hb dL_had_41 (by decide) (fun c_3 => ?_) (fun c_3 => ?_)
      · have hB5 := hB5.trans (if_pos c_3)
        refine lv_iconst (v := 0) hx hb dL_had_51 (by decide) ?_
        refine lv_ior hx hb dL_had_52 ?_
        refine lv_istore_n (lv' := [(3, .int (x5_3 ||| 0)), (4, .int (nI i5)), (0, .int (nI k)), (1, .int day), (2, .ref (la 7))]) hx hb dL_had_53 rfl hl (by decide) rfl (fun ls hl => ?_)
        refine lv_iinc (v := (nI (i5 + 1))) (lv' := [(4, .int (nI (i5 + 1))), (3, .int (x5_3 ||| 0)), (0, .int (nI k)), (1, .int day), (2, .ref (la 7))]) hx hb dL_had_54 hl (k := 1) rfl (nI_1 i5) (by decide) rfl (fun ls hl => ?_)
        refine lv_goto (tgt := 5) hx hb dL_had_57 (by decide) ?_
        exact ih5 (x5_3 ||| 0) _ _ ls hlt5 ⟨(by show _ = iL_had_5 L k day i5 (lL_had_5 L k day i5); rw [← hz5]; exact hB5.symm), hI, lv_sub hl [0, 1, 2, 3, 4] rfl⟩
      · have hB5 := hB5.trans (if_neg c_3)
        refine lv_iconst (v := 1) hx hb dL_had_44 (by decide) ?_
        refine lv_iload hx hb dL_had_45 (lv_at hl 0 rfl) ?_
        refine lv_ishl hx hb dL_had_47 ?_
        refine lv_goto (tgt := 52) hx hb dL_had_48 (by decide) ?_
        refine lv_ior hx hb dL_had_52 ?_
        refine lv_istore_n (lv' := [(3, .int (x5_3 ||| (1 <<< ((nI i5) &&& 31)))), (4, .int (nI i5)), (0, .int (nI k)), (1, .int day), (2, .ref (la 7))]) hx hb dL_had_53 rfl hl (by decide) rfl (fun ls hl => ?_)
        refine lv_iinc (v := (nI (i5 + 1))) (lv' := [(4, .int (nI (i5 + 1))), (3, .int (x5_3 ||| (1 <<< ((nI i5) &&& 31)))), (0, .int (nI k)), (1, .int day), (2, .ref (la 7))]) hx hb dL_had_54 hl (k := 1) rfl (nI_1 i5) (by decide) rfl (fun ls hl => ?_)
        refine lv_goto (tgt := 5) hx hb dL_had_57 (by decide) ?_
        exact ih5 (x5_3 ||| (1 <<< ((nI i5) &&& 31))) _ _ ls hlt5 ⟨(by show _ = iL_had_5 L k day i5 (lL_had_5 L k day i5); rw [← hz5]; exact hB5.symm), hI, lv_sub hl [0, 1, 2, 3, 4] rfl⟩
set_option maxHeartbeats 4000000 in
set_option maxRecDepth 100000 in
theorem qL_day (l : Launch) (D : va_G) (cy : Nat → ClassId) (la : Nat → Nat) (L : St) (hV : LV L) (k : Nat) (hk : k < 8) {x_k : Int32} (ek : x_k = nI k) (s_ : Nat) (hs_ : s_ < 8) {x_s_ : Int32} (es_ : x_s_ = nI s_) : LPure l D cy la L yL_day wsL_day ({ frames := 1, cells := 0, slots := 0, locals := 24 } : Room) 0 0 [.int x_k, .int x_s_, .ref (la 0), .ref (la 6), .ref (la 7)] (fL_day L k s_) := by
  subst ek
  subst es_
  refine Met.ofW (cc := cL_day) (maxL := 9) (ret := (some .int)) (by decide) rfl ?_
  intro p e s m args below meth c s₁ B hml hv
  obtain ⟨rfl, hM, hK⟩ := hv
  have hx := B.exec
  have hb := B.bytes
  have hr := B.returns
  have hts := atoms_spec (ws := wsL_day) B.pre
  have hown : s.vm.findClass RL = some m.cls := findClass_of_methodNamed B.named
  have hlocks := B.notSynchronized
  have hC : CC p s m _ c cL_day 9 RL D cy wsL_day := ⟨⟨hx, hb, hml, hown, hts⟩, hK⟩
  have hI : LI (fun _ => False) 12 D cy la s L s.heap [] := ⟨hM, va_S.rf⟩
  have hb1 := hV.b1
  have hb2 := hV.b2
  have hb3 := hV.b3
  have hb4 := hV.b4
  have hl := lv_entry ([.int (nI k), .int (nI s_), .ref (la 0), .ref (la 6), .ref (la 7)]) (n := 9) (Nat.le_of_ble_eq_true rfl)
  rw [lg_entry_eq]
  generalize (lg_sl ([.int (nI k), .int (nI s_), .ref (la 0), .ref (la 6), .ref (la 7)]) ++ List.replicate (9 - (lg_sl ([.int (nI k), .int (nI s_), .ref (la 0), .ref (la 6), .ref (la 7)])).length) Slot.unset).toArray = ls at hl ⊢
  have hl : lv_has ls 9 [(0, .int (nI k)), (1, .int (nI s_)), (2, .ref (la 0)), (3, .ref (la 6)), (4, .ref (la 7))] := hl
  have hG : fL_day L k s_ = fL_day L k s_ := rfl
  refine lv_aload_n hx hb dL_day_0 rfl (lv_at hl 2 rfl) ?_
  refine lv_bipush (v := 8) hx hb dL_day_1 (by decide) ?_
  refine lv_iload_n hx hb dL_day_3 rfl (lv_at hl 1 rfl) ?_
  refine lv_imul hx hb dL_day_4 ?_
  refine lv_iconst (v := 1) hx hb dL_day_5 (by decide) ?_
  refine lv_iadd hx hb dL_day_6 ?_
  refine lr_ld hC hI 0 (by decide) (show vp_in ((8 * (nI s_)) + 1) 64 from nx_in (nx_add (nx_mul (by decide : (8 : Int32) = nI 8) rfl) (by decide : (1 : Int32) = nI 1)) (by omega) (by decide)) (v := (L 0 (8 * s_ + 1))) (congrArg (L 0) (nx_ix (x := ((8 * (nI s_)) + 1)) (nx_add (nx_mul (by decide : (8 : Int32) = nI 8) rfl) (by decide : (1 : Int32) = nI 1)) (by omega))) dL_day_7 ?_
  refine lv_istore (lv' := [(5, .int (L 0 (8 * s_ + 1))), (0, .int (nI k)), (1, .int (nI s_)), (2, .ref (la 0)), (3, .ref (la 6)), (4, .ref (la 7))]) hx hb dL_day_8 hl (by decide) rfl (fun ls hl => ?_)
  refine lv_aload_n hx hb dL_day_10 rfl (lv_at hl 3 rfl) ?_
  refine lv_bipush (v := 8) hx hb dL_day_11 (by decide) ?_
  refine lv_iload_n hx hb dL_day_13 rfl (lv_at hl 2 rfl) ?_
  refine lv_imul hx hb dL_day_14 ?_
  refine lr_ld hC hI 0 (by decide) (show vp_in (8 * (nI s_)) 64 from nx_in (nx_mul (by decide : (8 : Int32) = nI 8) rfl) (by omega) (by decide)) (v := (L 0 (8 * s_))) (congrArg (L 0) (nx_ix (x := (8 * (nI s_))) (nx_mul (by decide : (8 : Int32) = nI 8) rfl) (by omega))) dL_day_15 ?_
  refine lv_aload_n hx hb dL_day_16 rfl (lv_at hl 4 rfl) ?_
  refine lv_bipush (v := 8) hx hb dL_day_17 (by decide) ?_
  refine lv_iload_n hx hb dL_day_19 rfl (lv_at hl 1 rfl) ?_
  refine lv_imul hx hb dL_day_20 ?_
  refine lv_iconst (v := 1) hx hb dL_day_21 (by decide) ?_
  refine lv_iadd hx hb dL_day_22 ?_
  refine lr_ld hC hI 6 (by decide) (show vp_in ((8 * (nI k)) + 1) 64 from nx_in (nx_add (nx_mul (by decide : (8 : Int32) = nI 8) rfl) (by decide : (1 : Int32) = nI 1)) (by omega) (by decide)) (v := (L 6 (8 * k + 1))) (congrArg (L 6) (nx_ix (x := ((8 * (nI k)) + 1)) (nx_add (nx_mul (by decide : (8 : Int32) = nI 8) rfl) (by decide : (1 : Int32) = nI 1)) (by omega))) dL_day_23 ?_
  refine lv_icmp_ne (tgt := 52) hx hb dL_day_24 (by decide) (fun c_1 => ?_) (fun c_1 => ?_)
  · have hG := hG.trans (if_neg c_1)
    refine lv_iconst (v := (-1)) hx hb dL_day_52 (by decide) ?_
    exact W.iret (v := (-1)) hx hb hr (fun t9 ht9 hW9 => ⟨⟨(-1), (), rfl, hG.symm, trivial⟩, hI.2.F ht9⟩) hI.2.2.2 dL_day_53
  · have hG := hG.trans (if_pos c_1)
    refine lv_iconst (v := 2) hx hb dL_day_27 (by decide) ?_
    refine lv_iload_n hx hb dL_day_28 rfl (lv_at hl 1 rfl) ?_
    refine lv_sipush (v := 3000) hx hb dL_day_29 (by decide) ?_
    refine lv_aload hx hb dL_day_32 (lv_at hl 5 rfl) ?_
    refine lr_call (As := [.int (nI k), .int 3000, .ref (la 7)]) (rest := [.int 2]) hC hI (by decide) (fun _ _ => rfl) (qL_had l D cy la L hV k (by omega) rfl 3000) (va_cwS 3 hts gL_day_L_had rfl rfl rfl (by decide +kernel) ⟨Nat.le_of_ble_eq_true rfl, Nat.le_of_ble_eq_true rfl⟩) rfl hl.1 rfl (Nat.le_of_ble_eq_true rfl) dL_day_34 ⟨Nat.le_of_ble_eq_true rfl, Nat.le_of_ble_eq_true rfl⟩ (fun H locs hk9 hz9 hI => ?_)
    refine lv_iload hx hb dL_day_37 (lv_at hl 0 rfl) ?_
    refine lv_iand hx hb dL_day_39 ?_
    refine lr_callS (As := [.int ((fL_had L k 3000) &&& (L 0 (8 * s_ + 1)))]) (rest := [.int 2]) hC hI (qL_ones l ((fL_had L k 3000) &&& (L 0 (8 * s_ + 1)))) (va_cwS 1 hts gL_day_L_ones rfl rfl rfl (by decide +kernel) ⟨Nat.le_of_ble_eq_true rfl, Nat.le_of_ble_eq_true rfl⟩) rfl hl.1 rfl (Nat.le_of_ble_eq_true rfl) dL_day_40 ⟨Nat.le_of_ble_eq_true rfl, Nat.le_of_ble_eq_true rfl⟩ (fun H locs hk9 hz9 hI => ?_)
    refine lv_imul hx hb dL_day_43 ?_
    refine lv_iload hx hb dL_day_44 (lv_at hl 0 rfl) ?_
    refine lr_callS (As := [.int (L 0 (8 * s_ + 1))]) (rest := [.int (2 * (fL_ones ((fL_had L k 3000) &&& (L 0 (8 * s_ + 1)))))]) hC hI (qL_ones l (L 0 (8 * s_ + 1))) (va_cwS 1 hts gL_day_L_ones rfl rfl rfl (by decide +kernel) ⟨Nat.le_of_ble_eq_true rfl, Nat.le_of_ble_eq_true rfl⟩) rfl hl.1 rfl (Nat.le_of_ble_eq_true rfl) dL_day_46 ⟨Nat.le_of_ble_eq_true rfl, Nat.le_of_ble_eq_true rfl⟩ (fun H locs hk9 hz9 hI => ?_)
    refine lv_icmp_ge (tgt := 54) hx hb dL_day_49 (by decide) (fun c_2 => ?_) (fun c_2 => ?_)
    · have hG := hG.trans (if_pos c_2)
      refine lv_sipush (v := 3001) hx hb dL_day_54 (by decide) ?_
      refine lv_istore (lv' := [(6, .int 3001), (5, .int (L 0 (8 * s_ + 1))), (0, .int (nI k)), (1, .int (nI s_)), (2, .ref (la 0)), (3, .ref (la 6)), (4, .ref (la 7))]) hx hb dL_day_57 hl (by decide) rfl (fun ls hl => ?_)
      refine lv_iconst (v := 0) hx hb dL_day_59 (by decide) ?_
      refine lv_istore (lv' := [(7, .int 0), (6, .int 3001), (5, .int (L 0 (8 * s_ + 1))), (0, .int (nI k)), (1, .int (nI s_)), (2, .ref (la 0)), (3, .ref (la 6)), (4, .ref (la 7))]) hx hb dL_day_60 hl (by decide) rfl (fun ls hl => ?_)
      refine w_loop (σ := Int32) 8 62 (fun i62 z H locs ls => fL_day L k s_ = rL_day_62 L k s_ (8 - i62) i62 z ∧ LI (fun _ => False) 12 D cy la s L H locs ∧ lv_has ls 9 [(7, .int (nI i62)), (6, .int z), (5, .int (L 0 (8 * s_ + 1))), (0, .int (nI k)), (1, .int (nI s_)), (2, .ref (la 0)), (3, .ref (la 6)), (4, .ref (la 7))]) ?_ 3001 ⟨hG, hI, lv_sub hl [0, 1, 2, 3, 4, 5, 6, 7] rfl⟩
      intro i62 z H locs ls ⟨hG, hI, hl⟩ hi62 ih62
      obtain ⟨x62_6, rfl⟩ : ∃ x, x = z := ⟨_, rfl⟩
      refine lv_iload hx hb dL_day_62 (lv_at hl 0 rfl) ?_
      refine lv_bipush (v := 8) hx hb dL_day_64 (by decide) ?_
      refine lv_icmp_ge (tgt := 174) hx hb dL_day_66 (by decide) (fun c_3 => ?_) (fun c_3 => ?_)
      · have hxN : i62 = 8 := w_exit (by decide : (8 : Int32) = nI 8) hi62 (by decide) c_3
        rw [show 8 - i62 = 0 by omega] at hG
        have hG := hG.trans (rL_day_62_0 L k s_ i62 x62_6)
        refine lv_iload hx hb dL_day_174 (lv_at hl 1 rfl) ?_
        exact W.iret (v := x62_6) hx hb hr (fun t9 ht9 hW9 => ⟨⟨x62_6, (), rfl, hG.symm, trivial⟩, hI.2.F ht9⟩) hI.2.2.2 dL_day_176
      · have hlt62 : i62 < 8 := w_in (by decide : (8 : Int32) = nI 8) hi62 (by decide) c_3
        rw [show 8 - i62 = (8 - (i62 + 1)) + 1 by omega] at hG
        have hG := hG.trans (rL_day_62_s L k s_ i62 x62_6 (8 - (i62 + 1)))
        refine lv_iload hx hb dL_day_69 (lv_at hl 2 rfl) ?_
        refine lv_iload hx hb dL_day_71 (lv_at hl 0 rfl) ?_
        refine lv_ishr hx hb dL_day_73 ?_
        refine lv_iconst (v := 1) hx hb dL_day_74 (by decide) ?_
        refine lv_iand hx hb dL_day_75 ?_
        refine lv_iconst (v := 1) hx hb dL_day_76 (by decide) ?_
        refine lv_icmp_ne (tgt := 105) hx hb dL_day_77 (by decide) (fun c_4 => ?_) (fun c_4 => ?_)
        · have hG := hG.trans (if_neg c_4)
          refine lv_aload hx hb dL_day_105 (lv_at hl 7 rfl) ?_
          refine lv_bipush (v := 8) hx hb dL_day_107 (by decide) ?_
          refine lv_iload_n hx hb dL_day_109 rfl (lv_at hl 3 rfl) ?_
          refine lv_imul hx hb dL_day_110 ?_
          refine lv_iload hx hb dL_day_111 (lv_at hl 0 rfl) ?_
          refine lv_iadd hx hb dL_day_113 ?_
          refine lr_ld hC hI 7 (by decide) (show vp_in ((8 * (nI k)) + (nI i62)) 64 from nx_in (nx_add (nx_mul (by decide : (8 : Int32) = nI 8) rfl) rfl) (by omega) (by decide)) (v := (L 7 (8 * k + i62))) (congrArg (L 7) (nx_ix (x := ((8 * (nI k)) + (nI i62))) (nx_add (nx_mul (by decide : (8 : Int32) = nI 8) rfl) rfl) (by omega))) dL_day_114 ?_
          refine lv_sipush (v := 4096) hx hb dL_day_115 (by decide) ?_
          refine lv_irem hx hb dL_day_118 (by decide) ?_
          refine lv_iconst (v := 1) hx hb dL_day_119 (by decide) ?_
          refine lv_isub hx hb dL_day_120 ?_
          refine lv_istore (lv' := [(8, .int (((L 7 (8 * k + i62)) - (L 7 (8 * k + i62)) / 4096 * 4096) - 1)), (7, .int (nI i62)), (6, .int x62_6), (5, .int (L 0 (8 * s_ + 1))), (0, .int (nI k)), (1, .int (nI s_)), (2, .ref (la 0)), (3, .ref (la 6)), (4, .ref (la 7))]) hx hb dL_day_121 hl (by decide) rfl (fun ls hl => ?_)
          refine lv_iload hx hb dL_day_123 (lv_at hl 0 rfl) ?_
          refine lv_if_lt (tgt := 164) hx hb dL_day_125 (by decide) (fun c_5 => ?_) (fun c_5 => ?_)
          · have hG := hG.trans (if_pos c_5)
            refine lv_iload hx hb dL_day_164 (lv_at hl 2 rfl) ?_
            refine lv_istore (lv' := [(6, .int x62_6), (8, .int (((L 7 (8 * k + i62)) - (L 7 (8 * k + i62)) / 4096 * 4096) - 1)), (7, .int (nI i62)), (5, .int (L 0 (8 * s_ + 1))), (0, .int (nI k)), (1, .int (nI s_)), (2, .ref (la 0)), (3, .ref (la 6)), (4, .ref (la 7))]) hx hb dL_day_166 hl (by decide) rfl (fun ls hl => ?_)
            refine lv_iinc (v := (nI (i62 + 1))) (lv' := [(7, .int (nI (i62 + 1))), (6, .int x62_6), (8, .int (((L 7 (8 * k + i62)) - (L 7 (8 * k + i62)) / 4096 * 4096) - 1)), (5, .int (L 0 (8 * s_ + 1))), (0, .int (nI k)), (1, .int (nI s_)), (2, .ref (la 0)), (3, .ref (la 6)), (4, .ref (la 7))]) hx hb dL_day_168 hl (k := 2) rfl (nI_1 i62) (by decide) rfl (fun ls hl => ?_)
            refine lv_goto (tgt := 62) hx hb dL_day_171 (by decide) ?_
            exact ih62 x62_6 _ _ ls hlt62 ⟨hG, hI, lv_sub hl [0, 1, 3, 4, 5, 6, 7, 8] rfl⟩
          · have hG := hG.trans (if_neg c_5)
            refine lv_iload hx hb dL_day_128 (lv_at hl 0 rfl) ?_
            refine lv_iload hx hb dL_day_130 (lv_at hl 2 rfl) ?_
            refine lv_icmp_ge (tgt := 164) hx hb dL_day_132 (by decide) (fun c_6 => ?_) (fun c_6 => ?_)
            · have hG := hG.trans (if_pos c_6)
              refine lv_iload hx hb dL_day_164 (lv_at hl 2 rfl) ?_
              refine lv_istore (lv' := [(6, .int x62_6), (8, .int (((L 7 (8 * k + i62)) - (L 7 (8 * k + i62)) / 4096 * 4096) - 1)), (7, .int (nI i62)), (5, .int (L 0 (8 * s_ + 1))), (0, .int (nI k)), (1, .int (nI s_)), (2, .ref (la 0)), (3, .ref (la 6)), (4, .ref (la 7))]) hx hb dL_day_166 hl (by decide) rfl (fun ls hl => ?_)
              refine lv_iinc (v := (nI (i62 + 1))) (lv' := [(7, .int (nI (i62 + 1))), (6, .int x62_6), (8, .int (((L 7 (8 * k + i62)) - (L 7 (8 * k + i62)) / 4096 * 4096) - 1)), (5, .int (L 0 (8 * s_ + 1))), (0, .int (nI k)), (1, .int (nI s_)), (2, .ref (la 0)), (3, .ref (la 6)), (4, .ref (la 7))]) hx hb dL_day_168 hl (k := 2) rfl (nI_1 i62) (by decide) rfl (fun ls hl => ?_)
              refine lv_goto (tgt := 62) hx hb dL_day_171 (by decide) ?_
              exact ih62 x62_6 _ _ ls hlt62 ⟨hG, hI, lv_sub hl [0, 1, 3, 4, 5, 6, 7, 8] rfl⟩
            · have hG := hG.trans (if_neg c_6)
              refine lv_iconst (v := 2) hx hb dL_day_135 (by decide) ?_
              refine lv_iload_n hx hb dL_day_136 rfl (lv_at hl 4 rfl) ?_
              refine lv_iload hx hb dL_day_137 (lv_at hl 0 rfl) ?_
              refine lv_aload hx hb dL_day_139 (lv_at hl 8 rfl) ?_
              refine lr_call (As := [.int (nI k), .int (((L 7 (8 * k + i62)) - (L 7 (8 * k + i62)) / 4096 * 4096) - 1), .ref (la 7)]) (rest := [.int 2]) hC hI (by decide) (fun _ _ => rfl) (qL_had l D cy la L hV k (by omega) rfl (((L 7 (8 * k + i62)) - (L 7 (8 * k + i62)) / 4096 * 4096) - 1)) (va_cwS 3 hts gL_day_L_had rfl rfl rfl (by decide +kernel) ⟨Nat.le_of_ble_eq_true rfl, Nat.le_of_ble_eq_true rfl⟩) rfl hl.1 rfl (Nat.le_of_ble_eq_true rfl) dL_day_141 ⟨Nat.le_of_ble_eq_true rfl, Nat.le_of_ble_eq_true rfl⟩ (fun H locs hk9 hz9 hI => ?_)
              refine lv_iload hx hb dL_day_144 (lv_at hl 3 rfl) ?_
              refine lv_iand hx hb dL_day_146 ?_
              refine lr_callS (As := [.int ((fL_had L k (((L 7 (8 * k + i62)) - (L 7 (8 * k + i62)) / 4096 * 4096) - 1)) &&& (L 0 (8 * s_ + 1)))]) (rest := [.int 2]) hC hI (qL_ones l ((fL_had L k (((L 7 (8 * k + i62)) - (L 7 (8 * k + i62)) / 4096 * 4096) - 1)) &&& (L 0 (8 * s_ + 1)))) (va_cwS 1 hts gL_day_L_ones rfl rfl rfl (by decide +kernel) ⟨Nat.le_of_ble_eq_true rfl, Nat.le_of_ble_eq_true rfl⟩) rfl hl.1 rfl (Nat.le_of_ble_eq_true rfl) dL_day_147 ⟨Nat.le_of_ble_eq_true rfl, Nat.le_of_ble_eq_true rfl⟩ (fun H locs hk9 hz9 hI => ?_)
              refine lv_imul hx hb dL_day_150 ?_
              refine lv_iload hx hb dL_day_151 (lv_at hl 3 rfl) ?_
              refine lr_callS (As := [.int (L 0 (8 * s_ + 1))]) (rest := [.int (2 * (fL_ones ((fL_had L k (((L 7 (8 * k + i62)) - (L 7 (8 * k + i62)) / 4096 * 4096) - 1)) &&& (L 0 (8 * s_ + 1)))))]) hC hI (qL_ones l (L 0 (8 * s_ + 1))) (va_cwS 1 hts gL_day_L_ones rfl rfl rfl (by decide +kernel) ⟨Nat.le_of_ble_eq_true rfl, Nat.le_of_ble_eq_true rfl⟩) rfl hl.1 rfl (Nat.le_of_ble_eq_true rfl) dL_day_153 ⟨Nat.le_of_ble_eq_true rfl, Nat.le_of_ble_eq_true rfl⟩ (fun H locs hk9 hz9 hI => ?_)
              refine lv_icmp_lt (tgt := 164) hx hb dL_day_156 (by decide) (fun c_7 => ?_) (fun c_7 => ?_)
              · have hG := hG.trans (if_pos c_7)
                refine lv_iload hx hb dL_day_164 (lv_at hl 2 rfl) ?_
                refine lv_istore (lv' := [(6, .int x62_6), (8, .int (((L 7 (8 * k + i62)) - (L 7 (8 * k + i62)) / 4096 * 4096) - 1)), (7, .int (nI i62)), (5, .int (L 0 (8 * s_ + 1))), (0, .int (nI k)), (1, .int (nI s_)), (2, .ref (la 0)), (3, .ref (la 6)), (4, .ref (la 7))]) hx hb dL_day_166 hl (by decide) rfl (fun ls hl => ?_)
                refine lv_iinc (v := (nI (i62 + 1))) (lv' := [(7, .int (nI (i62 + 1))), (6, .int x62_6), (8, .int (((L 7 (8 * k + i62)) - (L 7 (8 * k + i62)) / 4096 * 4096) - 1)), (5, .int (L 0 (8 * s_ + 1))), (0, .int (nI k)), (1, .int (nI s_)), (2, .ref (la 0)), (3, .ref (la 6)), (4, .ref (la 7))]) hx hb dL_day_168 hl (k := 2) rfl (nI_1 i62) (by decide) rfl (fun ls hl => ?_)
                refine lv_goto (tgt := 62) hx hb dL_day_171 (by decide) ?_
                exact ih62 x62_6 _ _ ls hlt62 ⟨hG, hI, lv_sub hl [0, 1, 3, 4, 5, 6, 7, 8] rfl⟩
              · have hG := hG.trans (if_neg c_7)
                refine lv_iload hx hb dL_day_159 (lv_at hl 0 rfl) ?_
                refine lv_goto (tgt := 166) hx hb dL_day_161 (by decide) ?_
                refine lv_istore (lv' := [(6, .int (((L 7 (8 * k + i62)) - (L 7 (8 * k + i62)) / 4096 * 4096) - 1)), (8, .int (((L 7 (8 * k + i62)) - (L 7 (8 * k + i62)) / 4096 * 4096) - 1)), (7, .int (nI i62)), (5, .int (L 0 (8 * s_ + 1))), (0, .int (nI k)), (1, .int (nI s_)), (2, .ref (la 0)), (3, .ref (la 6)), (4, .ref (la 7))]) hx hb dL_day_166 hl (by decide) rfl (fun ls hl => ?_)
                refine lv_iinc (v := (nI (i62 + 1))) (lv' := [(7, .int (nI (i62 + 1))), (6, .int (((L 7 (8 * k + i62)) - (L 7 (8 * k + i62)) / 4096 * 4096) - 1)), (8, .int (((L 7 (8 * k + i62)) - (L 7 (8 * k + i62)) / 4096 * 4096) - 1)), (5, .int (L 0 (8 * s_ + 1))), (0, .int (nI k)), (1, .int (nI s_)), (2, .ref (la 0)), (3, .ref (la 6)), (4, .ref (la 7))]) hx hb dL_day_168 hl (k := 2) rfl (nI_1 i62) (by decide) rfl (fun ls hl => ?_)
                refine lv_goto (tgt := 62) hx hb dL_day_171 (by decide) ?_
                exact ih62 (((L 7 (8 * k + i62)) - (L 7 (8 * k + i62)) / 4096 * 4096) - 1) _ _ ls hlt62 ⟨hG, hI, lv_sub hl [0, 1, 3, 4, 5, 6, 7, 8] rfl⟩
        · have hG := hG.trans (if_pos c_4)
          refine lv_aload hx hb dL_day_80 (lv_at hl 7 rfl) ?_
          refine lv_bipush (v := 8) hx hb dL_day_82 (by decide) ?_
          refine lv_iload_n hx hb dL_day_84 rfl (lv_at hl 3 rfl) ?_
          refine lv_imul hx hb dL_day_85 ?_
          refine lv_iload hx hb dL_day_86 (lv_at hl 0 rfl) ?_
          refine lv_iadd hx hb dL_day_88 ?_
          refine lr_ld hC hI 7 (by decide) (show vp_in ((8 * (nI k)) + (nI i62)) 64 from nx_in (nx_add (nx_mul (by decide : (8 : Int32) = nI 8) rfl) rfl) (by omega) (by decide)) (v := (L 7 (8 * k + i62))) (congrArg (L 7) (nx_ix (x := ((8 * (nI k)) + (nI i62))) (nx_add (nx_mul (by decide : (8 : Int32) = nI 8) rfl) rfl) (by omega))) dL_day_89 ?_
          refine lv_sipush (v := 4096) hx hb dL_day_90 (by decide) ?_
          refine lv_icmp_le (tgt := 105) hx hb dL_day_93 (by decide) (fun c_8 => ?_) (fun c_8 => ?_)
          · have hG := hG.trans (if_pos c_8)
            refine lv_aload hx hb dL_day_105 (lv_at hl 7 rfl) ?_
            refine lv_bipush (v := 8) hx hb dL_day_107 (by decide) ?_
            refine lv_iload_n hx hb dL_day_109 rfl (lv_at hl 3 rfl) ?_
            refine lv_imul hx hb dL_day_110 ?_
            refine lv_iload hx hb dL_day_111 (lv_at hl 0 rfl) ?_
            refine lv_iadd hx hb dL_day_113 ?_
            refine lr_ld hC hI 7 (by decide) (show vp_in ((8 * (nI k)) + (nI i62)) 64 from nx_in (nx_add (nx_mul (by decide : (8 : Int32) = nI 8) rfl) rfl) (by omega) (by decide)) (v := (L 7 (8 * k + i62))) (congrArg (L 7) (nx_ix (x := ((8 * (nI k)) + (nI i62))) (nx_add (nx_mul (by decide : (8 : Int32) = nI 8) rfl) rfl) (by omega))) dL_day_114 ?_
            refine lv_sipush (v := 4096) hx hb dL_day_115 (by decide) ?_
            refine lv_irem hx hb dL_day_118 (by decide) ?_
            refine lv_iconst (v := 1) hx hb dL_day_119 (by decide) ?_
            refine lv_isub hx hb dL_day_120 ?_
            refine lv_istore (lv' := [(8, .int (((L 7 (8 * k + i62)) - (L 7 (8 * k + i62)) / 4096 * 4096) - 1)), (7, .int (nI i62)), (6, .int x62_6), (5, .int (L 0 (8 * s_ + 1))), (0, .int (nI k)), (1, .int (nI s_)), (2, .ref (la 0)), (3, .ref (la 6)), (4, .ref (la 7))]) hx hb dL_day_121 hl (by decide) rfl (fun ls hl => ?_)
            refine lv_iload hx hb dL_day_123 (lv_at hl 0 rfl) ?_
            refine lv_if_lt (tgt := 164) hx hb dL_day_125 (by decide) (fun c_9 => ?_) (fun c_9 => ?_)
            · have hG := hG.trans (if_pos c_9)
              refine lv_iload hx hb dL_day_164 (lv_at hl 2 rfl) ?_
              refine lv_istore (lv' := [(6, .int x62_6), (8, .int (((L 7 (8 * k + i62)) - (L 7 (8 * k + i62)) / 4096 * 4096) - 1)), (7, .int (nI i62)), (5, .int (L 0 (8 * s_ + 1))), (0, .int (nI k)), (1, .int (nI s_)), (2, .ref (la 0)), (3, .ref (la 6)), (4, .ref (la 7))]) hx hb dL_day_166 hl (by decide) rfl (fun ls hl => ?_)
              refine lv_iinc (v := (nI (i62 + 1))) (lv' := [(7, .int (nI (i62 + 1))), (6, .int x62_6), (8, .int (((L 7 (8 * k + i62)) - (L 7 (8 * k + i62)) / 4096 * 4096) - 1)), (5, .int (L 0 (8 * s_ + 1))), (0, .int (nI k)), (1, .int (nI s_)), (2, .ref (la 0)), (3, .ref (la 6)), (4, .ref (la 7))]) hx hb dL_day_168 hl (k := 2) rfl (nI_1 i62) (by decide) rfl (fun ls hl => ?_)
              refine lv_goto (tgt := 62) hx hb dL_day_171 (by decide) ?_
              exact ih62 x62_6 _ _ ls hlt62 ⟨hG, hI, lv_sub hl [0, 1, 3, 4, 5, 6, 7, 8] rfl⟩
            · have hG := hG.trans (if_neg c_9)
              refine lv_iload hx hb dL_day_128 (lv_at hl 0 rfl) ?_
              refine lv_iload hx hb dL_day_130 (lv_at hl 2 rfl) ?_
              refine lv_icmp_ge (tgt := 164) hx hb dL_day_132 (by decide) (fun c_10 => ?_) (fun c_10 => ?_)
              · have hG := hG.trans (if_pos c_10)
                refine lv_iload hx hb dL_day_164 (lv_at hl 2 rfl) ?_
                refine lv_istore (lv' := [(6, .int x62_6), (8, .int (((L 7 (8 * k + i62)) - (L 7 (8 * k + i62)) / 4096 * 4096) - 1)), (7, .int (nI i62)), (5, .int (L 0 (8 * s_ + 1))), (0, .int (nI k)), (1, .int (nI s_)), (2, .ref (la 0)), (3, .ref (la 6)), (4, .ref (la 7))]) hx hb dL_day_166 hl (by decide) rfl (fun ls hl => ?_)
                refine lv_iinc (v := (nI (i62 + 1))) (lv' := [(7, .int (nI (i62 + 1))), (6, .int x62_6), (8, .int (((L 7 (8 * k + i62)) - (L 7 (8 * k + i62)) / 4096 * 4096) - 1)), (5, .int (L 0 (8 * s_ + 1))), (0, .int (nI k)), (1, .int (nI s_)), (2, .ref (la 0)), (3, .ref (la 6)), (4, .ref (la 7))]) hx hb dL_day_168 hl (k := 2) rfl (nI_1 i62) (by decide) rfl (fun ls hl => ?_)
                refine lv_goto (tgt := 62) hx hb dL_day_171 (by decide) ?_
                exact ih62 x62_6 _ _ ls hlt62 ⟨hG, hI, lv_sub hl [0, 1, 3, 4, 5, 6, 7, 8] rfl⟩
              · have hG := hG.trans (if_neg c_10)
                refine lv_iconst (v := 2) hx hb dL_day_135 (by decide) ?_
                refine lv_iload_n hx hb dL_day_136 rfl (lv_at hl 4 rfl) ?_
                refine lv_iload hx hb dL_day_137 (lv_at hl 0 rfl) ?_
                refine lv_aload hx hb dL_day_139 (lv_at hl 8 rfl) ?_
                refine lr_call (As := [.int (nI k), .int (((L 7 (8 * k + i62)) - (L 7 (8 * k + i62)) / 4096 * 4096) - 1), .ref (la 7)]) (rest := [.int 2]) hC hI (by decide) (fun _ _ => rfl) (qL_had l D cy la L hV k (by omega) rfl (((L 7 (8 * k + i62)) - (L 7 (8 * k + i62)) / 4096 * 4096) - 1)) (va_cwS 3 hts gL_day_L_had rfl rfl rfl (by decide +kernel) ⟨Nat.le_of_ble_eq_true rfl, Nat.le_of_ble_eq_true rfl⟩) rfl hl.1 rfl (Nat.le_of_ble_eq_true rfl) dL_day_141 ⟨Nat.le_of_ble_eq_true rfl, Nat.le_of_ble_eq_true rfl⟩ (fun H locs hk9 hz9 hI => ?_)
                refine lv_iload hx hb dL_day_144 (lv_at hl 3 rfl) ?_
                refine lv_iand hx hb dL_day_146 ?_
                refine lr_callS (As := [.int ((fL_had L k (((L 7 (8 * k + i62)) - (L 7 (8 * k + i62)) / 4096 * 4096) - 1)) &&& (L 0 (8 * s_ + 1)))]) (rest := [.int 2]) hC hI (qL_ones l ((fL_had L k (((L 7 (8 * k + i62)) - (L 7 (8 * k + i62)) / 4096 * 4096) - 1)) &&& (L 0 (8 * s_ + 1)))) (va_cwS 1 hts gL_day_L_ones rfl rfl rfl (by decide +kernel) ⟨Nat.le_of_ble_eq_true rfl, Nat.le_of_ble_eq_true rfl⟩) rfl hl.1 rfl (Nat.le_of_ble_eq_true rfl) dL_day_147 ⟨Nat.le_of_ble_eq_true rfl, Nat.le_of_ble_eq_true rfl⟩ (fun H locs hk9 hz9 hI => ?_)
                refine lv_imul hx hb dL_day_150 ?_
                refine lv_iload hx hb dL_day_151 (lv_at hl 3 rfl) ?_
                refine lr_callS (As := [.int (L 0 (8 * s_ + 1))]) (rest := [.int (2 * (fL_ones ((fL_had L k (((L 7 (8 * k + i62)) - (L 7 (8 * k + i62)) / 4096 * 4096) - 1)) &&& (L 0 (8 * s_ + 1)))))]) hC hI (qL_ones l (L 0 (8 * s_ + 1))) (va_cwS 1 hts gL_day_L_ones rfl rfl rfl (by decide +kernel) ⟨Nat.le_of_ble_eq_true rfl, Nat.le_of_ble_eq_true rfl⟩) rfl hl.1 rfl (Nat.le_of_ble_eq_true rfl) dL_day_153 ⟨Nat.le_of_ble_eq_true rfl, Nat.le_of_ble_eq_true rfl⟩ (fun H locs hk9 hz9 hI => ?_)
                refine lv_icmp_lt (tgt := 164) hx hb dL_day_156 (by decide) (fun c_11 => ?_) (fun c_11 => ?_)
                · have hG := hG.trans (if_pos c_11)
                  refine lv_iload hx hb dL_day_164 (lv_at hl 2 rfl) ?_
                  refine lv_istore (lv' := [(6, .int x62_6), (8, .int (((L 7 (8 * k + i62)) - (L 7 (8 * k + i62)) / 4096 * 4096) - 1)), (7, .int (nI i62)), (5, .int (L 0 (8 * s_ + 1))), (0, .int (nI k)), (1, .int (nI s_)), (2, .ref (la 0)), (3, .ref (la 6)), (4, .ref (la 7))]) hx hb dL_day_166 hl (by decide) rfl (fun ls hl => ?_)
                  refine lv_iinc (v := (nI (i62 + 1))) (lv' := [(7, .int (nI (i62 + 1))), (6, .int x62_6), (8, .int (((L 7 (8 * k + i62)) - (L 7 (8 * k + i62)) / 4096 * 4096) - 1)), (5, .int (L 0 (8 * s_ + 1))), (0, .int (nI k)), (1, .int (nI s_)), (2, .ref (la 0)), (3, .ref (la 6)), (4, .ref (la 7))]) hx hb dL_day_168 hl (k := 2) rfl (nI_1 i62) (by decide) rfl (fun ls hl => ?_)
                  refine lv_goto (tgt := 62) hx hb dL_day_171 (by decide) ?_
                  exact ih62 x62_6 _ _ ls hlt62 ⟨hG, hI, lv_sub hl [0, 1, 3, 4, 5, 6, 7, 8] rfl⟩
                · have hG := hG.trans (if_neg c_11)
                  refine lv_iload hx hb dL_day_159 (lv_at hl 0 rfl) ?_
                  refine lv_goto (tgt := 166) hx hb dL_day_161 (by decide) ?_
                  refine lv_istore (lv' := [(6, .int (((L 7 (8 * k + i62)) - (L 7 (8 * k + i62)) / 4096 * 4096) - 1)), (8, .int (((L 7 (8 * k + i62)) - (L 7 (8 * k + i62)) / 4096 * 4096) - 1)), (7, .int (nI i62)), (5, .int (L 0 (8 * s_ + 1))), (0, .int (nI k)), (1, .int (nI s_)), (2, .ref (la 0)), (3, .ref (la 6)), (4, .ref (la 7))]) hx hb dL_day_166 hl (by decide) rfl (fun ls hl => ?_)
                  refine lv_iinc (v := (nI (i62 + 1))) (lv' := [(7, .int (nI (i62 + 1))), (6, .int (((L 7 (8 * k + i62)) - (L 7 (8 * k + i62)) / 4096 * 4096) - 1)), (8, .int (((L 7 (8 * k + i62)) - (L 7 (8 * k + i62)) / 4096 * 4096) - 1)), (5, .int (L 0 (8 * s_ + 1))), (0, .int (nI k)), (1, .int (nI s_)), (2, .ref (la 0)), (3, .ref (la 6)), (4, .ref (la 7))]) hx hb dL_day_168 hl (k := 2) rfl (nI_1 i62) (by decide) rfl (fun ls hl => ?_)
                  refine lv_goto (tgt := 62) hx hb dL_day_171 (by decide) ?_
                  exact ih62 (((L 7 (8 * k + i62)) - (L 7 (8 * k + i62)) / 4096 * 4096) - 1) _ _ ls hlt62 ⟨hG, hI, lv_sub hl [0, 1, 3, 4, 5, 6, 7, 8] rfl⟩
          · have hG := hG.trans (if_neg c_8)
            refine lv_aload_n hx hb dL_day_96 rfl (lv_at hl 6 rfl) ?_
            refine lv_bipush (v := 8) hx hb dL_day_97 (by decide) ?_
            refine lv_iload_n hx hb dL_day_99 rfl (lv_at hl 3 rfl) ?_
            refine lv_imul hx hb dL_day_100 ?_
            refine lv_iconst (v := 2) hx hb dL_day_101 (by decide) ?_
            refine lv_iadd hx hb dL_day_102 ?_
            refine lr_ld hC hI 6 (by decide) (show vp_in ((8 * (nI k)) + 2) 64 from nx_in (nx_add (nx_mul (by decide : (8 : Int32) = nI 8) rfl) (by decide : (2 : Int32) = nI 2)) (by omega) (by decide)) (v := (L 6 (8 * k + 2))) (congrArg (L 6) (nx_ix (x := ((8 * (nI k)) + 2)) (nx_add (nx_mul (by decide : (8 : Int32) = nI 8) rfl) (by decide : (2 : Int32) = nI 2)) (by omega))) dL_day_103 ?_
            exact W.iret (v := (L 6 (8 * k + 2))) hx hb hr (fun t9 ht9 hW9 => ⟨⟨L 6 (8 * k + 2), (), rfl, hG.symm, trivial⟩, hI.2.F ht9⟩) hI.2.2.2 dL_day_104
    · have hG := hG.trans (if_neg c_2)
      refine lv_iconst (v := (-1)) hx hb dL_day_52 (by decide) ?_
      exact W.iret (v := (-1)) hx hb hr (fun t9 ht9 hW9 => ⟨⟨(-1), (), rfl, hG.symm, trivial⟩, hI.2.F ht9⟩) hI.2.2.2 dL_day_53
set_option maxHeartbeats 4000000 in
set_option maxRecDepth 100000 in
theorem qL_first (l : Launch) (D : va_G) (cy : Nat → ClassId) (la : Nat → Nat) (L : St) (hV : LV L) (s_ : Nat) (hs_ : s_ < 8) {x_s_ : Int32} (es_ : x_s_ = nI s_) : LPure l D cy la L yL_first wsL_first ({ frames := 2, cells := 0, slots := 0, locals := 52 } : Room) 0 0 [.int x_s_, .ref (la 0), .ref (la 6), .ref (la 7), .ref (la 11)] (fL_first L s_) := by
  subst es_
  refine Met.ofW (cc := cL_first) (maxL := 8) (ret := (some .int)) (by decide) rfl ?_
  intro p e s m args below meth c s₁ B hml hv
  obtain ⟨rfl, hM, hK⟩ := hv
  have hx := B.exec
  have hb := B.bytes
  have hr := B.returns
  have hts := atoms_spec (ws := wsL_first) B.pre
  have hown : s.vm.findClass RL = some m.cls := findClass_of_methodNamed B.named
  have hlocks := B.notSynchronized
  have hC : CC p s m _ c cL_first 8 RL D cy wsL_first := ⟨⟨hx, hb, hml, hown, hts⟩, hK⟩
  have hI : LI (fun _ => False) 12 D cy la s L s.heap [] := ⟨hM, va_S.rf⟩
  have hb1 := hV.b1
  have hb2 := hV.b2
  have hb3 := hV.b3
  have hb4 := hV.b4
  have k_9 := hts (.constant RL 9 (2147483647)) (List.mem_cons_of_mem _ (List.mem_of_getElem? (i := 0) rfl))
  have hl := lv_entry ([.int (nI s_), .ref (la 0), .ref (la 6), .ref (la 7), .ref (la 11)]) (n := 8) (Nat.le_of_ble_eq_true rfl)
  rw [lg_entry_eq]
  generalize (lg_sl ([.int (nI s_), .ref (la 0), .ref (la 6), .ref (la 7), .ref (la 11)]) ++ List.replicate (8 - (lg_sl ([.int (nI s_), .ref (la 0), .ref (la 6), .ref (la 7), .ref (la 11)])).length) Slot.unset).toArray = ls at hl ⊢
  have hl : lv_has ls 8 [(0, .int (nI s_)), (1, .ref (la 0)), (2, .ref (la 6)), (3, .ref (la 7)), (4, .ref (la 11))] := hl
  have hG : fL_first L s_ = fL_first L s_ := rfl
  refine lv_ldc hx hb hown k_9 dL_first_0 ?_
  refine lv_istore (lv' := [(5, .int 2147483647), (0, .int (nI s_)), (1, .ref (la 0)), (2, .ref (la 6)), (3, .ref (la 7)), (4, .ref (la 11))]) hx hb dL_first_2 hl (by decide) rfl (fun ls hl => ?_)
  refine lv_iconst (v := 0) hx hb dL_first_4 (by decide) ?_
  refine lv_istore (lv' := [(6, .int 0), (5, .int 2147483647), (0, .int (nI s_)), (1, .ref (la 0)), (2, .ref (la 6)), (3, .ref (la 7)), (4, .ref (la 11))]) hx hb dL_first_5 hl (by decide) rfl (fun ls hl => ?_)
  refine w_loop (σ := Int32) (q4 L) 7 (fun i7 z H locs ls => z = lL_first_7 L s_ i7 ∧ LI (fun _ => False) 12 D cy la s L H locs ∧ lv_has ls 8 [(6, .int (nI i7)), (5, .int z), (0, .int (nI s_)), (1, .ref (la 0)), (2, .ref (la 6)), (3, .ref (la 7)), (4, .ref (la 11))]) ?_ 2147483647 ⟨rfl, hI, lv_sub hl [0, 1, 2, 3, 4, 5, 6] rfl⟩
  intro i7 z H locs ls ⟨hz7, hI, hl⟩ hi7 ih7
  obtain ⟨x7_5, rfl⟩ : ∃ x, x = z := ⟨_, rfl⟩
  refine lv_iload hx hb dL_first_7 (lv_at hl 0 rfl) ?_
  refine lv_aload hx hb dL_first_9 (lv_at hl 6 rfl) ?_
  refine lv_iconst (v := 4) hx hb dL_first_11 (by decide) ?_
  refine lr_ld hC hI 11 (by decide) (nx_in (by decide : (4 : Int32) = nI 4) (by decide) (by decide)) (v := (L 11 4)) (congrArg (L 11) (by decide : ix 4 = 4)) dL_first_12 ?_
  refine lv_icmp_ge (tgt := 83) hx hb dL_first_13 (by decide) (fun c_1 => ?_) (fun c_1 => ?_)
  · obtain rfl : i7 = q4 L := w_exit hV.n4 hi7 (by have := hV.b4; omega) c_1
    obtain rfl : x7_5 = (lL_first_7 L s_ (q4 L)) := by rw [← hz7]
    refine lv_iload hx hb dL_first_83 (lv_at hl 1 rfl) ?_
    refine lv_ldc hx hb hown k_9 dL_first_85 ?_
    refine lv_icmp_ne (tgt := 94) hx hb dL_first_87 (by decide) (fun c_6 => ?_) (fun c_6 => ?_)
    · have hG := hG.trans (if_neg c_6)
      refine lv_iload hx hb dL_first_94 (lv_at hl 1 rfl) ?_
      refine lv_bipush (v := 16) hx hb dL_first_96 (by decide) ?_
      refine lv_irem hx hb dL_first_98 (by decide) ?_
      exact W.iret (v := ((lL_first_7 L s_ (q4 L)) - (lL_first_7 L s_ (q4 L)) / 16 * 16)) hx hb hr (fun t9 ht9 hW9 => ⟨⟨((lL_first_7 L s_ (q4 L)) - (lL_first_7 L s_ (q4 L)) / 16 * 16), (), rfl, hG.symm, trivial⟩, hI.2.F ht9⟩) hI.2.2.2 dL_first_99
    · have hG := hG.trans (if_pos c_6)
      refine lv_iconst (v := (-1)) hx hb dL_first_90 (by decide) ?_
      refine lv_goto (tgt := 99) hx hb dL_first_91 (by decide) ?_
      exact W.iret (v := (-1)) hx hb hr (fun t9 ht9 hW9 => ⟨⟨(-1), (), rfl, hG.symm, trivial⟩, hI.2.F ht9⟩) hI.2.2.2 dL_first_99
  · have hlt7 : i7 < q4 L := w_in hV.n4 hi7 (by have := hV.b4; omega) c_1
    have hB7 : iL_first_7 L s_ i7 x7_5 = iL_first_7 L s_ i7 x7_5 := rfl
    refine lv_aload_n hx hb dL_first_16 rfl (lv_at hl 4 rfl) ?_
    refine lv_bipush (v := 8) hx hb dL_first_17 (by decide) ?_
    refine lv_iload hx hb dL_first_19 (lv_at hl 0 rfl) ?_
    refine lv_imul hx hb dL_first_21 ?_
    refine lv_iconst (v := 3) hx hb dL_first_22 (by decide) ?_
    refine lv_iadd hx hb dL_first_23 ?_
    refine lr_ld hC hI 6 (by decide) (show vp_in ((8 * (nI i7)) + 3) 64 from nx_in (nx_add (nx_mul (by decide : (8 : Int32) = nI 8) rfl) (by decide : (3 : Int32) = nI 3)) (by omega) (by decide)) (v := (L 6 (8 * i7 + 3))) (congrArg (L 6) (nx_ix (x := ((8 * (nI i7)) + 3)) (nx_add (nx_mul (by decide : (8 : Int32) = nI 8) rfl) (by decide : (3 : Int32) = nI 3)) (by omega))) dL_first_24 ?_
    refine lv_iconst (v := 3) hx hb dL_first_25 (by decide) ?_
    refine lv_icmp_ne (tgt := 33) hx hb dL_first_26 (by decide) (fun c_3 => ?_) (fun c_3 => ?_)
    · have hB7 := hB7.trans (if_neg c_3)
      refine lv_iload hx hb dL_first_33 (lv_at hl 0 rfl) ?_
      refine lv_iload_n hx hb dL_first_35 rfl (lv_at hl 2 rfl) ?_
      refine lv_aload_n hx hb dL_first_36 rfl (lv_at hl 3 rfl) ?_
      refine lv_aload_n hx hb dL_first_37 rfl (lv_at hl 4 rfl) ?_
      refine lv_aload_n hx hb dL_first_38 rfl (lv_at hl 5 rfl) ?_
      refine lr_call (As := [.int (nI i7), .int (nI s_), .ref (la 0), .ref (la 6), .ref (la 7)]) (rest := []) hC hI (by decide) (fun _ _ => rfl) (qL_day l D cy la L hV i7 (by omega) rfl s_ (by omega) rfl) (va_cwS 5 hts gL_first_L_day rfl rfl rfl (by decide +kernel) ⟨Nat.le_of_ble_eq_true rfl, Nat.le_of_ble_eq_true rfl⟩) rfl hl.1 rfl (Nat.le_of_ble_eq_true rfl) dL_first_39 ⟨Nat.le_of_ble_eq_true rfl, Nat.le_of_ble_eq_true rfl⟩ (fun H locs hk9 hz9 hI => ?_)
      refine lv_istore (lv' := [(7, .int (fL_day L i7 s_)), (6, .int (nI i7)), (5, .int x7_5), (0, .int (nI s_)), (1, .ref (la 0)), (2, .ref (la 6)), (3, .ref (la 7)), (4, .ref (la 11))]) hx hb dL_first_42 hl (by decide) rfl (fun ls hl => ?_)
      refine lv_iload hx hb dL_first_44 (lv_at hl 0 rfl) ?_
      refine lv_if_lt (tgt := 73) hx hb dL_first_46 (by decide) (fun c_4 => ?_) (fun c_4 => ?_)
      · have hB7 := hB7.trans (if_pos c_4)
        refine lv_iload hx hb dL_first_73 (lv_at hl 2 rfl) ?_
        refine lv_istore (lv' := [(5, .int x7_5), (7, .int (fL_day L i7 s_)), (6, .int (nI i7)), (0, .int (nI s_)), (1, .ref (la 0)), (2, .ref (la 6)), (3, .ref (la 7)), (4, .ref (la 11))]) hx hb dL_first_75 hl (by decide) rfl (fun ls hl => ?_)
        refine lv_iinc (v := (nI (i7 + 1))) (lv' := [(6, .int (nI (i7 + 1))), (5, .int x7_5), (7, .int (fL_day L i7 s_)), (0, .int (nI s_)), (1, .ref (la 0)), (2, .ref (la 6)), (3, .ref (la 7)), (4, .ref (la 11))]) hx hb dL_first_77 hl (k := 2) rfl (nI_1 i7) (by decide) rfl (fun ls hl => ?_)
        refine lv_goto (tgt := 7) hx hb dL_first_80 (by decide) ?_
        exact ih7 x7_5 _ _ ls hlt7 ⟨(by show _ = iL_first_7 L s_ i7 (lL_first_7 L s_ i7); rw [← hz7]; exact hB7.symm), hI, lv_sub hl [0, 1, 3, 4, 5, 6, 7] rfl⟩
      · have hB7 := hB7.trans (if_neg c_4)
        refine lv_bipush (v := 16) hx hb dL_first_49 (by decide) ?_
        refine lv_iload hx hb dL_first_51 (lv_at hl 0 rfl) ?_
        refine lv_imul hx hb dL_first_53 ?_
        refine lv_iload hx hb dL_first_54 (lv_at hl 1 rfl) ?_
        refine lv_iadd hx hb dL_first_56 ?_
        refine lv_iload hx hb dL_first_57 (lv_at hl 2 rfl) ?_
        refine lv_icmp_ge (tgt := 73) hx hb dL_first_59 (by decide) (fun c_5 => ?_) (fun c_5 => ?_)
        · have hB7 := hB7.trans (if_pos c_5)
          refine lv_iload hx hb dL_first_73 (lv_at hl 2 rfl) ?_
          refine lv_istore (lv' := [(5, .int x7_5), (7, .int (fL_day L i7 s_)), (6, .int (nI i7)), (0, .int (nI s_)), (1, .ref (la 0)), (2, .ref (la 6)), (3, .ref (la 7)), (4, .ref (la 11))]) hx hb dL_first_75 hl (by decide) rfl (fun ls hl => ?_)
          refine lv_iinc (v := (nI (i7 + 1))) (lv' := [(6, .int (nI (i7 + 1))), (5, .int x7_5), (7, .int (fL_day L i7 s_)), (0, .int (nI s_)), (1, .ref (la 0)), (2, .ref (la 6)), (3, .ref (la 7)), (4, .ref (la 11))]) hx hb dL_first_77 hl (k := 2) rfl (nI_1 i7) (by decide) rfl (fun ls hl => ?_)
          refine lv_goto (tgt := 7) hx hb dL_first_80 (by decide) ?_
          exact ih7 x7_5 _ _ ls hlt7 ⟨(by show _ = iL_first_7 L s_ i7 (lL_first_7 L s_ i7); rw [← hz7]; exact hB7.symm), hI, lv_sub hl [0, 1, 3, 4, 5, 6, 7] rfl⟩
        · have hB7 := hB7.trans (if_neg c_5)
          refine lv_bipush (v := 16) hx hb dL_first_62 (by decide) ?_
          refine lv_iload hx hb dL_first_64 (lv_at hl 0 rfl) ?_
          refine lv_imul hx hb dL_first_66 ?_
          refine lv_iload hx hb dL_first_67 (lv_at hl 1 rfl) ?_
          refine lv_iadd hx hb dL_first_69 ?_
          refine lv_goto (tgt := 75) hx hb dL_first_70 (by decide) ?_
          refine lv_istore (lv' := [(5, .int ((16 * (fL_day L i7 s_)) + (nI i7))), (7, .int (fL_day L i7 s_)), (6, .int (nI i7)), (0, .int (nI s_)), (1, .ref (la 0)), (2, .ref (la 6)), (3, .ref (la 7)), (4, .ref (la 11))]) hx hb dL_first_75 hl (by decide) rfl (fun ls hl => ?_)
          refine lv_iinc (v := (nI (i7 + 1))) (lv' := [(6, .int (nI (i7 + 1))), (5, .int ((16 * (fL_day L i7 s_)) + (nI i7))), (7, .int (fL_day L i7 s_)), (0, .int (nI s_)), (1, .ref (la 0)), (2, .ref (la 6)), (3, .ref (la 7)), (4, .ref (la 11))]) hx hb dL_first_77 hl (k := 2) rfl (nI_1 i7) (by decide) rfl (fun ls hl => ?_)
          refine lv_goto (tgt := 7) hx hb dL_first_80 (by decide) ?_
          exact ih7 ((16 * (fL_day L i7 s_)) + (nI i7)) _ _ ls hlt7 ⟨(by show _ = iL_first_7 L s_ i7 (lL_first_7 L s_ i7); rw [← hz7]; exact hB7.symm), hI, lv_sub hl [0, 1, 3, 4, 5, 6, 7] rfl⟩
    · have hB7 := hB7.trans (if_pos c_3)
      refine lv_iconst (v := (-1)) hx hb dL_first_29 (by decide) ?_
      refine lv_goto (tgt := 42) hx hb dL_first_30 (by decide) ?_
      refine lv_istore (lv' := [(7, .int (-1)), (6, .int (nI i7)), (5, .int x7_5), (0, .int (nI s_)), (1, .ref (la 0)), (2, .ref (la 6)), (3, .ref (la 7)), (4, .ref (la 11))]) hx hb dL_first_42 hl (by decide) rfl (fun ls hl => ?_)
      refine lv_iload hx hb dL_first_44 (lv_at hl 0 rfl) ?_
      refine lv_if_lt (tgt := 73) hx hb dL_first_46 (by decide) (fun _ => ?_) (fun c => absurd (by decide : ((-1) : Int32) < 0) c)
      refine lv_iload hx hb dL_first_73 (lv_at hl 2 rfl) ?_
      refine lv_istore (lv' := [(5, .int x7_5), (7, .int (-1)), (6, .int (nI i7)), (0, .int (nI s_)), (1, .ref (la 0)), (2, .ref (la 6)), (3, .ref (la 7)), (4, .ref (la 11))]) hx hb dL_first_75 hl (by decide) rfl (fun ls hl => ?_)
      refine lv_iinc (v := (nI (i7 + 1))) (lv' := [(6, .int (nI (i7 + 1))), (5, .int x7_5), (7, .int (-1)), (0, .int (nI s_)), (1, .ref (la 0)), (2, .ref (la 6)), (3, .ref (la 7)), (4, .ref (la 11))]) hx hb dL_first_77 hl (k := 2) rfl (nI_1 i7) (by decide) rfl (fun ls hl => ?_)
      refine lv_goto (tgt := 7) hx hb dL_first_80 (by decide) ?_
      exact ih7 x7_5 _ _ ls hlt7 ⟨(by show _ = iL_first_7 L s_ i7 (lL_first_7 L s_ i7); rw [← hz7]; exact hB7.symm), hI, lv_sub hl [0, 1, 3, 4, 5, 6, 7] rfl⟩
set_option maxHeartbeats 4000000 in
set_option maxRecDepth 100000 in
theorem qL_bar (l : Launch) (D : va_G) (cy : Nat → ClassId) (la : Nat → Nat) (L : St) (hV : LV L) (k : Nat) (hk : k < 8) {x_k : Int32} (ek : x_k = nI k) (s_ : Nat) (hs_ : s_ < 8) {x_s_ : Int32} (es_ : x_s_ = nI s_) : LPure l D cy la L yL_bar wsL_bar ({ frames := 3, cells := 0, slots := 0, locals := 79 } : Room) 0 0 [.int x_k, .int x_s_, .ref (la 0), .ref (la 3), .ref (la 6), .ref (la 7), .ref (la 11)] (fL_bar L k s_) := by
  subst ek
  subst es_
  refine Met.ofW (cc := cL_bar) (maxL := 13) (ret := (some .int)) (by decide) rfl ?_
  intro p e s m args below meth c s₁ B hml hv
  obtain ⟨rfl, hM, hK⟩ := hv
  have hx := B.exec
  have hb := B.bytes
  have hr := B.returns
  have hts := atoms_spec (ws := wsL_bar) B.pre
  have hown : s.vm.findClass RL = some m.cls := findClass_of_methodNamed B.named
  have hlocks := B.notSynchronized
  have hC : CC p s m _ c cL_bar 13 RL D cy wsL_bar := ⟨⟨hx, hb, hml, hown, hts⟩, hK⟩
  have hI : LI (fun _ => False) 12 D cy la s L s.heap [] := ⟨hM, va_S.rf⟩
  have hb1 := hV.b1
  have hb2 := hV.b2
  have hb3 := hV.b3
  have hb4 := hV.b4
  have hl := lv_entry ([.int (nI k), .int (nI s_), .ref (la 0), .ref (la 3), .ref (la 6), .ref (la 7), .ref (la 11)]) (n := 13) (Nat.le_of_ble_eq_true rfl)
  rw [lg_entry_eq]
  generalize (lg_sl ([.int (nI k), .int (nI s_), .ref (la 0), .ref (la 3), .ref (la 6), .ref (la 7), .ref (la 11)]) ++ List.replicate (13 - (lg_sl ([.int (nI k), .int (nI s_), .ref (la 0), .ref (la 3), .ref (la 6), .ref (la 7), .ref (la 11)])).length) Slot.unset).toArray = ls at hl ⊢
  have hl : lv_has ls 13 [(0, .int (nI k)), (1, .int (nI s_)), (2, .ref (la 0)), (3, .ref (la 3)), (4, .ref (la 6)), (5, .ref (la 7)), (6, .ref (la 11))] := hl
  have hG : fL_bar L k s_ = fL_bar L k s_ := rfl
  refine lv_iload_n hx hb dL_bar_0 rfl (lv_at hl 0 rfl) ?_
  refine lv_iload_n hx hb dL_bar_1 rfl (lv_at hl 1 rfl) ?_
  refine lv_aload_n hx hb dL_bar_2 rfl (lv_at hl 2 rfl) ?_
  refine lv_aload hx hb dL_bar_3 (lv_at hl 4 rfl) ?_
  refine lv_aload hx hb dL_bar_5 (lv_at hl 5 rfl) ?_
  refine lr_call (As := [.int (nI k), .int (nI s_), .ref (la 0), .ref (la 6), .ref (la 7)]) (rest := []) hC hI (by decide) (fun _ _ => rfl) (qL_day l D cy la L hV k (by omega) rfl s_ (by omega) rfl) (va_cwS 5 hts gL_bar_L_day rfl rfl rfl (by decide +kernel) ⟨Nat.le_of_ble_eq_true rfl, Nat.le_of_ble_eq_true rfl⟩) rfl hl.1 rfl (Nat.le_of_ble_eq_true rfl) dL_bar_7 ⟨Nat.le_of_ble_eq_true rfl, Nat.le_of_ble_eq_true rfl⟩ (fun H locs hk9 hz9 hI => ?_)
  refine lv_istore (lv' := [(7, .int (fL_day L k s_)), (0, .int (nI k)), (1, .int (nI s_)), (2, .ref (la 0)), (3, .ref (la 3)), (4, .ref (la 6)), (5, .ref (la 7)), (6, .ref (la 11))]) hx hb dL_bar_10 hl (by decide) rfl (fun ls hl => ?_)
  refine lv_iload hx hb dL_bar_12 (lv_at hl 0 rfl) ?_
  refine lv_if_lt (tgt := 32) hx hb dL_bar_14 (by decide) (fun c_1 => ?_) (fun c_1 => ?_)
  · have hG := hG.trans (if_pos c_1)
    refine lv_iload hx hb dL_bar_32 (lv_at hl 0 rfl) ?_
    refine lv_if_ge (tgt := 41) hx hb dL_bar_34 (by decide) (fun c_2 => ?_) (fun c_2 => ?_)
    · have hG := hG.trans (if_pos c_2)
      refine lv_iconst (v := 2) hx hb dL_bar_41 (by decide) ?_
      exact W.iret (v := 2) hx hb hr (fun t9 ht9 hW9 => ⟨⟨2, (), rfl, hG.symm, trivial⟩, hI.2.F ht9⟩) hI.2.2.2 dL_bar_42
    · have hG := hG.trans (if_neg c_2)
      refine lv_iconst (v := 1) hx hb dL_bar_37 (by decide) ?_
      refine lv_goto (tgt := 42) hx hb dL_bar_38 (by decide) ?_
      exact W.iret (v := 1) hx hb hr (fun t9 ht9 hW9 => ⟨⟨1, (), rfl, hG.symm, trivial⟩, hI.2.F ht9⟩) hI.2.2.2 dL_bar_42
  · have hG := hG.trans (if_neg c_1)
    refine lv_iload_n hx hb dL_bar_17 rfl (lv_at hl 2 rfl) ?_
    refine lv_aload_n hx hb dL_bar_18 rfl (lv_at hl 3 rfl) ?_
    refine lv_aload hx hb dL_bar_19 (lv_at hl 5 rfl) ?_
    refine lv_aload hx hb dL_bar_21 (lv_at hl 6 rfl) ?_
    refine lv_aload hx hb dL_bar_23 (lv_at hl 7 rfl) ?_
    refine lr_call (As := [.int (nI s_), .ref (la 0), .ref (la 6), .ref (la 7), .ref (la 11)]) (rest := []) hC hI (by decide) (fun _ _ => rfl) (qL_first l D cy la L hV s_ (by omega) rfl) (va_cwS 5 hts gL_bar_L_first rfl rfl rfl (by decide +kernel) ⟨Nat.le_of_ble_eq_true rfl, Nat.le_of_ble_eq_true rfl⟩) rfl hl.1 rfl (Nat.le_of_ble_eq_true rfl) dL_bar_25 ⟨Nat.le_of_ble_eq_true rfl, Nat.le_of_ble_eq_true rfl⟩ (fun H locs hk9 hz9 hI => ?_)
    refine lv_iload_n hx hb dL_bar_28 rfl (lv_at hl 1 rfl) ?_
    refine lv_icmp_eq (tgt := 43) hx hb dL_bar_29 (by decide) (fun c_3 => ?_) (fun c_3 => ?_)
    · have hG := hG.trans (if_pos c_3)
      refine lv_iconst (v := 0) hx hb dL_bar_43 (by decide) ?_
      refine lv_istore (lv' := [(8, .int 0), (7, .int (fL_day L k s_)), (0, .int (nI k)), (1, .int (nI s_)), (2, .ref (la 0)), (3, .ref (la 3)), (4, .ref (la 6)), (5, .ref (la 7)), (6, .ref (la 11))]) hx hb dL_bar_44 hl (by decide) rfl (fun ls hl => ?_)
      refine lv_iconst (v := 0) hx hb dL_bar_46 (by decide) ?_
      refine lv_istore (lv' := [(9, .int 0), (8, .int 0), (7, .int (fL_day L k s_)), (0, .int (nI k)), (1, .int (nI s_)), (2, .ref (la 0)), (3, .ref (la 3)), (4, .ref (la 6)), (5, .ref (la 7)), (6, .ref (la 11))]) hx hb dL_bar_47 hl (by decide) rfl (fun ls hl => ?_)
      refine lv_iconst (v := 0) hx hb dL_bar_49 (by decide) ?_
      refine lv_istore (lv' := [(10, .int 0), (9, .int 0), (8, .int 0), (7, .int (fL_day L k s_)), (0, .int (nI k)), (1, .int (nI s_)), (2, .ref (la 0)), (3, .ref (la 3)), (4, .ref (la 6)), (5, .ref (la 7)), (6, .ref (la 11))]) hx hb dL_bar_50 hl (by decide) rfl (fun ls hl => ?_)
      refine w_loop (σ := Int32 × Int32) 8 52 (fun i52 z H locs ls => z = lL_bar_52 L k s_ i52 ∧ LI (fun _ => False) 12 D cy la s L H locs ∧ lv_has ls 13 [(10, .int (nI i52)), (9, .int z.1), (8, .int z.2), (7, .int (fL_day L k s_)), (0, .int (nI k)), (1, .int (nI s_)), (2, .ref (la 0)), (3, .ref (la 3)), (4, .ref (la 6)), (5, .ref (la 7)), (6, .ref (la 11))]) ?_ (0, 0) ⟨rfl, hI, lv_sub hl [0, 1, 2, 3, 4, 5, 6, 7, 8, 9, 10] rfl⟩
      intro i52 z H locs ls ⟨hz52, hI, hl⟩ hi52 ih52
      obtain ⟨x52_9, x52_8⟩ := z
      dsimp only at hI hl hz52
      refine lv_iload hx hb dL_bar_52 (lv_at hl 0 rfl) ?_
      refine lv_bipush (v := 8) hx hb dL_bar_54 (by decide) ?_
      refine lv_icmp_ge (tgt := 167) hx hb dL_bar_56 (by decide) (fun c_4 => ?_) (fun c_4 => ?_)
      · obtain rfl : i52 = 8 := w_exit (by decide : (8 : Int32) = nI 8) hi52 (by decide) c_4
        obtain rfl : x52_9 = (lL_bar_52 L k s_ 8).1 := by rw [← hz52]
        obtain rfl : x52_8 = (lL_bar_52 L k s_ 8).2 := by rw [← hz52]
        refine lv_iconst (v := 2) hx hb dL_bar_167 (by decide) ?_
        refine lv_iload hx hb dL_bar_168 (lv_at hl 2 rfl) ?_
        refine lv_imul hx hb dL_bar_170 ?_
        refine lv_aload_n hx hb dL_bar_171 rfl (lv_at hl 6 rfl) ?_
        refine lv_bipush (v := 8) hx hb dL_bar_172 (by decide) ?_
        refine lv_iload_n hx hb dL_bar_174 rfl (lv_at hl 5 rfl) ?_
        refine lv_imul hx hb dL_bar_175 ?_
        refine lv_iconst (v := 1) hx hb dL_bar_176 (by decide) ?_
        refine lv_iadd hx hb dL_bar_177 ?_
        refine lr_ld hC hI 0 (by decide) (show vp_in ((8 * (nI s_)) + 1) 64 from nx_in (nx_add (nx_mul (by decide : (8 : Int32) = nI 8) rfl) (by decide : (1 : Int32) = nI 1)) (by omega) (by decide)) (v := (L 0 (8 * s_ + 1))) (congrArg (L 0) (nx_ix (x := ((8 * (nI s_)) + 1)) (nx_add (nx_mul (by decide : (8 : Int32) = nI 8) rfl) (by decide : (1 : Int32) = nI 1)) (by omega))) dL_bar_178 ?_
        refine lr_callS (As := [.int (L 0 (8 * s_ + 1))]) (rest := [.int (2 * ((lL_bar_52 L k s_ 8).2))]) hC hI (qL_ones l (L 0 (8 * s_ + 1))) (va_cwS 1 hts gL_bar_L_ones rfl rfl rfl (by decide +kernel) ⟨Nat.le_of_ble_eq_true rfl, Nat.le_of_ble_eq_true rfl⟩) rfl hl.1 rfl (Nat.le_of_ble_eq_true rfl) dL_bar_179 ⟨Nat.le_of_ble_eq_true rfl, Nat.le_of_ble_eq_true rfl⟩ (fun H locs hk9 hz9 hI => ?_)
        refine lv_icmp_lt (tgt := 208) hx hb dL_bar_182 (by decide) (fun c_15 => ?_) (fun c_15 => ?_)
        · have hG := hG.trans (if_pos c_15)
          refine lv_iconst (v := 0) hx hb dL_bar_208 (by decide) ?_
          exact W.iret (v := 0) hx hb hr (fun t9 ht9 hW9 => ⟨⟨0, (), rfl, hG.symm, trivial⟩, hI.2.F ht9⟩) hI.2.2.2 dL_bar_209
        · have hG := hG.trans (if_neg c_15)
          refine lv_iload hx hb dL_bar_185 (lv_at hl 1 rfl) ?_
          refine lv_if_ne (tgt := 208) hx hb dL_bar_187 (by decide) (fun c_16 => ?_) (fun c_16 => ?_)
          · have hG := hG.trans (if_neg c_16)
            refine lv_iconst (v := 0) hx hb dL_bar_208 (by decide) ?_
            exact W.iret (v := 0) hx hb hr (fun t9 ht9 hW9 => ⟨⟨0, (), rfl, hG.symm, trivial⟩, hI.2.F ht9⟩) hI.2.2.2 dL_bar_209
          · have hG := hG.trans (if_pos c_16)
            refine lv_aload hx hb dL_bar_190 (lv_at hl 8 rfl) ?_
            refine lv_bipush (v := 8) hx hb dL_bar_192 (by decide) ?_
            refine lv_iload_n hx hb dL_bar_194 rfl (lv_at hl 4 rfl) ?_
            refine lv_imul hx hb dL_bar_195 ?_
            refine lv_iconst (v := 5) hx hb dL_bar_196 (by decide) ?_
            refine lv_iadd hx hb dL_bar_197 ?_
            refine lr_ld hC hI 6 (by decide) (show vp_in ((8 * (nI k)) + 5) 64 from nx_in (nx_add (nx_mul (by decide : (8 : Int32) = nI 8) rfl) (by decide : (5 : Int32) = nI 5)) (by omega) (by decide)) (v := (L 6 (8 * k + 5))) (congrArg (L 6) (nx_ix (x := ((8 * (nI k)) + 5)) (nx_add (nx_mul (by decide : (8 : Int32) = nI 8) rfl) (by decide : (5 : Int32) = nI 5)) (by omega))) dL_bar_198 ?_
            refine lv_iconst (v := 2) hx hb dL_bar_199 (by decide) ?_
            refine lv_irem hx hb dL_bar_200 (by decide) ?_
            refine lv_if_ne (tgt := 208) hx hb dL_bar_201 (by decide) (fun c_17 => ?_) (fun c_17 => ?_)
            · have hG := hG.trans (if_neg c_17)
              refine lv_iconst (v := 0) hx hb dL_bar_208 (by decide) ?_
              exact W.iret (v := 0) hx hb hr (fun t9 ht9 hW9 => ⟨⟨0, (), rfl, hG.symm, trivial⟩, hI.2.F ht9⟩) hI.2.2.2 dL_bar_209
            · have hG := hG.trans (if_pos c_17)
              refine lv_iconst (v := 3) hx hb dL_bar_204 (by decide) ?_
              refine lv_goto (tgt := 209) hx hb dL_bar_205 (by decide) ?_
              exact W.iret (v := 3) hx hb hr (fun t9 ht9 hW9 => ⟨⟨3, (), rfl, hG.symm, trivial⟩, hI.2.F ht9⟩) hI.2.2.2 dL_bar_209
      · have hlt52 : i52 < 8 := w_in (by decide : (8 : Int32) = nI 8) hi52 (by decide) c_4
        have hB52 : iL_bar_52 L k s_ i52 x52_9 x52_8 = iL_bar_52 L k s_ i52 x52_9 x52_8 := rfl
        refine lv_aload_n hx hb dL_bar_59 rfl (lv_at hl 6 rfl) ?_
        refine lv_bipush (v := 8) hx hb dL_bar_60 (by decide) ?_
        refine lv_iload_n hx hb dL_bar_62 rfl (lv_at hl 5 rfl) ?_
        refine lv_imul hx hb dL_bar_63 ?_
        refine lv_iconst (v := 1) hx hb dL_bar_64 (by decide) ?_
        refine lv_iadd hx hb dL_bar_65 ?_
        refine lr_ld hC hI 0 (by decide) (show vp_in ((8 * (nI s_)) + 1) 64 from nx_in (nx_add (nx_mul (by decide : (8 : Int32) = nI 8) rfl) (by decide : (1 : Int32) = nI 1)) (by omega) (by decide)) (v := (L 0 (8 * s_ + 1))) (congrArg (L 0) (nx_ix (x := ((8 * (nI s_)) + 1)) (nx_add (nx_mul (by decide : (8 : Int32) = nI 8) rfl) (by decide : (1 : Int32) = nI 1)) (by omega))) dL_bar_66 ?_
        refine lv_iload hx hb dL_bar_67 (lv_at hl 0 rfl) ?_
        refine lv_ishr hx hb dL_bar_69 ?_
        refine lv_iconst (v := 1) hx hb dL_bar_70 (by decide) ?_
        refine lv_iand hx hb dL_bar_71 ?_
        refine lv_iconst (v := 1) hx hb dL_bar_72 (by decide) ?_
        refine lv_icmp_ne (tgt := 80) hx hb dL_bar_73 (by decide) (fun c_8 => ?_) (fun c_8 => ?_)
        · have hB52 := hB52.trans (if_neg c_8)
          refine lv_iconst (v := 0) hx hb dL_bar_80 (by decide) ?_
          refine lv_istore (lv' := [(11, .int 0), (10, .int (nI i52)), (9, .int x52_9), (8, .int x52_8), (7, .int (fL_day L k s_)), (0, .int (nI k)), (1, .int (nI s_)), (2, .ref (la 0)), (3, .ref (la 3)), (4, .ref (la 6)), (5, .ref (la 7)), (6, .ref (la 11))]) hx hb dL_bar_81 hl (by decide) rfl (fun ls hl => ?_)
          refine lv_aload_n hx hb dL_bar_83 rfl (lv_at hl 8 rfl) ?_
          refine lv_iload hx hb dL_bar_84 (lv_at hl 1 rfl) ?_
          refine lr_ld hC hI 3 (by decide) (show vp_in (nI i52) 8 from nx_in rfl (by omega) (by decide)) (v := (L 3 i52)) (congrArg (L 3) (nx_ix (x := (nI i52)) rfl (by omega))) dL_bar_86 ?_
          refine lv_if_le (tgt := 105) hx hb dL_bar_87 (by decide) (fun c_9 => ?_) (fun c_9 => ?_)
          · have hB52 := hB52.trans (if_pos c_9)
            refine lv_iconst (v := 0) hx hb dL_bar_105 (by decide) ?_
            refine lv_istore (lv' := [(12, .int 0), (11, .int 0), (10, .int (nI i52)), (9, .int x52_9), (8, .int x52_8), (7, .int (fL_day L k s_)), (0, .int (nI k)), (1, .int (nI s_)), (2, .ref (la 0)), (3, .ref (la 3)), (4, .ref (la 6)), (5, .ref (la 7)), (6, .ref (la 11))]) hx hb dL_bar_106 hl (by decide) rfl (fun ls hl => ?_)
            refine lv_iload hx hb dL_bar_108 (lv_at hl 4 rfl) ?_
            refine lv_iload hx hb dL_bar_110 (lv_at hl 1 rfl) ?_
            refine lv_if_eq (tgt := 124) hx hb dL_bar_112 (by decide) (fun _ => ?_) (fun c => absurd (by decide : (0 : Int32) = 0) c)
            refine lv_iconst (v := 0) hx hb dL_bar_124 (by decide) ?_
            refine lv_iadd hx hb dL_bar_125 ?_
            refine lv_istore (lv' := [(8, .int (x52_8 + 0)), (12, .int 0), (11, .int 0), (10, .int (nI i52)), (9, .int x52_9), (7, .int (fL_day L k s_)), (0, .int (nI k)), (1, .int (nI s_)), (2, .ref (la 0)), (3, .ref (la 3)), (4, .ref (la 6)), (5, .ref (la 7)), (6, .ref (la 11))]) hx hb dL_bar_126 hl (by decide) rfl (fun ls hl => ?_)
            refine lv_iload hx hb dL_bar_128 (lv_at hl 4 rfl) ?_
            refine lv_iload hx hb dL_bar_130 (lv_at hl 2 rfl) ?_
            refine lv_if_eq (tgt := 157) hx hb dL_bar_132 (by decide) (fun _ => ?_) (fun c => absurd (by decide : (0 : Int32) = 0) c)
            refine lv_iconst (v := 0) hx hb dL_bar_157 (by decide) ?_
            refine lv_iadd hx hb dL_bar_158 ?_
            refine lv_istore (lv' := [(9, .int (x52_9 + 0)), (8, .int (x52_8 + 0)), (12, .int 0), (11, .int 0), (10, .int (nI i52)), (7, .int (fL_day L k s_)), (0, .int (nI k)), (1, .int (nI s_)), (2, .ref (la 0)), (3, .ref (la 3)), (4, .ref (la 6)), (5, .ref (la 7)), (6, .ref (la 11))]) hx hb dL_bar_159 hl (by decide) rfl (fun ls hl => ?_)
            refine lv_iinc (v := (nI (i52 + 1))) (lv' := [(10, .int (nI (i52 + 1))), (9, .int (x52_9 + 0)), (8, .int (x52_8 + 0)), (12, .int 0), (11, .int 0), (7, .int (fL_day L k s_)), (0, .int (nI k)), (1, .int (nI s_)), (2, .ref (la 0)), (3, .ref (la 3)), (4, .ref (la 6)), (5, .ref (la 7)), (6, .ref (la 11))]) hx hb dL_bar_161 hl (k := 4) rfl (nI_1 i52) (by decide) rfl (fun ls hl => ?_)
            refine lv_goto (tgt := 52) hx hb dL_bar_164 (by decide) ?_
            exact ih52 ((x52_9 + 0), (x52_8 + 0)) _ _ ls hlt52 ⟨(by show _ = iL_bar_52 L k s_ i52 (lL_bar_52 L k s_ i52).1 (lL_bar_52 L k s_ i52).2; rw [← hz52]; exact hB52.symm), hI, lv_sub hl [0, 1, 2, 5, 6, 7, 8, 9, 10, 11, 12] rfl⟩
          · have hB52 := hB52.trans (if_neg c_9)
            refine lv_aload_n hx hb dL_bar_90 rfl (lv_at hl 8 rfl) ?_
            refine lv_iload hx hb dL_bar_91 (lv_at hl 1 rfl) ?_
            refine lr_ld hC hI 3 (by decide) (show vp_in (nI i52) 8 from nx_in rfl (by omega) (by decide)) (v := (L 3 i52)) (congrArg (L 3) (nx_ix (x := (nI i52)) rfl (by omega))) dL_bar_93 ?_
            refine lv_iconst (v := 1) hx hb dL_bar_94 (by decide) ?_
            refine lv_isub hx hb dL_bar_95 ?_
            refine lv_iload hx hb dL_bar_96 (lv_at hl 4 rfl) ?_
            refine lv_icmp_gt (tgt := 105) hx hb dL_bar_98 (by decide) (fun c_10 => ?_) (fun c_10 => ?_)
            · have hB52 := hB52.trans (if_pos c_10)
              refine lv_iconst (v := 0) hx hb dL_bar_105 (by decide) ?_
              refine lv_istore (lv' := [(12, .int 0), (11, .int 0), (10, .int (nI i52)), (9, .int x52_9), (8, .int x52_8), (7, .int (fL_day L k s_)), (0, .int (nI k)), (1, .int (nI s_)), (2, .ref (la 0)), (3, .ref (la 3)), (4, .ref (la 6)), (5, .ref (la 7)), (6, .ref (la 11))]) hx hb dL_bar_106 hl (by decide) rfl (fun ls hl => ?_)
              refine lv_iload hx hb dL_bar_108 (lv_at hl 4 rfl) ?_
              refine lv_iload hx hb dL_bar_110 (lv_at hl 1 rfl) ?_
              refine lv_if_eq (tgt := 124) hx hb dL_bar_112 (by decide) (fun _ => ?_) (fun c => absurd (by decide : (0 : Int32) = 0) c)
              refine lv_iconst (v := 0) hx hb dL_bar_124 (by decide) ?_
              refine lv_iadd hx hb dL_bar_125 ?_
              refine lv_istore (lv' := [(8, .int (x52_8 + 0)), (12, .int 0), (11, .int 0), (10, .int (nI i52)), (9, .int x52_9), (7, .int (fL_day L k s_)), (0, .int (nI k)), (1, .int (nI s_)), (2, .ref (la 0)), (3, .ref (la 3)), (4, .ref (la 6)), (5, .ref (la 7)), (6, .ref (la 11))]) hx hb dL_bar_126 hl (by decide) rfl (fun ls hl => ?_)
              refine lv_iload hx hb dL_bar_128 (lv_at hl 4 rfl) ?_
              refine lv_iload hx hb dL_bar_130 (lv_at hl 2 rfl) ?_
              refine lv_if_eq (tgt := 157) hx hb dL_bar_132 (by decide) (fun _ => ?_) (fun c => absurd (by decide : (0 : Int32) = 0) c)
              refine lv_iconst (v := 0) hx hb dL_bar_157 (by decide) ?_
              refine lv_iadd hx hb dL_bar_158 ?_
              refine lv_istore (lv' := [(9, .int (x52_9 + 0)), (8, .int (x52_8 + 0)), (12, .int 0), (11, .int 0), (10, .int (nI i52)), (7, .int (fL_day L k s_)), (0, .int (nI k)), (1, .int (nI s_)), (2, .ref (la 0)), (3, .ref (la 3)), (4, .ref (la 6)), (5, .ref (la 7)), (6, .ref (la 11))]) hx hb dL_bar_159 hl (by decide) rfl (fun ls hl => ?_)
              refine lv_iinc (v := (nI (i52 + 1))) (lv' := [(10, .int (nI (i52 + 1))), (9, .int (x52_9 + 0)), (8, .int (x52_8 + 0)), (12, .int 0), (11, .int 0), (7, .int (fL_day L k s_)), (0, .int (nI k)), (1, .int (nI s_)), (2, .ref (la 0)), (3, .ref (la 3)), (4, .ref (la 6)), (5, .ref (la 7)), (6, .ref (la 11))]) hx hb dL_bar_161 hl (k := 4) rfl (nI_1 i52) (by decide) rfl (fun ls hl => ?_)
              refine lv_goto (tgt := 52) hx hb dL_bar_164 (by decide) ?_
              exact ih52 ((x52_9 + 0), (x52_8 + 0)) _ _ ls hlt52 ⟨(by show _ = iL_bar_52 L k s_ i52 (lL_bar_52 L k s_ i52).1 (lL_bar_52 L k s_ i52).2; rw [← hz52]; exact hB52.symm), hI, lv_sub hl [0, 1, 2, 5, 6, 7, 8, 9, 10, 11, 12] rfl⟩
            · have hB52 := hB52.trans (if_neg c_10)
              refine lv_iconst (v := 1) hx hb dL_bar_101 (by decide) ?_
              refine lv_goto (tgt := 106) hx hb dL_bar_102 (by decide) ?_
              refine lv_istore (lv' := [(12, .int 1), (11, .int 0), (10, .int (nI i52)), (9, .int x52_9), (8, .int x52_8), (7, .int (fL_day L k s_)), (0, .int (nI k)), (1, .int (nI s_)), (2, .ref (la 0)), (3, .ref (la 3)), (4, .ref (la 6)), (5, .ref (la 7)), (6, .ref (la 11))]) hx hb dL_bar_106 hl (by decide) rfl (fun ls hl => ?_)
              refine lv_iload hx hb dL_bar_108 (lv_at hl 4 rfl) ?_
              refine lv_iload hx hb dL_bar_110 (lv_at hl 1 rfl) ?_
              refine lv_if_eq (tgt := 124) hx hb dL_bar_112 (by decide) (fun _ => ?_) (fun c => absurd (by decide : (0 : Int32) = 0) c)
              refine lv_iconst (v := 0) hx hb dL_bar_124 (by decide) ?_
              refine lv_iadd hx hb dL_bar_125 ?_
              refine lv_istore (lv' := [(8, .int (x52_8 + 0)), (12, .int 1), (11, .int 0), (10, .int (nI i52)), (9, .int x52_9), (7, .int (fL_day L k s_)), (0, .int (nI k)), (1, .int (nI s_)), (2, .ref (la 0)), (3, .ref (la 3)), (4, .ref (la 6)), (5, .ref (la 7)), (6, .ref (la 11))]) hx hb dL_bar_126 hl (by decide) rfl (fun ls hl => ?_)
              refine lv_iload hx hb dL_bar_128 (lv_at hl 4 rfl) ?_
              refine lv_iload hx hb dL_bar_130 (lv_at hl 2 rfl) ?_
              refine lv_if_eq (tgt := 157) hx hb dL_bar_132 (by decide) (fun _ => ?_) (fun c => absurd (by decide : (0 : Int32) = 0) c)
              refine lv_iconst (v := 0) hx hb dL_bar_157 (by decide) ?_
              refine lv_iadd hx hb dL_bar_158 ?_
              refine lv_istore (lv' := [(9, .int (x52_9 + 0)), (8, .int (x52_8 + 0)), (12, .int 1), (11, .int 0), (10, .int (nI i52)), (7, .int (fL_day L k s_)), (0, .int (nI k)), (1, .int (nI s_)), (2, .ref (la 0)), (3, .ref (la 3)), (4, .ref (la 6)), (5, .ref (la 7)), (6, .ref (la 11))]) hx hb dL_bar_159 hl (by decide) rfl (fun ls hl => ?_)
              refine lv_iinc (v := (nI (i52 + 1))) (lv' := [(10, .int (nI (i52 + 1))), (9, .int (x52_9 + 0)), (8, .int (x52_8 + 0)), (12, .int 1), (11, .int 0), (7, .int (fL_day L k s_)), (0, .int (nI k)), (1, .int (nI s_)), (2, .ref (la 0)), (3, .ref (la 3)), (4, .ref (la 6)), (5, .ref (la 7)), (6, .ref (la 11))]) hx hb dL_bar_161 hl (k := 4) rfl (nI_1 i52) (by decide) rfl (fun ls hl => ?_)
              refine lv_goto (tgt := 52) hx hb dL_bar_164 (by decide) ?_
              exact ih52 ((x52_9 + 0), (x52_8 + 0)) _ _ ls hlt52 ⟨(by show _ = iL_bar_52 L k s_ i52 (lL_bar_52 L k s_ i52).1 (lL_bar_52 L k s_ i52).2; rw [← hz52]; exact hB52.symm), hI, lv_sub hl [0, 1, 2, 5, 6, 7, 8, 9, 10, 11, 12] rfl⟩
        · have hB52 := hB52.trans (if_pos c_8)
          refine lv_iconst (v := 1) hx hb dL_bar_76 (by decide) ?_
          refine lv_goto (tgt := 81) hx hb dL_bar_77 (by decide) ?_
          refine lv_istore (lv' := [(11, .int 1), (10, .int (nI i52)), (9, .int x52_9), (8, .int x52_8), (7, .int (fL_day L k s_)), (0, .int (nI k)), (1, .int (nI s_)), (2, .ref (la 0)), (3, .ref (la 3)), (4, .ref (la 6)), (5, .ref (la 7)), (6, .ref (la 11))]) hx hb dL_bar_81 hl (by decide) rfl (fun ls hl => ?_)
          refine lv_aload_n hx hb dL_bar_83 rfl (lv_at hl 8 rfl) ?_
          refine lv_iload hx hb dL_bar_84 (lv_at hl 1 rfl) ?_
          refine lr_ld hC hI 3 (by decide) (show vp_in (nI i52) 8 from nx_in rfl (by omega) (by decide)) (v := (L 3 i52)) (congrArg (L 3) (nx_ix (x := (nI i52)) rfl (by omega))) dL_bar_86 ?_
          refine lv_if_le (tgt := 105) hx hb dL_bar_87 (by decide) (fun c_11 => ?_) (fun c_11 => ?_)
          · have hB52 := hB52.trans (if_pos c_11)
            refine lv_iconst (v := 0) hx hb dL_bar_105 (by decide) ?_
            refine lv_istore (lv' := [(12, .int 0), (11, .int 1), (10, .int (nI i52)), (9, .int x52_9), (8, .int x52_8), (7, .int (fL_day L k s_)), (0, .int (nI k)), (1, .int (nI s_)), (2, .ref (la 0)), (3, .ref (la 3)), (4, .ref (la 6)), (5, .ref (la 7)), (6, .ref (la 11))]) hx hb dL_bar_106 hl (by decide) rfl (fun ls hl => ?_)
            refine lv_iload hx hb dL_bar_108 (lv_at hl 4 rfl) ?_
            refine lv_iload hx hb dL_bar_110 (lv_at hl 1 rfl) ?_
            refine lv_if_eq (tgt := 124) hx hb dL_bar_112 (by decide) (fun c => absurd c (by decide : ¬ (1 : Int32) = 0)) (fun _ => ?_)
            refine lv_iload hx hb dL_bar_115 (lv_at hl 0 rfl) ?_
            refine lv_if_eq (tgt := 124) hx hb dL_bar_117 (by decide) (fun _ => ?_) (fun c => absurd (by decide : (0 : Int32) = 0) c)
            refine lv_iconst (v := 0) hx hb dL_bar_124 (by decide) ?_
            refine lv_iadd hx hb dL_bar_125 ?_
            refine lv_istore (lv' := [(8, .int (x52_8 + 0)), (12, .int 0), (11, .int 1), (10, .int (nI i52)), (9, .int x52_9), (7, .int (fL_day L k s_)), (0, .int (nI k)), (1, .int (nI s_)), (2, .ref (la 0)), (3, .ref (la 3)), (4, .ref (la 6)), (5, .ref (la 7)), (6, .ref (la 11))]) hx hb dL_bar_126 hl (by decide) rfl (fun ls hl => ?_)
            refine lv_iload hx hb dL_bar_128 (lv_at hl 4 rfl) ?_
            refine lv_iload hx hb dL_bar_130 (lv_at hl 2 rfl) ?_
            refine lv_if_eq (tgt := 157) hx hb dL_bar_132 (by decide) (fun c => absurd c (by decide : ¬ (1 : Int32) = 0)) (fun _ => ?_)
            refine lv_iload hx hb dL_bar_135 (lv_at hl 1 rfl) ?_
            refine lv_if_ne (tgt := 157) hx hb dL_bar_137 (by decide) (fun c => absurd (by decide : (0 : Int32) = 0) c) (fun _ => ?_)
            refine lv_aload hx hb dL_bar_140 (lv_at hl 11 rfl) ?_
            refine lv_bipush (v := 8) hx hb dL_bar_142 (by decide) ?_
            refine lv_iload_n hx hb dL_bar_144 rfl (lv_at hl 6 rfl) ?_
            refine lv_imul hx hb dL_bar_145 ?_
            refine lv_iload hx hb dL_bar_146 (lv_at hl 3 rfl) ?_
            refine lv_iadd hx hb dL_bar_148 ?_
            refine lr_ld hC hI 7 (by decide) (show vp_in ((8 * (nI k)) + (nI i52)) 64 from nx_in (nx_add (nx_mul (by decide : (8 : Int32) = nI 8) rfl) rfl) (by omega) (by decide)) (v := (L 7 (8 * k + i52))) (congrArg (L 7) (nx_ix (x := ((8 * (nI k)) + (nI i52))) (nx_add (nx_mul (by decide : (8 : Int32) = nI 8) rfl) rfl) (by omega))) dL_bar_149 ?_
            refine lv_if_le (tgt := 157) hx hb dL_bar_150 (by decide) (fun c_12 => ?_) (fun c_12 => ?_)
            · have hB52 := hB52.trans (if_pos c_12)
              refine lv_iconst (v := 0) hx hb dL_bar_157 (by decide) ?_
              refine lv_iadd hx hb dL_bar_158 ?_
              refine lv_istore (lv' := [(9, .int (x52_9 + 0)), (8, .int (x52_8 + 0)), (12, .int 0), (11, .int 1), (10, .int (nI i52)), (7, .int (fL_day L k s_)), (0, .int (nI k)), (1, .int (nI s_)), (2, .ref (la 0)), (3, .ref (la 3)), (4, .ref (la 6)), (5, .ref (la 7)), (6, .ref (la 11))]) hx hb dL_bar_159 hl (by decide) rfl (fun ls hl => ?_)
              refine lv_iinc (v := (nI (i52 + 1))) (lv' := [(10, .int (nI (i52 + 1))), (9, .int (x52_9 + 0)), (8, .int (x52_8 + 0)), (12, .int 0), (11, .int 1), (7, .int (fL_day L k s_)), (0, .int (nI k)), (1, .int (nI s_)), (2, .ref (la 0)), (3, .ref (la 3)), (4, .ref (la 6)), (5, .ref (la 7)), (6, .ref (la 11))]) hx hb dL_bar_161 hl (k := 4) rfl (nI_1 i52) (by decide) rfl (fun ls hl => ?_)
              refine lv_goto (tgt := 52) hx hb dL_bar_164 (by decide) ?_
              exact ih52 ((x52_9 + 0), (x52_8 + 0)) _ _ ls hlt52 ⟨(by show _ = iL_bar_52 L k s_ i52 (lL_bar_52 L k s_ i52).1 (lL_bar_52 L k s_ i52).2; rw [← hz52]; exact hB52.symm), hI, lv_sub hl [0, 1, 2, 5, 6, 7, 8, 9, 10, 11, 12] rfl⟩
            · have hB52 := hB52.trans (if_neg c_12)
              refine lv_iconst (v := 1) hx hb dL_bar_153 (by decide) ?_
              refine lv_goto (tgt := 158) hx hb dL_bar_154 (by decide) ?_
              refine lv_iadd hx hb dL_bar_158 ?_
              refine lv_istore (lv' := [(9, .int (x52_9 + 1)), (8, .int (x52_8 + 0)), (12, .int 0), (11, .int 1), (10, .int (nI i52)), (7, .int (fL_day L k s_)), (0, .int (nI k)), (1, .int (nI s_)), (2, .ref (la 0)), (3, .ref (la 3)), (4, .ref (la 6)), (5, .ref (la 7)), (6, .ref (la 11))]) hx hb dL_bar_159 hl (by decide) rfl (fun ls hl => ?_)
              refine lv_iinc (v := (nI (i52 + 1))) (lv' := [(10, .int (nI (i52 + 1))), (9, .int (x52_9 + 1)), (8, .int (x52_8 + 0)), (12, .int 0), (11, .int 1), (7, .int (fL_day L k s_)), (0, .int (nI k)), (1, .int (nI s_)), (2, .ref (la 0)), (3, .ref (la 3)), (4, .ref (la 6)), (5, .ref (la 7)), (6, .ref (la 11))]) hx hb dL_bar_161 hl (k := 4) rfl (nI_1 i52) (by decide) rfl (fun ls hl => ?_)
              refine lv_goto (tgt := 52) hx hb dL_bar_164 (by decide) ?_
              exact ih52 ((x52_9 + 1), (x52_8 + 0)) _ _ ls hlt52 ⟨(by show _ = iL_bar_52 L k s_ i52 (lL_bar_52 L k s_ i52).1 (lL_bar_52 L k s_ i52).2; rw [← hz52]; exact hB52.symm), hI, lv_sub hl [0, 1, 2, 5, 6, 7, 8, 9, 10, 11, 12] rfl⟩
          · have hB52 := hB52.trans (if_neg c_11)
            refine lv_aload_n hx hb dL_bar_90 rfl (lv_at hl 8 rfl) ?_
            refine lv_iload hx hb dL_bar_91 (lv_at hl 1 rfl) ?_
            refine lr_ld hC hI 3 (by decide) (show vp_in (nI i52) 8 from nx_in rfl (by omega) (by decide)) (v := (L 3 i52)) (congrArg (L 3) (nx_ix (x := (nI i52)) rfl (by omega))) dL_bar_93 ?_
            refine lv_iconst (v := 1) hx hb dL_bar_94 (by decide) ?_
            refine lv_isub hx hb dL_bar_95 ?_
            refine lv_iload hx hb dL_bar_96 (lv_at hl 4 rfl) ?_
            refine lv_icmp_gt (tgt := 105) hx hb dL_bar_98 (by decide) (fun c_13 => ?_) (fun c_13 => ?_)
            · have hB52 := hB52.trans (if_pos c_13)
              refine lv_iconst (v := 0) hx hb dL_bar_105 (by decide) ?_
              refine lv_istore (lv' := [(12, .int 0), (11, .int 1), (10, .int (nI i52)), (9, .int x52_9), (8, .int x52_8), (7, .int (fL_day L k s_)), (0, .int (nI k)), (1, .int (nI s_)), (2, .ref (la 0)), (3, .ref (la 3)), (4, .ref (la 6)), (5, .ref (la 7)), (6, .ref (la 11))]) hx hb dL_bar_106 hl (by decide) rfl (fun ls hl => ?_)
              refine lv_iload hx hb dL_bar_108 (lv_at hl 4 rfl) ?_
              refine lv_iload hx hb dL_bar_110 (lv_at hl 1 rfl) ?_
              refine lv_if_eq (tgt := 124) hx hb dL_bar_112 (by decide) (fun c => absurd c (by decide : ¬ (1 : Int32) = 0)) (fun _ => ?_)
              refine lv_iload hx hb dL_bar_115 (lv_at hl 0 rfl) ?_
              refine lv_if_eq (tgt := 124) hx hb dL_bar_117 (by decide) (fun _ => ?_) (fun c => absurd (by decide : (0 : Int32) = 0) c)
              refine lv_iconst (v := 0) hx hb dL_bar_124 (by decide) ?_
              refine lv_iadd hx hb dL_bar_125 ?_
              refine lv_istore (lv' := [(8, .int (x52_8 + 0)), (12, .int 0), (11, .int 1), (10, .int (nI i52)), (9, .int x52_9), (7, .int (fL_day L k s_)), (0, .int (nI k)), (1, .int (nI s_)), (2, .ref (la 0)), (3, .ref (la 3)), (4, .ref (la 6)), (5, .ref (la 7)), (6, .ref (la 11))]) hx hb dL_bar_126 hl (by decide) rfl (fun ls hl => ?_)
              refine lv_iload hx hb dL_bar_128 (lv_at hl 4 rfl) ?_
              refine lv_iload hx hb dL_bar_130 (lv_at hl 2 rfl) ?_
              refine lv_if_eq (tgt := 157) hx hb dL_bar_132 (by decide) (fun c => absurd c (by decide : ¬ (1 : Int32) = 0)) (fun _ => ?_)
              refine lv_iload hx hb dL_bar_135 (lv_at hl 1 rfl) ?_
              refine lv_if_ne (tgt := 157) hx hb dL_bar_137 (by decide) (fun c => absurd (by decide : (0 : Int32) = 0) c) (fun _ => ?_)
              refine lv_aload hx hb dL_bar_140 (lv_at hl 11 rfl) ?_
              refine lv_bipush (v := 8) hx hb dL_bar_142 (by decide) ?_
              refine lv_iload_n hx hb dL_bar_144 rfl (lv_at hl 6 rfl) ?_
              refine lv_imul hx hb dL_bar_145 ?_
              refine lv_iload hx hb dL_bar_146 (lv_at hl 3 rfl) ?_
              refine lv_iadd hx hb dL_bar_148 ?_
              refine lr_ld hC hI 7 (by decide) (show vp_in ((8 * (nI k)) + (nI i52)) 64 from nx_in (nx_add (nx_mul (by decide : (8 : Int32) = nI 8) rfl) rfl) (by omega) (by decide)) (v := (L 7 (8 * k + i52))) (congrArg (L 7) (nx_ix (x := ((8 * (nI k)) + (nI i52))) (nx_add (nx_mul (by decide : (8 : Int32) = nI 8) rfl) rfl) (by omega))) dL_bar_149 ?_
              refine lv_if_le (tgt := 157) hx hb dL_bar_150 (by decide) (fun c_14 => ?_) (fun c_14 => ?_)
              · have hB52 := hB52.trans (if_pos c_14)
                refine lv_iconst (v := 0) hx hb dL_bar_157 (by decide) ?_
                refine lv_iadd hx hb dL_bar_158 ?_
                refine lv_istore (lv' := [(9, .int (x52_9 + 0)), (8, .int (x52_8 + 0)), (12, .int 0), (11, .int 1), (10, .int (nI i52)), (7, .int (fL_day L k s_)), (0, .int (nI k)), (1, .int (nI s_)), (2, .ref (la 0)), (3, .ref (la 3)), (4, .ref (la 6)), (5, .ref (la 7)), (6, .ref (la 11))]) hx hb dL_bar_159 hl (by decide) rfl (fun ls hl => ?_)
                refine lv_iinc (v := (nI (i52 + 1))) (lv' := [(10, .int (nI (i52 + 1))), (9, .int (x52_9 + 0)), (8, .int (x52_8 + 0)), (12, .int 0), (11, .int 1), (7, .int (fL_day L k s_)), (0, .int (nI k)), (1, .int (nI s_)), (2, .ref (la 0)), (3, .ref (la 3)), (4, .ref (la 6)), (5, .ref (la 7)), (6, .ref (la 11))]) hx hb dL_bar_161 hl (k := 4) rfl (nI_1 i52) (by decide) rfl (fun ls hl => ?_)
                refine lv_goto (tgt := 52) hx hb dL_bar_164 (by decide) ?_
                exact ih52 ((x52_9 + 0), (x52_8 + 0)) _ _ ls hlt52 ⟨(by show _ = iL_bar_52 L k s_ i52 (lL_bar_52 L k s_ i52).1 (lL_bar_52 L k s_ i52).2; rw [← hz52]; exact hB52.symm), hI, lv_sub hl [0, 1, 2, 5, 6, 7, 8, 9, 10, 11, 12] rfl⟩
              · have hB52 := hB52.trans (if_neg c_14)
                refine lv_iconst (v := 1) hx hb dL_bar_153 (by decide) ?_
                refine lv_goto (tgt := 158) hx hb dL_bar_154 (by decide) ?_
                refine lv_iadd hx hb dL_bar_158 ?_
                refine lv_istore (lv' := [(9, .int (x52_9 + 1)), (8, .int (x52_8 + 0)), (12, .int 0), (11, .int 1), (10, .int (nI i52)), (7, .int (fL_day L k s_)), (0, .int (nI k)), (1, .int (nI s_)), (2, .ref (la 0)), (3, .ref (la 3)), (4, .ref (la 6)), (5, .ref (la 7)), (6, .ref (la 11))]) hx hb dL_bar_159 hl (by decide) rfl (fun ls hl => ?_)
                refine lv_iinc (v := (nI (i52 + 1))) (lv' := [(10, .int (nI (i52 + 1))), (9, .int (x52_9 + 1)), (8, .int (x52_8 + 0)), (12, .int 0), (11, .int 1), (7, .int (fL_day L k s_)), (0, .int (nI k)), (1, .int (nI s_)), (2, .ref (la 0)), (3, .ref (la 3)), (4, .ref (la 6)), (5, .ref (la 7)), (6, .ref (la 11))]) hx hb dL_bar_161 hl (k := 4) rfl (nI_1 i52) (by decide) rfl (fun ls hl => ?_)
                refine lv_goto (tgt := 52) hx hb dL_bar_164 (by decide) ?_
                exact ih52 ((x52_9 + 1), (x52_8 + 0)) _ _ ls hlt52 ⟨(by show _ = iL_bar_52 L k s_ i52 (lL_bar_52 L k s_ i52).1 (lL_bar_52 L k s_ i52).2; rw [← hz52]; exact hB52.symm), hI, lv_sub hl [0, 1, 2, 5, 6, 7, 8, 9, 10, 11, 12] rfl⟩
            · have hB52 := hB52.trans (if_neg c_13)
              refine lv_iconst (v := 1) hx hb dL_bar_101 (by decide) ?_
              refine lv_goto (tgt := 106) hx hb dL_bar_102 (by decide) ?_
              refine lv_istore (lv' := [(12, .int 1), (11, .int 1), (10, .int (nI i52)), (9, .int x52_9), (8, .int x52_8), (7, .int (fL_day L k s_)), (0, .int (nI k)), (1, .int (nI s_)), (2, .ref (la 0)), (3, .ref (la 3)), (4, .ref (la 6)), (5, .ref (la 7)), (6, .ref (la 11))]) hx hb dL_bar_106 hl (by decide) rfl (fun ls hl => ?_)
              refine lv_iload hx hb dL_bar_108 (lv_at hl 4 rfl) ?_
              refine lv_iload hx hb dL_bar_110 (lv_at hl 1 rfl) ?_
              refine lv_if_eq (tgt := 124) hx hb dL_bar_112 (by decide) (fun c => absurd c (by decide : ¬ (1 : Int32) = 0)) (fun _ => ?_)
              refine lv_iload hx hb dL_bar_115 (lv_at hl 0 rfl) ?_
              refine lv_if_eq (tgt := 124) hx hb dL_bar_117 (by decide) (fun c => absurd c (by decide : ¬ (1 : Int32) = 0)) (fun _ => ?_)
              refine lv_iconst (v := 1) hx hb dL_bar_120 (by decide) ?_
              refine lv_goto (tgt := 125) hx hb dL_bar_121 (by decide) ?_
              refine lv_iadd hx hb dL_bar_125 ?_
              refine lv_istore (lv' := [(8, .int (x52_8 + 1)), (12, .int 1), (11, .int 1), (10, .int (nI i52)), (9, .int x52_9), (7, .int (fL_day L k s_)), (0, .int (nI k)), (1, .int (nI s_)), (2, .ref (la 0)), (3, .ref (la 3)), (4, .ref (la 6)), (5, .ref (la 7)), (6, .ref (la 11))]) hx hb dL_bar_126 hl (by decide) rfl (fun ls hl => ?_)
              refine lv_iload hx hb dL_bar_128 (lv_at hl 4 rfl) ?_
              refine lv_iload hx hb dL_bar_130 (lv_at hl 2 rfl) ?_
              refine lv_if_eq (tgt := 157) hx hb dL_bar_132 (by decide) (fun c => absurd c (by decide : ¬ (1 : Int32) = 0)) (fun _ => ?_)
              refine lv_iload hx hb dL_bar_135 (lv_at hl 1 rfl) ?_
              refine lv_if_ne (tgt := 157) hx hb dL_bar_137 (by decide) (fun _ => ?_) (fun c => absurd c (by decide : ¬ (1 : Int32) = 0))
              refine lv_iconst (v := 0) hx hb dL_bar_157 (by decide) ?_
              refine lv_iadd hx hb dL_bar_158 ?_
              refine lv_istore (lv' := [(9, .int (x52_9 + 0)), (8, .int (x52_8 + 1)), (12, .int 1), (11, .int 1), (10, .int (nI i52)), (7, .int (fL_day L k s_)), (0, .int (nI k)), (1, .int (nI s_)), (2, .ref (la 0)), (3, .ref (la 3)), (4, .ref (la 6)), (5, .ref (la 7)), (6, .ref (la 11))]) hx hb dL_bar_159 hl (by decide) rfl (fun ls hl => ?_)
              refine lv_iinc (v := (nI (i52 + 1))) (lv' := [(10, .int (nI (i52 + 1))), (9, .int (x52_9 + 0)), (8, .int (x52_8 + 1)), (12, .int 1), (11, .int 1), (7, .int (fL_day L k s_)), (0, .int (nI k)), (1, .int (nI s_)), (2, .ref (la 0)), (3, .ref (la 3)), (4, .ref (la 6)), (5, .ref (la 7)), (6, .ref (la 11))]) hx hb dL_bar_161 hl (k := 4) rfl (nI_1 i52) (by decide) rfl (fun ls hl => ?_)
              refine lv_goto (tgt := 52) hx hb dL_bar_164 (by decide) ?_
              exact ih52 ((x52_9 + 0), (x52_8 + 1)) _ _ ls hlt52 ⟨(by show _ = iL_bar_52 L k s_ i52 (lL_bar_52 L k s_ i52).1 (lL_bar_52 L k s_ i52).2; rw [← hz52]; exact hB52.symm), hI, lv_sub hl [0, 1, 2, 5, 6, 7, 8, 9, 10, 11, 12] rfl⟩
    · have hG := hG.trans (if_neg c_3)
      refine lv_iload hx hb dL_bar_32 (lv_at hl 0 rfl) ?_
      refine lv_if_ge (tgt := 41) hx hb dL_bar_34 (by decide) (fun c_18 => ?_) (fun c_18 => ?_)
      · have hG := hG.trans (if_pos c_18)
        refine lv_iconst (v := 2) hx hb dL_bar_41 (by decide) ?_
        exact W.iret (v := 2) hx hb hr (fun t9 ht9 hW9 => ⟨⟨2, (), rfl, hG.symm, trivial⟩, hI.2.F ht9⟩) hI.2.2.2 dL_bar_42
      · have hG := hG.trans (if_neg c_18)
        refine lv_iconst (v := 1) hx hb dL_bar_37 (by decide) ?_
        refine lv_goto (tgt := 42) hx hb dL_bar_38 (by decide) ?_
        exact W.iret (v := 1) hx hb hr (fun t9 ht9 hW9 => ⟨⟨1, (), rfl, hG.symm, trivial⟩, hI.2.F ht9⟩) hI.2.2.2 dL_bar_42
