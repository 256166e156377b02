/-! the law's readers, walked -/
set_option maxHeartbeats 4000000 in
set_option maxRecDepth 100000 in
theorem qL_counts (l : Launch) (D : va_G) (cy : Nat → ClassId) (la : Nat → Nat) (L : St) (hV : LV L) (c_ : Nat) (hc_ : c_ < 40) {x_c_ : Int32} (ec_ : x_c_ = nI c_) (k : Nat) (hk : k < 8) {x_k : Int32} (ek : x_k = nI k) : LPure l D cy la L yL_counts wsL_counts ({ frames := 4, cells := 0, slots := 0, locals := 111 } : Room) 0 0 [.int x_c_, .int x_k, .ref (la 0), .ref (la 1), .ref (la 2), .ref (la 3), .ref (la 6), .ref (la 7), .ref (la 11)] (fL_counts L c_ k) := by
  subst ec_
  subst ek
  refine Met.ofW (cc := cL_counts) (maxL := 11) (ret := (some .boolean)) (by decide) rfl ?_
  intro p e s m args below meth c s₁ B hml hv
  obtain ⟨rfl, hM, hK⟩ := hv
  have hx := B.exec
  have hb := B.bytes
  have hr := B.returns
  have hts := atoms_spec (ws := wsL_counts) B.pre
  have hown : s.vm.findClass RL = some m.cls := findClass_of_methodNamed B.named
  have hlocks := B.notSynchronized
  have hC : CC p s m _ c cL_counts 11 RL D cy wsL_counts := ⟨⟨hx, hb, hml, hown, hts⟩, hK⟩
  have hI : LI (fun _ => False) 12 D cy la s L s.heap [] := ⟨hM, va_S.rf⟩
  have hb1 := hV.b1
  have hb2 := hV.b2
  have hb3 := hV.b3
  have hb4 := hV.b4
  have k_76 := hts (.constant RL 76 (131072)) (List.mem_cons_of_mem _ (List.mem_of_getElem? (i := 0) rfl))
  have hl := lv_entry ([.int (nI c_), .int (nI k), .ref (la 0), .ref (la 1), .ref (la 2), .ref (la 3), .ref (la 6), .ref (la 7), .ref (la 11)]) (n := 11) (Nat.le_of_ble_eq_true rfl)
  rw [lg_entry_eq]
  generalize (lg_sl ([.int (nI c_), .int (nI k), .ref (la 0), .ref (la 1), .ref (la 2), .ref (la 3), .ref (la 6), .ref (la 7), .ref (la 11)]) ++ List.replicate (11 - (lg_sl ([.int (nI c_), .int (nI k), .ref (la 0), .ref (la 1), .ref (la 2), .ref (la 3), .ref (la 6), .ref (la 7), .ref (la 11)])).length) Slot.unset).toArray = ls at hl ⊢
  have hl : lv_has ls 11 [(0, .int (nI c_)), (1, .int (nI k)), (2, .ref (la 0)), (3, .ref (la 1)), (4, .ref (la 2)), (5, .ref (la 3)), (6, .ref (la 6)), (7, .ref (la 7)), (8, .ref (la 11))] := hl
  have hG : fL_counts L c_ k = fL_counts L c_ k := rfl
  refine lv_aload_n hx hb dL_counts_0 rfl (lv_at hl 3 rfl) ?_
  refine lv_iload_n hx hb dL_counts_1 rfl (lv_at hl 0 rfl) ?_
  refine lr_ld hC hI 1 (by decide) (show vp_in (nI c_) 40 from nx_in rfl (by omega) (by decide)) (v := (L 1 c_)) (congrArg (L 1) (nx_ix (x := (nI c_)) rfl (by omega))) dL_counts_2 ?_
  refine lv_bipush (v := 8) hx hb dL_counts_3 (by decide) ?_
  refine lv_irem hx hb dL_counts_5 (by decide) ?_
  refine lv_istore (lv' := [(9, .int ((L 1 c_) - (L 1 c_) / 8 * 8)), (0, .int (nI c_)), (1, .int (nI k)), (2, .ref (la 0)), (3, .ref (la 1)), (4, .ref (la 2)), (5, .ref (la 3)), (6, .ref (la 6)), (7, .ref (la 7)), (8, .ref (la 11))]) hx hb dL_counts_6 hl (by decide) rfl (fun ls hl => ?_)
  refine lv_aload_n hx hb dL_counts_8 rfl (lv_at hl 4 rfl) ?_
  refine lv_iload_n hx hb dL_counts_9 rfl (lv_at hl 1 rfl) ?_
  refine lr_ld hC hI 1 (by decide) (show vp_in (nI c_) 40 from nx_in rfl (by omega) (by decide)) (v := (L 1 c_)) (congrArg (L 1) (nx_ix (x := (nI c_)) rfl (by omega))) dL_counts_10 ?_
  refine lv_ldc hx hb hown k_76 dL_counts_11 ?_
  refine lv_idiv hx hb dL_counts_13 (by decide) ?_
  refine lv_istore (lv' := [(10, .int ((L 1 c_) / 131072)), (9, .int ((L 1 c_) - (L 1 c_) / 8 * 8)), (0, .int (nI c_)), (1, .int (nI k)), (2, .ref (la 0)), (3, .ref (la 1)), (4, .ref (la 2)), (5, .ref (la 3)), (6, .ref (la 6)), (7, .ref (la 7)), (8, .ref (la 11))]) hx hb dL_counts_14 hl (by decide) rfl (fun ls hl => ?_)
  refine lv_aload hx hb dL_counts_16 (lv_at hl 6 rfl) ?_
  refine lv_iload_n hx hb dL_counts_18 rfl (lv_at hl 2 rfl) ?_
  refine lr_ld hC hI 2 (by decide) (show vp_in (nI c_) 40 from nx_in rfl (by omega) (by decide)) (v := (L 2 c_)) (congrArg (L 2) (nx_ix (x := (nI c_)) rfl (by omega))) dL_counts_19 ?_
  refine lv_if_ne (tgt := 93) hx hb dL_counts_20 (by decide) (fun c_1 => ?_) (fun c_1 => ?_)
  · have hG := hG.trans (if_neg c_1)
    refine lv_iconst (v := 0) hx hb dL_counts_93 (by decide) ?_
    exact W.zret (v := 0) (ty := .boolean) hx hb hr rfl (fun t9 ht9 hW9 => ⟨⟨0, (), rfl, hG.symm, trivial⟩, hI.2.F ht9⟩) hI.2.2.2 dL_counts_94
  · have hG := hG.trans (if_pos c_1)
    refine lv_aload_n hx hb dL_counts_23 rfl (lv_at hl 4 rfl) ?_
    refine lv_bipush (v := 8) hx hb dL_counts_24 (by decide) ?_
    refine lv_iload hx hb dL_counts_26 (lv_at hl 1 rfl) ?_
    refine lv_imul hx hb dL_counts_28 ?_
    refine lv_iconst (v := 5) hx hb dL_counts_29 (by decide) ?_
    refine lv_iadd hx hb dL_counts_30 ?_
    refine lr_ld hC hI 0 (by decide) (show vp_in ((8 * ((L 1 c_) - (L 1 c_) / 8 * 8)) + 5) 64 from nx_in (nx_add (nx_mul (by decide : (8 : Int32) = nI 8) (vp_ixe (hV.c8 c_))) (by decide : (5 : Int32) = nI 5)) (by have h90 := vp_ixl (hV.c8 c_); omega) (by decide)) (v := (L 0 (8 * (ix (L 1 c_ - L 1 c_ / 8 * 8)) + 5))) (congrArg (L 0) (nx_ix (x := ((8 * ((L 1 c_) - (L 1 c_) / 8 * 8)) + 5)) (nx_add (nx_mul (by decide : (8 : Int32) = nI 8) (vp_ixe (hV.c8 c_))) (by decide : (5 : Int32) = nI 5)) (by have h90 := vp_ixl (hV.c8 c_); omega))) dL_counts_31 ?_
    refine lv_if_eq (tgt := 51) hx hb dL_counts_32 (by decide) (fun c_2 => ?_) (fun c_2 => ?_)
    · have hG := hG.trans (if_pos c_2)
      refine lv_iload_n hx hb dL_counts_51 rfl (lv_at hl 3 rfl) ?_
      refine lv_iload hx hb dL_counts_52 (lv_at hl 1 rfl) ?_
      refine lv_aload_n hx hb dL_counts_54 rfl (lv_at hl 4 rfl) ?_
      refine lv_aload hx hb dL_counts_55 (lv_at hl 7 rfl) ?_
      refine lv_aload hx hb dL_counts_57 (lv_at hl 8 rfl) ?_
      refine lv_aload hx hb dL_counts_59 (lv_at hl 9 rfl) ?_
      refine lv_aload hx hb dL_counts_61 (lv_at hl 10 rfl) ?_
      refine lr_call (As := [.int (nI k), .int ((L 1 c_) - (L 1 c_) / 8 * 8), .ref (la 0), .ref (la 3), .ref (la 6), .ref (la 7), .ref (la 11)]) (rest := []) hC hI (by decide) (fun _ _ => rfl) (qL_bar l D cy la L hV k (by omega) rfl (ix (L 1 c_ - L 1 c_ / 8 * 8)) (by have h90 := vp_ixl (hV.c8 c_); omega) (vp_ixe (hV.c8 c_))) (va_cwS 7 hts gL_counts_L_bar rfl rfl rfl (by decide +kernel) ⟨Nat.le_of_ble_eq_true rfl, Nat.le_of_ble_eq_true rfl⟩) rfl hl.1 rfl (Nat.le_of_ble_eq_true rfl) dL_counts_63 ⟨Nat.le_of_ble_eq_true rfl, Nat.le_of_ble_eq_true rfl⟩ (fun H locs hk9 hz9 hI => ?_)
      refine lv_if_ne (tgt := 93) hx hb dL_counts_66 (by decide) (fun c_3 => ?_) (fun c_3 => ?_)
      · have hG := hG.trans (if_neg c_3)
        refine lv_iconst (v := 0) hx hb dL_counts_93 (by decide) ?_
        exact W.zret (v := 0) (ty := .boolean) hx hb hr rfl (fun t9 ht9 hW9 => ⟨⟨0, (), rfl, hG.symm, trivial⟩, hI.2.F ht9⟩) hI.2.2.2 dL_counts_94
      · have hG := hG.trans (if_pos c_3)
        refine lv_iload hx hb dL_counts_69 (lv_at hl 0 rfl) ?_
        refine lv_sipush (v := 600) hx hb dL_counts_71 (by decide) ?_
        refine lv_iadd hx hb dL_counts_74 ?_
        refine lv_iload_n hx hb dL_counts_75 rfl (lv_at hl 3 rfl) ?_
        refine lv_iload hx hb dL_counts_76 (lv_at hl 1 rfl) ?_
        refine lv_aload_n hx hb dL_counts_78 rfl (lv_at hl 4 rfl) ?_
        refine lv_aload hx hb dL_counts_79 (lv_at hl 8 rfl) ?_
        refine lv_aload hx hb dL_counts_81 (lv_at hl 9 rfl) ?_
        refine lr_call (As := [.int (nI k), .int ((L 1 c_) - (L 1 c_) / 8 * 8), .ref (la 0), .ref (la 6), .ref (la 7)]) (rest := [.int (((L 1 c_) / 131072) + 600)]) hC hI (by decide) (fun _ _ => rfl) (qL_day l D cy la L hV k (by omega) rfl (ix (L 1 c_ - L 1 c_ / 8 * 8)) (by have h90 := vp_ixl (hV.c8 c_); omega) (vp_ixe (hV.c8 c_))) (va_cwS 5 hts gL_counts_L_day rfl rfl rfl (by decide +kernel) ⟨Nat.le_of_ble_eq_true rfl, Nat.le_of_ble_eq_true rfl⟩) rfl hl.1 rfl (Nat.le_of_ble_eq_true rfl) dL_counts_83 ⟨Nat.le_of_ble_eq_true rfl, Nat.le_of_ble_eq_true rfl⟩ (fun H locs hk9 hz9 hI => ?_)
        refine lv_icmp_lt (tgt := 93) hx hb dL_counts_86 (by decide) (fun c_4 => ?_) (fun c_4 => ?_)
        · have hG := hG.trans (if_pos c_4)
          refine lv_iconst (v := 0) hx hb dL_counts_93 (by decide) ?_
          exact W.zret (v := 0) (ty := .boolean) hx hb hr rfl (fun t9 ht9 hW9 => ⟨⟨0, (), rfl, hG.symm, trivial⟩, hI.2.F ht9⟩) hI.2.2.2 dL_counts_94
        · have hG := hG.trans (if_neg c_4)
          refine lv_iconst (v := 1) hx hb dL_counts_89 (by decide) ?_
          refine lv_goto (tgt := 94) hx hb dL_counts_90 (by decide) ?_
          exact W.zret (v := 1) (ty := .boolean) hx hb hr rfl (fun t9 ht9 hW9 => ⟨⟨1, (), rfl, hG.symm, trivial⟩, hI.2.F ht9⟩) hI.2.2.2 dL_counts_94
    · have hG := hG.trans (if_neg c_2)
      refine lv_iload hx hb dL_counts_35 (lv_at hl 0 rfl) ?_
      refine lv_aload_n hx hb dL_counts_37 rfl (lv_at hl 4 rfl) ?_
      refine lv_bipush (v := 8) hx hb dL_counts_38 (by decide) ?_
      refine lv_iload hx hb dL_counts_40 (lv_at hl 1 rfl) ?_
      refine lv_imul hx hb dL_counts_42 ?_
      refine lv_iconst (v := 5) hx hb dL_counts_43 (by decide) ?_
      refine lv_iadd hx hb dL_counts_44 ?_
      refine lr_ld hC hI 0 (by decide) (show vp_in ((8 * ((L 1 c_) - (L 1 c_) / 8 * 8)) + 5) 64 from nx_in (nx_add (nx_mul (by decide : (8 : Int32) = nI 8) (vp_ixe (hV.c8 c_))) (by decide : (5 : Int32) = nI 5)) (by have h90 := vp_ixl (hV.c8 c_); omega) (by decide)) (v := (L 0 (8 * (ix (L 1 c_ - L 1 c_ / 8 * 8)) + 5))) (congrArg (L 0) (nx_ix (x := ((8 * ((L 1 c_) - (L 1 c_) / 8 * 8)) + 5)) (nx_add (nx_mul (by decide : (8 : Int32) = nI 8) (vp_ixe (hV.c8 c_))) (by decide : (5 : Int32) = nI 5)) (by have h90 := vp_ixl (hV.c8 c_); omega))) dL_counts_45 ?_
      refine lv_iconst (v := 1) hx hb dL_counts_46 (by decide) ?_
      refine lv_isub hx hb dL_counts_47 ?_
      refine lv_icmp_ge (tgt := 93) hx hb dL_counts_48 (by decide) (fun c_5 => ?_) (fun c_5 => ?_)
      · have hG := hG.trans (if_pos c_5)
        refine lv_iconst (v := 0) hx hb dL_counts_93 (by decide) ?_
        exact W.zret (v := 0) (ty := .boolean) hx hb hr rfl (fun t9 ht9 hW9 => ⟨⟨0, (), rfl, hG.symm, trivial⟩, hI.2.F ht9⟩) hI.2.2.2 dL_counts_94
      · have hG := hG.trans (if_neg c_5)
        refine lv_iload_n hx hb dL_counts_51 rfl (lv_at hl 3 rfl) ?_
        refine lv_iload hx hb dL_counts_52 (lv_at hl 1 rfl) ?_
        refine lv_aload_n hx hb dL_counts_54 rfl (lv_at hl 4 rfl) ?_
        refine lv_aload hx hb dL_counts_55 (lv_at hl 7 rfl) ?_
        refine lv_aload hx hb dL_counts_57 (lv_at hl 8 rfl) ?_
        refine lv_aload hx hb dL_counts_59 (lv_at hl 9 rfl) ?_
        refine lv_aload hx hb dL_counts_61 (lv_at hl 10 rfl) ?_
        refine lr_call (As := [.int (nI k), .int ((L 1 c_) - (L 1 c_) / 8 * 8), .ref (la 0), .ref (la 3), .ref (la 6), .ref (la 7), .ref (la 11)]) (rest := []) hC hI (by decide) (fun _ _ => rfl) (qL_bar l D cy la L hV k (by omega) rfl (ix (L 1 c_ - L 1 c_ / 8 * 8)) (by have h90 := vp_ixl (hV.c8 c_); omega) (vp_ixe (hV.c8 c_))) (va_cwS 7 hts gL_counts_L_bar rfl rfl rfl (by decide +kernel) ⟨Nat.le_of_ble_eq_true rfl, Nat.le_of_ble_eq_true rfl⟩) rfl hl.1 rfl (Nat.le_of_ble_eq_true rfl) dL_counts_63 ⟨Nat.le_of_ble_eq_true rfl, Nat.le_of_ble_eq_true rfl⟩ (fun H locs hk9 hz9 hI => ?_)
        refine lv_if_ne (tgt := 93) hx hb dL_counts_66 (by decide) (fun c_6 => ?_) (fun c_6 => ?_)
        · have hG := hG.trans (if_neg c_6)
          refine lv_iconst (v := 0) hx hb dL_counts_93 (by decide) ?_
          exact W.zret (v := 0) (ty := .boolean) hx hb hr rfl (fun t9 ht9 hW9 => ⟨⟨0, (), rfl, hG.symm, trivial⟩, hI.2.F ht9⟩) hI.2.2.2 dL_counts_94
        · have hG := hG.trans (if_pos c_6)
          refine lv_iload hx hb dL_counts_69 (lv_at hl 0 rfl) ?_
          refine lv_sipush (v := 600) hx hb dL_counts_71 (by decide) ?_
          refine lv_iadd hx hb dL_counts_74 ?_
          refine lv_iload_n hx hb dL_counts_75 rfl (lv_at hl 3 rfl) ?_
          refine lv_iload hx hb dL_counts_76 (lv_at hl 1 rfl) ?_
          refine lv_aload_n hx hb dL_counts_78 rfl (lv_at hl 4 rfl) ?_
          refine lv_aload hx hb dL_counts_79 (lv_at hl 8 rfl) ?_
          refine lv_aload hx hb dL_counts_81 (lv_at hl 9 rfl) ?_
          refine lr_call (As := [.int (nI k), .int ((L 1 c_) - (L 1 c_) / 8 * 8), .ref (la 0), .ref (la 6), .ref (la 7)]) (rest := [.int (((L 1 c_) / 131072) + 600)]) hC hI (by decide) (fun _ _ => rfl) (qL_day l D cy la L hV k (by omega) rfl (ix (L 1 c_ - L 1 c_ / 8 * 8)) (by have h90 := vp_ixl (hV.c8 c_); omega) (vp_ixe (hV.c8 c_))) (va_cwS 5 hts gL_counts_L_day rfl rfl rfl (by decide +kernel) ⟨Nat.le_of_ble_eq_true rfl, Nat.le_of_ble_eq_true rfl⟩) rfl hl.1 rfl (Nat.le_of_ble_eq_true rfl) dL_counts_83 ⟨Nat.le_of_ble_eq_true rfl, Nat.le_of_ble_eq_true rfl⟩ (fun H locs hk9 hz9 hI => ?_)
          refine lv_icmp_lt (tgt := 93) hx hb dL_counts_86 (by decide) (fun c_7 => ?_) (fun c_7 => ?_)
          · have hG := hG.trans (if_pos c_7)
            refine lv_iconst (v := 0) hx hb dL_counts_93 (by decide) ?_
            exact W.zret (v := 0) (ty := .boolean) hx hb hr rfl (fun t9 ht9 hW9 => ⟨⟨0, (), rfl, hG.symm, trivial⟩, hI.2.F ht9⟩) hI.2.2.2 dL_counts_94
          · have hG := hG.trans (if_neg c_7)
            refine lv_iconst (v := 1) hx hb dL_counts_89 (by decide) ?_
            refine lv_goto (tgt := 94) hx hb dL_counts_90 (by decide) ?_
            exact W.zret (v := 1) (ty := .boolean) hx hb hr rfl (fun t9 ht9 hW9 => ⟨⟨1, (), rfl, hG.symm, trivial⟩, hI.2.F ht9⟩) hI.2.2.2 dL_counts_94
set_option maxHeartbeats 4000000 in
set_option maxRecDepth 100000 in
theorem qL_due (l : Launch) (D : va_G) (cy : Nat → ClassId) (la : Nat → Nat) (L : St) (hV : LV L) (k : Nat) (hk : k < 8) {x_k : Int32} (ek : x_k = nI k) : LPure l D cy la L yL_due wsL_due ({ frames := 5, cells := 2, slots := 16, locals := 141 } : Room) 2 16 [.int x_k, .ref (la 0), .ref (la 1), .ref (la 2), .ref (la 3), .ref (la 6), .ref (la 7), .ref (la 11)] (fL_due L k) := by
  subst ek
  refine Met.ofW (cc := cL_due) (maxL := 14) (ret := (some .int)) (by decide) rfl ?_
  intro p e s m args below meth c s₁ B hml hv
  obtain ⟨rfl, hM, hK⟩ := hv
  have hx := B.exec
  have hb := B.bytes
  have hr := B.returns
  have hts := atoms_spec (ws := wsL_due) B.pre
  have hown : s.vm.findClass RL = some m.cls := findClass_of_methodNamed B.named
  have hlocks := B.notSynchronized
  have hC : CC p s m _ c cL_due 14 RL D cy wsL_due := ⟨⟨hx, hb, hml, hown, hts⟩, hK⟩
  have hI : LI (fun q => s.heap.size ≤ q) 12 D cy la s L s.heap [] := ⟨hM, va_S.rf⟩
  have hb1 := hV.b1
  have hb2 := hV.b2
  have hb3 := hV.b3
  have hb4 := hV.b4
  have hl := lv_entry ([.int (nI k), .ref (la 0), .ref (la 1), .ref (la 2), .ref (la 3), .ref (la 6), .ref (la 7), .ref (la 11)]) (n := 14) (Nat.le_of_ble_eq_true rfl)
  rw [lg_entry_eq]
  generalize (lg_sl ([.int (nI k), .ref (la 0), .ref (la 1), .ref (la 2), .ref (la 3), .ref (la 6), .ref (la 7), .ref (la 11)]) ++ List.replicate (14 - (lg_sl ([.int (nI k), .ref (la 0), .ref (la 1), .ref (la 2), .ref (la 3), .ref (la 6), .ref (la 7), .ref (la 11)])).length) Slot.unset).toArray = ls at hl ⊢
  have hl : lv_has ls 14 [(0, .int (nI k)), (1, .ref (la 0)), (2, .ref (la 1)), (3, .ref (la 2)), (4, .ref (la 3)), (5, .ref (la 6)), (6, .ref (la 7)), (7, .ref (la 11))] := hl
  obtain ⟨lb, hlb, hla12, hla13⟩ : ∃ lb : Nat → Nat, (∀ k, k < 12 → lb k = la k) ∧ lb 12 = s.heap.size ∧ lb 13 = s.heap.size + 1 := ⟨fun k => if k = 12 then s.heap.size else if k = 13 then s.heap.size + 1 else la k, fun k hk => by simp only []; rw [if_neg (by omega), if_neg (by omega)], rfl, rfl⟩
  rw [← hlb 0 (by decide), ← hlb 1 (by decide), ← hlb 2 (by decide), ← hlb 3 (by decide), ← hlb 6 (by decide), ← hlb 7 (by decide), ← hlb 11 (by decide)] at hl
  have hI : LI (fun q => s.heap.size ≤ q) 12 D cy lb s L s.heap [] := ⟨fun k hk => by rw [hlb k hk]; exact hM k hk, va_S.rf⟩
  have hlt : ∀ k, k < 12 → lb k < s.heap.size := fun k hk => (hI.1 k hk).lt
  have hL12 : s.heap.size ≤ lb 12 ∧ ∀ k', k' < 14 → lb k' = lb 12 → k' = 12 := ⟨by omega, fun k' hk' h => by
    rcases Nat.lt_or_ge k' 12 with q | q
    · have := hlt k' q; omega
    · rcases (show k' = 12 ∨ k' = 13 by omega) with rfl | rfl
      · first | rfl | omega
      · first | rfl | omega⟩
  have hL13 : s.heap.size ≤ lb 13 ∧ ∀ k', k' < 14 → lb k' = lb 13 → k' = 13 := ⟨by omega, fun k' hk' h => by
    rcases Nat.lt_or_ge k' 12 with q | q
    · have := hlt k' q; omega
    · rcases (show k' = 12 ∨ k' = 13 by omega) with rfl | rfl
      · first | rfl | omega
      · first | rfl | omega⟩
  have k_arr := hts (.arrayClass .int) (List.mem_cons_of_mem _ (List.mem_of_getElem? (i := 0) rfl))
  have hG : fL_due L k = fL_due L k := rfl
  refine lv_bipush (v := 8) hx hb dL_due_0 (by decide) ?_
  refine lr_new (k := 8) hC k_arr hI hla12 (by decide) rfl (by decide) (Nat.le_of_ble_eq_true rfl) (Nat.le_of_ble_eq_true rfl) dL_due_2 (fun H hI hz12 => ?_)
  refine lv_astore (lv' := [(8, .ref (lb 12)), (0, .int (nI k)), (1, .ref (lb 0)), (2, .ref (lb 1)), (3, .ref (lb 2)), (4, .ref (lb 3)), (5, .ref (lb 6)), (6, .ref (lb 7)), (7, .ref (lb 11))]) hx hb dL_due_4 hl (by decide) rfl (fun ls hl => ?_)
  refine lv_bipush (v := 8) hx hb dL_due_6 (by decide) ?_
  refine lr_new (k := 8) hC k_arr hI (hla13.trans hz12.symm) (by decide) rfl (by decide) (Nat.le_of_ble_eq_true rfl) (Nat.le_of_ble_eq_true rfl) dL_due_8 (fun H hI hz13 => ?_)
  refine lv_astore (lv' := [(9, .ref (lb 13)), (8, .ref (lb 12)), (0, .int (nI k)), (1, .ref (lb 0)), (2, .ref (lb 1)), (3, .ref (lb 2)), (4, .ref (lb 3)), (5, .ref (lb 6)), (6, .ref (lb 7)), (7, .ref (lb 11))]) hx hb dL_due_10 hl (by decide) rfl (fun ls hl => ?_)
  refine lv_iconst (v := 0) hx hb dL_due_12 (by decide) ?_
  refine lv_istore (lv' := [(10, .int 0), (9, .ref (lb 13)), (8, .ref (lb 12)), (0, .int (nI k)), (1, .ref (lb 0)), (2, .ref (lb 1)), (3, .ref (lb 2)), (4, .ref (lb 3)), (5, .ref (lb 6)), (6, .ref (lb 7)), (7, .ref (lb 11))]) hx hb dL_due_13 hl (by decide) rfl (fun ls hl => ?_)
  refine lv_iconst (v := 0) hx hb dL_due_15 (by decide) ?_
  refine lv_istore (lv' := [(11, .int 0), (10, .int 0), (9, .ref (lb 13)), (8, .ref (lb 12)), (0, .int (nI k)), (1, .ref (lb 0)), (2, .ref (lb 1)), (3, .ref (lb 2)), (4, .ref (lb 3)), (5, .ref (lb 6)), (6, .ref (lb 7)), (7, .ref (lb 11))]) hx hb dL_due_16 hl (by decide) rfl (fun ls hl => ?_)
  by_cases c_1 : 3 ≤ (L 6 (8 * k + 3))
  · have hG := hG.trans (if_pos c_1)
    refine lv_iload hx hb dL_due_18 (lv_at hl 0 rfl) ?_
    refine lv_aload hx hb dL_due_20 (lv_at hl 11 rfl) ?_
    refine lv_iconst (v := 2) hx hb dL_due_22 (by decide) ?_
    refine lr_ld hC hI 11 (by decide) (nx_in (by decide : (2 : Int32) = nI 2) (by decide) (by decide)) (v := (L 11 2)) ((congrArg ((upr (upr L 12 (fun (_ : Nat) => (0 : Int32))) 13 (fun (_ : Nat) => (0 : Int32))) 11) (by decide : ix 2 = 2)).trans ((congrFun (upr_ne (by decide)) _).trans (congrFun (upr_ne (by decide)) _))) dL_due_23 ?_
    refine lv_icmp_ge (tgt := 121) hx hb dL_due_24 (by decide) (fun c_2 => ?_) (fun c_2 => ?_)
    · have hG := hG.trans (if_pos c_2)
      refine lv_iconst (v := 0) hx hb dL_due_121 (by decide) ?_
      refine lv_istore (lv' := [(11, .int 0), (10, .int 0), (9, .ref (lb 13)), (8, .ref (lb 12)), (0, .int (nI k)), (1, .ref (lb 0)), (2, .ref (lb 1)), (3, .ref (lb 2)), (4, .ref (lb 3)), (5, .ref (lb 6)), (6, .ref (lb 7)), (7, .ref (lb 11))]) hx hb dL_due_122 hl (by decide) rfl (fun ls hl => ?_)
      refine w_loop (σ := Int32) (q1 L) 124 (fun i124 z H locs ls => z = lL_due_124 L i124 ∧ LI (fun q => s.heap.size ≤ q) 14 D cy lb s (upr (upr L 12 (fun (_ : Nat) => (0 : Int32))) 13 (fun (_ : Nat) => (0 : Int32))) H locs ∧ lv_has ls 14 [(11, .int (nI i124)), (10, .int z), (9, .ref (lb 13)), (8, .ref (lb 12)), (0, .int (nI k)), (1, .ref (lb 0)), (2, .ref (lb 1)), (3, .ref (lb 2)), (4, .ref (lb 3)), (5, .ref (lb 6)), (6, .ref (lb 7)), (7, .ref (lb 11))]) ?_ 0 ⟨rfl, hI, lv_sub hl [0, 1, 2, 3, 4, 5, 6, 7, 8, 9, 10, 11] rfl⟩
      intro i124 z H locs ls ⟨hz124, hI, hl⟩ hi124 ih124
      obtain ⟨x124_10, rfl⟩ : ∃ x, x = z := ⟨_, rfl⟩
      refine lv_iload hx hb dL_due_124 (lv_at hl 0 rfl) ?_
      refine lv_aload hx hb dL_due_126 (lv_at hl 11 rfl) ?_
      refine lv_iconst (v := 1) hx hb dL_due_128 (by decide) ?_
      refine lr_ld hC hI 11 (by decide) (nx_in (by decide : (1 : Int32) = nI 1) (by decide) (by decide)) (v := (L 11 1)) ((congrArg ((upr (upr L 12 (fun (_ : Nat) => (0 : Int32))) 13 (fun (_ : Nat) => (0 : Int32))) 11) (by decide : ix 1 = 1)).trans ((congrFun (upr_ne (by decide)) _).trans (congrFun (upr_ne (by decide)) _))) dL_due_129 ?_
      refine lv_icmp_ge (tgt := 240) hx hb dL_due_130 (by decide) (fun c_3 => ?_) (fun c_3 => ?_)
      · obtain rfl : i124 = q1 L := w_exit hV.n1 hi124 (by have := hV.b1; omega) c_3
        obtain rfl : x124_10 = (lL_due_124 L (q1 L)) := by rw [← hz124]
        refine lv_iload hx hb dL_due_240 (lv_at hl 1 rfl) ?_
        refine va_forget (fun q hq => hI.2.2.2 q hq) ?_
        have hSF : va_S (fun _ => False) s.heap H [] := ⟨hI.2.1, fun x h1 _ => hI.2.2.1 x h1 (Nat.not_le.mpr h1), fun _ h => by cases h⟩
        refine W.widen (k := 2) (n := 16) (Nat.le_of_ble_eq_true rfl) (Nat.le_of_ble_eq_true rfl) ?_
        exact W.iret (v := (lL_due_124 L (q1 L))) hx hb hr (fun t9 ht9 hW9 => ⟨⟨(lL_due_124 L (q1 L)), (), rfl, hG.symm, trivial⟩, hSF.F ht9⟩) hSF.2.2 dL_due_242
      · have hlt124 : i124 < q1 L := w_in hV.n1 hi124 (by have := hV.b1; omega) c_3
        have hB124 : iL_due_124 L i124 x124_10 = iL_due_124 L i124 x124_10 := rfl
        refine lv_iconst (v := 3) hx hb dL_due_133 (by decide) ?_
        refine lv_aload_n hx hb dL_due_134 rfl (lv_at hl 5 rfl) ?_
        refine lv_bipush (v := 8) hx hb dL_due_135 (by decide) ?_
        refine lv_iload hx hb dL_due_137 (lv_at hl 0 rfl) ?_
        refine lv_imul hx hb dL_due_139 ?_
        refine lv_bipush (v := 6) hx hb dL_due_140 (by decide) ?_
        refine lv_iadd hx hb dL_due_142 ?_
        refine lr_ld hC hI 0 (by decide) (show vp_in ((8 * (nI i124)) + 6) 64 from nx_in (nx_add (nx_mul (by decide : (8 : Int32) = nI 8) rfl) (by decide : (6 : Int32) = nI 6)) (by omega) (by decide)) (v := (L 0 (8 * i124 + 6))) ((congrArg ((upr (upr L 12 (fun (_ : Nat) => (0 : Int32))) 13 (fun (_ : Nat) => (0 : Int32))) 0) (nx_ix (x := ((8 * (nI i124)) + 6)) (nx_add (nx_mul (by decide : (8 : Int32) = nI 8) rfl) (by decide : (6 : Int32) = nI 6)) (by omega))).trans ((congrFun (upr_ne (by decide)) _).trans (congrFun (upr_ne (by decide)) _))) dL_due_143 ?_
        refine lv_isub hx hb dL_due_144 ?_
        refine lv_istore (lv' := [(12, .int (3 - (L 0 (8 * i124 + 6)))), (11, .int (nI i124)), (10, .int x124_10), (9, .ref (lb 13)), (8, .ref (lb 12)), (0, .int (nI k)), (1, .ref (lb 0)), (2, .ref (lb 1)), (3, .ref (lb 2)), (4, .ref (lb 3)), (5, .ref (lb 6)), (6, .ref (lb 7)), (7, .ref (lb 11))]) hx hb dL_due_145 hl (by decide) rfl (fun ls hl => ?_)
        refine lv_aload_n hx hb dL_due_147 rfl (lv_at hl 6 rfl) ?_
        refine lv_bipush (v := 8) hx hb dL_due_148 (by decide) ?_
        refine lv_iload hx hb dL_due_150 (lv_at hl 1 rfl) ?_
        refine lv_imul hx hb dL_due_152 ?_
        refine lv_iconst (v := 2) hx hb dL_due_153 (by decide) ?_
        refine lv_iadd hx hb dL_due_154 ?_
        refine lr_ld hC hI 0 (by decide) (show vp_in ((8 * (nI i124)) + 2) 64 from nx_in (nx_add (nx_mul (by decide : (8 : Int32) = nI 8) rfl) (by decide : (2 : Int32) = nI 2)) (by omega) (by decide)) (v := (L 0 (8 * i124 + 2))) ((congrArg ((upr (upr L 12 (fun (_ : Nat) => (0 : Int32))) 13 (fun (_ : Nat) => (0 : Int32))) 0) (nx_ix (x := ((8 * (nI i124)) + 2)) (nx_add (nx_mul (by decide : (8 : Int32) = nI 8) rfl) (by decide : (2 : Int32) = nI 2)) (by omega))).trans ((congrFun (upr_ne (by decide)) _).trans (congrFun (upr_ne (by decide)) _))) dL_due_155 ?_
        refine lv_istore (lv' := [(13, .int (L 0 (8 * i124 + 2))), (12, .int (3 - (L 0 (8 * i124 + 6)))), (11, .int (nI i124)), (10, .int x124_10), (9, .ref (lb 13)), (8, .ref (lb 12)), (0, .int (nI k)), (1, .ref (lb 0)), (2, .ref (lb 1)), (3, .ref (lb 2)), (4, .ref (lb 3)), (5, .ref (lb 6)), (6, .ref (lb 7)), (7, .ref (lb 11))]) hx hb dL_due_156 hl (by decide) rfl (fun ls hl => ?_)
        refine lv_iload hx hb dL_due_158 (lv_at hl 3 rfl) ?_
        refine lv_iload hx hb dL_due_160 (lv_at hl 1 rfl) ?_
        refine lv_aload hx hb dL_due_162 (lv_at hl 5 rfl) ?_
        refine lv_iload hx hb dL_due_164 (lv_at hl 2 rfl) ?_
        refine lr_ld hC hI 12 (by decide) (show vp_in (nI i124) 8 from nx_in rfl (by omega) (by decide)) (v := ((fun (_ : Nat) => (0 : Int32)) i124)) ((congrArg ((upr (upr L 12 (fun (_ : Nat) => (0 : Int32))) 13 (fun (_ : Nat) => (0 : Int32))) 12) (nx_ix (x := (nI i124)) rfl (by omega))).trans ((congrFun (upr_ne (by decide)) _).trans (congrFun (upr_at _ _ _) _))) dL_due_166 ?_
        refine lv_aload_n hx hb dL_due_167 rfl (lv_at hl 7 rfl) ?_
        refine lv_bipush (v := 8) hx hb dL_due_168 (by decide) ?_
        refine lv_iload hx hb dL_due_170 (lv_at hl 2 rfl) ?_
        refine lv_imul hx hb dL_due_172 ?_
        refine lv_iconst (v := 4) hx hb dL_due_173 (by decide) ?_
        refine lv_iadd hx hb dL_due_174 ?_
        refine lr_ld hC hI 0 (by decide) (show vp_in ((8 * (nI i124)) + 4) 64 from nx_in (nx_add (nx_mul (by decide : (8 : Int32) = nI 8) rfl) (by decide : (4 : Int32) = nI 4)) (by omega) (by decide)) (v := (L 0 (8 * i124 + 4))) ((congrArg ((upr (upr L 12 (fun (_ : Nat) => (0 : Int32))) 13 (fun (_ : Nat) => (0 : Int32))) 0) (nx_ix (x := ((8 * (nI i124)) + 4)) (nx_add (nx_mul (by decide : (8 : Int32) = nI 8) rfl) (by decide : (4 : Int32) = nI 4)) (by omega))).trans ((congrFun (upr_ne (by decide)) _).trans (congrFun (upr_ne (by decide)) _))) dL_due_175 ?_
        refine lv_imul hx hb dL_due_176 ?_
        refine lv_aload_n hx hb dL_due_177 rfl (lv_at hl 7 rfl) ?_
        refine lv_bipush (v := 8) hx hb dL_due_178 (by decide) ?_
        refine lv_iload hx hb dL_due_180 (lv_at hl 2 rfl) ?_
        refine lv_imul hx hb dL_due_182 ?_
        refine lv_iconst (v := 3) hx hb dL_due_183 (by decide) ?_
        refine lv_iadd hx hb dL_due_184 ?_
        refine lr_ld hC hI 0 (by decide) (show vp_in ((8 * (nI i124)) + 3) 64 from nx_in (nx_add (nx_mul (by decide : (8 : Int32) = nI 8) rfl) (by decide : (3 : Int32) = nI 3)) (by omega) (by decide)) (v := (L 0 (8 * i124 + 3))) ((congrArg ((upr (upr L 12 (fun (_ : Nat) => (0 : Int32))) 13 (fun (_ : Nat) => (0 : Int32))) 0) (nx_ix (x := ((8 * (nI i124)) + 3)) (nx_add (nx_mul (by decide : (8 : Int32) = nI 8) rfl) (by decide : (3 : Int32) = nI 3)) (by omega))).trans ((congrFun (upr_ne (by decide)) _).trans (congrFun (upr_ne (by decide)) _))) dL_due_185 ?_
        refine lv_idiv hx hb dL_due_186 (hV.h3 hlt124) ?_
        refine lv_imul hx hb dL_due_187 ?_
        refine lv_iload hx hb dL_due_188 (lv_at hl 0 rfl) ?_
        refine lv_iconst (v := 2) hx hb dL_due_190 (by decide) ?_
        refine lv_icmp_ne (tgt := 199) hx hb dL_due_191 (by decide) (fun c_4 => ?_) (fun c_4 => ?_)
        · have hB124 := hB124.trans (if_neg c_4)
          refine lv_bipush (v := 100) hx hb dL_due_199 (by decide) ?_
          refine lv_iload hx hb dL_due_201 (lv_at hl 0 rfl) ?_
          refine lv_ishr hx hb dL_due_203 ?_
          refine lv_aload hx hb dL_due_204 (lv_at hl 4 rfl) ?_
          refine lv_iload hx hb dL_due_206 (lv_at hl 2 rfl) ?_
          refine lr_ld hC hI 13 (by decide) (show vp_in (nI i124) 8 from nx_in rfl (by omega) (by decide)) (v := ((fun (_ : Nat) => (0 : Int32)) i124)) ((congrArg ((upr (upr L 12 (fun (_ : Nat) => (0 : Int32))) 13 (fun (_ : Nat) => (0 : Int32))) 13) (nx_ix (x := (nI i124)) rfl (by omega))).trans (congrFun (upr_at _ _ _) _)) dL_due_208 ?_
          refine lv_aload_n hx hb dL_due_209 rfl (lv_at hl 7 rfl) ?_
          refine lv_bipush (v := 8) hx hb dL_due_210 (by decide) ?_
          refine lv_iload hx hb dL_due_212 (lv_at hl 2 rfl) ?_
          refine lv_imul hx hb dL_due_214 ?_
          refine lv_iconst (v := 4) hx hb dL_due_215 (by decide) ?_
          refine lv_iadd hx hb dL_due_216 ?_
          refine lr_ld hC hI 0 (by decide) (show vp_in ((8 * (nI i124)) + 4) 64 from nx_in (nx_add (nx_mul (by decide : (8 : Int32) = nI 8) rfl) (by decide : (4 : Int32) = nI 4)) (by omega) (by decide)) (v := (L 0 (8 * i124 + 4))) ((congrArg ((upr (upr L 12 (fun (_ : Nat) => (0 : Int32))) 13 (fun (_ : Nat) => (0 : Int32))) 0) (nx_ix (x := ((8 * (nI i124)) + 4)) (nx_add (nx_mul (by decide : (8 : Int32) = nI 8) rfl) (by decide : (4 : Int32) = nI 4)) (by omega))).trans ((congrFun (upr_ne (by decide)) _).trans (congrFun (upr_ne (by decide)) _))) dL_due_217 ?_
          refine lv_imul hx hb dL_due_218 ?_
          refine lv_aload_n hx hb dL_due_219 rfl (lv_at hl 7 rfl) ?_
          refine lv_bipush (v := 8) hx hb dL_due_220 (by decide) ?_
          refine lv_iload hx hb dL_due_222 (lv_at hl 2 rfl) ?_
          refine lv_imul hx hb dL_due_224 ?_
          refine lv_iconst (v := 3) hx hb dL_due_225 (by decide) ?_
          refine lv_iadd hx hb dL_due_226 ?_
          refine lr_ld hC hI 0 (by decide) (show vp_in ((8 * (nI i124)) + 3) 64 from nx_in (nx_add (nx_mul (by decide : (8 : Int32) = nI 8) rfl) (by decide : (3 : Int32) = nI 3)) (by omega) (by decide)) (v := (L 0 (8 * i124 + 3))) ((congrArg ((upr (upr L 12 (fun (_ : Nat) => (0 : Int32))) 13 (fun (_ : Nat) => (0 : Int32))) 0) (nx_ix (x := ((8 * (nI i124)) + 3)) (nx_add (nx_mul (by decide : (8 : Int32) = nI 8) rfl) (by decide : (3 : Int32) = nI 3)) (by omega))).trans ((congrFun (upr_ne (by decide)) _).trans (congrFun (upr_ne (by decide)) _))) dL_due_227 ?_
          refine lv_idiv hx hb dL_due_228 (hV.h3 hlt124) ?_
          refine lv_imul hx hb dL_due_229 ?_
          refine lv_iadd hx hb dL_due_230 ?_
          refine lv_iadd hx hb dL_due_231 ?_
          refine lv_istore (lv' := [(10, .int (x124_10 + (((3 - (L 0 (8 * i124 + 6))) * ((((fun (_ : Nat) => (0 : Int32)) i124) * (L 0 (8 * i124 + 4))) / (L 0 (8 * i124 + 3)))) + (((100 : Int32) >>> ((L 0 (8 * i124 + 2)) &&& 31)) * ((((fun (_ : Nat) => (0 : Int32)) i124) * (L 0 (8 * i124 + 4))) / (L 0 (8 * i124 + 3))))))), (13, .int (L 0 (8 * i124 + 2))), (12, .int (3 - (L 0 (8 * i124 + 6)))), (11, .int (nI i124)), (9, .ref (lb 13)), (8, .ref (lb 12)), (0, .int (nI k)), (1, .ref (lb 0)), (2, .ref (lb 1)), (3, .ref (lb 2)), (4, .ref (lb 3)), (5, .ref (lb 6)), (6, .ref (lb 7)), (7, .ref (lb 11))]) hx hb dL_due_232 hl (by decide) rfl (fun ls hl => ?_)
          refine lv_iinc (v := (nI (i124 + 1))) (lv' := [(11, .int (nI (i124 + 1))), (10, .int (x124_10 + (((3 - (L 0 (8 * i124 + 6))) * ((((fun (_ : Nat) => (0 : Int32)) i124) * (L 0 (8 * i124 + 4))) / (L 0 (8 * i124 + 3)))) + (((100 : Int32) >>> ((L 0 (8 * i124 + 2)) &&& 31)) * ((((fun (_ : Nat) => (0 : Int32)) i124) * (L 0 (8 * i124 + 4))) / (L 0 (8 * i124 + 3))))))), (13, .int (L 0 (8 * i124 + 2))), (12, .int (3 - (L 0 (8 * i124 + 6)))), (9, .ref (lb 13)), (8, .ref (lb 12)), (0, .int (nI k)), (1, .ref (lb 0)), (2, .ref (lb 1)), (3, .ref (lb 2)), (4, .ref (lb 3)), (5, .ref (lb 6)), (6, .ref (lb 7)), (7, .ref (lb 11))]) hx hb dL_due_234 hl (k := 3) rfl (nI_1 i124) (by decide) rfl (fun ls hl => ?_)
          refine lv_goto (tgt := 124) hx hb dL_due_237 (by decide) ?_
          exact ih124 (x124_10 + (((3 - (L 0 (8 * i124 + 6))) * ((((fun (_ : Nat) => (0 : Int32)) i124) * (L 0 (8 * i124 + 4))) / (L 0 (8 * i124 + 3)))) + (((100 : Int32) >>> ((L 0 (8 * i124 + 2)) &&& 31)) * ((((fun (_ : Nat) => (0 : Int32)) i124) * (L 0 (8 * i124 + 4))) / (L 0 (8 * i124 + 3)))))) _ _ ls hlt124 ⟨(by show _ = iL_due_124 L i124 (lL_due_124 L i124); rw [← hz124]; exact hB124.symm), hI, lv_sub hl [0, 1, 4, 5, 6, 7, 8, 9, 10, 11, 12, 13] rfl⟩
        · have hB124 := hB124.trans (if_pos c_4)
          refine lv_bipush (v := 20) hx hb dL_due_194 (by decide) ?_
          refine lv_goto (tgt := 204) hx hb dL_due_196 (by decide) ?_
          refine lv_aload hx hb dL_due_204 (lv_at hl 4 rfl) ?_
          refine lv_iload hx hb dL_due_206 (lv_at hl 2 rfl) ?_
          refine lr_ld hC hI 13 (by decide) (show vp_in (nI i124) 8 from nx_in rfl (by omega) (by decide)) (v := ((fun (_ : Nat) => (0 : Int32)) i124)) ((congrArg ((upr (upr L 12 (fun (_ : Nat) => (0 : Int32))) 13 (fun (_ : Nat) => (0 : Int32))) 13) (nx_ix (x := (nI i124)) rfl (by omega))).trans (congrFun (upr_at _ _ _) _)) dL_due_208 ?_
          refine lv_aload_n hx hb dL_due_209 rfl (lv_at hl 7 rfl) ?_
          refine lv_bipush (v := 8) hx hb dL_due_210 (by decide) ?_
          refine lv_iload hx hb dL_due_212 (lv_at hl 2 rfl) ?_
          refine lv_imul hx hb dL_due_214 ?_
          refine lv_iconst (v := 4) hx hb dL_due_215 (by decide) ?_
          refine lv_iadd hx hb dL_due_216 ?_
          refine lr_ld hC hI 0 (by decide) (show vp_in ((8 * (nI i124)) + 4) 64 from nx_in (nx_add (nx_mul (by decide : (8 : Int32) = nI 8) rfl) (by decide : (4 : Int32) = nI 4)) (by omega) (by decide)) (v := (L 0 (8 * i124 + 4))) ((congrArg ((upr (upr L 12 (fun (_ : Nat) => (0 : Int32))) 13 (fun (_ : Nat) => (0 : Int32))) 0) (nx_ix (x := ((8 * (nI i124)) + 4)) (nx_add (nx_mul (by decide : (8 : Int32) = nI 8) rfl) (by decide : (4 : Int32) = nI 4)) (by omega))).trans ((congrFun (upr_ne (by decide)) _).trans (congrFun (upr_ne (by decide)) _))) dL_due_217 ?_
          refine lv_imul hx hb dL_due_218 ?_
          refine lv_aload_n hx hb dL_due_219 rfl (lv_at hl 7 rfl) ?_
          refine lv_bipush (v := 8) hx hb dL_due_220 (by decide) ?_
          refine lv_iload hx hb dL_due_222 (lv_at hl 2 rfl) ?_
          refine lv_imul hx hb dL_due_224 ?_
          refine lv_iconst (v := 3) hx hb dL_due_225 (by decide) ?_
          refine lv_iadd hx hb dL_due_226 ?_
          refine lr_ld hC hI 0 (by decide) (show vp_in ((8 * (nI i124)) + 3) 64 from nx_in (nx_add (nx_mul (by decide : (8 : Int32) = nI 8) rfl) (by decide : (3 : Int32) = nI 3)) (by omega) (by decide)) (v := (L 0 (8 * i124 + 3))) ((congrArg ((upr (upr L 12 (fun (_ : Nat) => (0 : Int32))) 13 (fun (_ : Nat) => (0 : Int32))) 0) (nx_ix (x := ((8 * (nI i124)) + 3)) (nx_add (nx_mul (by decide : (8 : Int32) = nI 8) rfl) (by decide : (3 : Int32) = nI 3)) (by omega))).trans ((congrFun (upr_ne (by decide)) _).trans (congrFun (upr_ne (by decide)) _))) dL_due_227 ?_
          refine lv_idiv hx hb dL_due_228 (hV.h3 hlt124) ?_
          refine lv_imul hx hb dL_due_229 ?_
          refine lv_iadd hx hb dL_due_230 ?_
          refine lv_iadd hx hb dL_due_231 ?_
          refine lv_istore (lv' := [(10, .int (x124_10 + (((3 - (L 0 (8 * i124 + 6))) * ((((fun (_ : Nat) => (0 : Int32)) i124) * (L 0 (8 * i124 + 4))) / (L 0 (8 * i124 + 3)))) + (20 * ((((fun (_ : Nat) => (0 : Int32)) i124) * (L 0 (8 * i124 + 4))) / (L 0 (8 * i124 + 3))))))), (13, .int (L 0 (8 * i124 + 2))), (12, .int (3 - (L 0 (8 * i124 + 6)))), (11, .int (nI i124)), (9, .ref (lb 13)), (8, .ref (lb 12)), (0, .int (nI k)), (1, .ref (lb 0)), (2, .ref (lb 1)), (3, .ref (lb 2)), (4, .ref (lb 3)), (5, .ref (lb 6)), (6, .ref (lb 7)), (7, .ref (lb 11))]) hx hb dL_due_232 hl (by decide) rfl (fun ls hl => ?_)
          refine lv_iinc (v := (nI (i124 + 1))) (lv' := [(11, .int (nI (i124 + 1))), (10, .int (x124_10 + (((3 - (L 0 (8 * i124 + 6))) * ((((fun (_ : Nat) => (0 : Int32)) i124) * (L 0 (8 * i124 + 4))) / (L 0 (8 * i124 + 3)))) + (20 * ((((fun (_ : Nat) => (0 : Int32)) i124) * (L 0 (8 * i124 + 4))) / (L 0 (8 * i124 + 3))))))), (13, .int (L 0 (8 * i124 + 2))), (12, .int (3 - (L 0 (8 * i124 + 6)))), (9, .ref (lb 13)), (8, .ref (lb 12)), (0, .int (nI k)), (1, .ref (lb 0)), (2, .ref (lb 1)), (3, .ref (lb 2)), (4, .ref (lb 3)), (5, .ref (lb 6)), (6, .ref (lb 7)), (7, .ref (lb 11))]) hx hb dL_due_234 hl (k := 3) rfl (nI_1 i124) (by decide) rfl (fun ls hl => ?_)
          refine lv_goto (tgt := 124) hx hb dL_due_237 (by decide) ?_
          exact ih124 (x124_10 + (((3 - (L 0 (8 * i124 + 6))) * ((((fun (_ : Nat) => (0 : Int32)) i124) * (L 0 (8 * i124 + 4))) / (L 0 (8 * i124 + 3)))) + (20 * ((((fun (_ : Nat) => (0 : Int32)) i124) * (L 0 (8 * i124 + 4))) / (L 0 (8 * i124 + 3)))))) _ _ ls hlt124 ⟨(by show _ = iL_due_124 L i124 (lL_due_124 L i124); rw [← hz124]; exact hB124.symm), hI, lv_sub hl [0, 1, 4, 5, 6, 7, 8, 9, 10, 11, 12, 13] rfl⟩
    · have hG := hG.trans (if_neg c_2)
      refine lv_aload hx hb dL_due_27 (lv_at hl 9 rfl) ?_
      refine lv_bipush (v := 8) hx hb dL_due_29 (by decide) ?_
      refine lv_iload_n hx hb dL_due_31 rfl (lv_at hl 4 rfl) ?_
      refine lv_imul hx hb dL_due_32 ?_
      refine lv_iconst (v := 3) hx hb dL_due_33 (by decide) ?_
      refine lv_iadd hx hb dL_due_34 ?_
      refine lr_ld hC hI 6 (by decide) (show vp_in ((8 * (nI k)) + 3) 64 from nx_in (nx_add (nx_mul (by decide : (8 : Int32) = nI 8) rfl) (by decide : (3 : Int32) = nI 3)) (by omega) (by decide)) (v := (L 6 (8 * k + 3))) ((congrArg ((upr (upr L 12 (fun (_ : Nat) => (0 : Int32))) 13 (fun (_ : Nat) => (0 : Int32))) 6) (nx_ix (x := ((8 * (nI k)) + 3)) (nx_add (nx_mul (by decide : (8 : Int32) = nI 8) rfl) (by decide : (3 : Int32) = nI 3)) (by omega))).trans ((congrFun (upr_ne (by decide)) _).trans (congrFun (upr_ne (by decide)) _))) dL_due_35 ?_
      refine lv_iconst (v := 3) hx hb dL_due_36 (by decide) ?_
      refine lv_icmp_ge (tgt := 121) hx hb dL_due_37 (by decide) (fun _ => ?_) (fun c => absurd c_1 c)
      refine lv_iconst (v := 0) hx hb dL_due_121 (by decide) ?_
      refine lv_istore (lv' := [(11, .int 0), (10, .int 0), (9, .ref (lb 13)), (8, .ref (lb 12)), (0, .int (nI k)), (1, .ref (lb 0)), (2, .ref (lb 1)), (3, .ref (lb 2)), (4, .ref (lb 3)), (5, .ref (lb 6)), (6, .ref (lb 7)), (7, .ref (lb 11))]) hx hb dL_due_122 hl (by decide) rfl (fun ls hl => ?_)
      refine w_loop (σ := Int32) (q1 L) 124 (fun i124 z H locs ls => z = lL_due_124 L i124 ∧ LI (fun q => s.heap.size ≤ q) 14 D cy lb s (upr (upr L 12 (fun (_ : Nat) => (0 : Int32))) 13 (fun (_ : Nat) => (0 : Int32))) H locs ∧ lv_has ls 14 [(11, .int (nI i124)), (10, .int z), (9, .ref (lb 13)), (8, .ref (lb 12)), (0, .int (nI k)), (1, .ref (lb 0)), (2, .ref (lb 1)), (3, .ref (lb 2)), (4, .ref (lb 3)), (5, .ref (lb 6)), (6, .ref (lb 7)), (7, .ref (lb 11))]) ?_ 0 ⟨rfl, hI, lv_sub hl [0, 1, 2, 3, 4, 5, 6, 7, 8, 9, 10, 11] rfl⟩
      intro i124 z H locs ls ⟨hz124, hI, hl⟩ hi124 ih124
      obtain ⟨x124_10, rfl⟩ : ∃ x, x = z := ⟨_, rfl⟩
      refine lv_iload hx hb dL_due_124 (lv_at hl 0 rfl) ?_
      refine lv_aload hx hb dL_due_126 (lv_at hl 11 rfl) ?_
      refine lv_iconst (v := 1) hx hb dL_due_128 (by decide) ?_
      refine lr_ld hC hI 11 (by decide) (nx_in (by decide : (1 : Int32) = nI 1) (by decide) (by decide)) (v := (L 11 1)) ((congrArg ((upr (upr L 12 (fun (_ : Nat) => (0 : Int32))) 13 (fun (_ : Nat) => (0 : Int32))) 11) (by decide : ix 1 = 1)).trans ((congrFun (upr_ne (by decide)) _).trans (congrFun (upr_ne (by decide)) _))) dL_due_129 ?_
      refine lv_icmp_ge (tgt := 240) hx hb dL_due_130 (by decide) (fun c_5 => ?_) (fun c_5 => ?_)
      · obtain rfl : i124 = q1 L := w_exit hV.n1 hi124 (by have := hV.b1; omega) c_5
        obtain rfl : x124_10 = (lL_due_124 L (q1 L)) := by rw [← hz124]
        refine lv_iload hx hb dL_due_240 (lv_at hl 1 rfl) ?_
        refine va_forget (fun q hq => hI.2.2.2 q hq) ?_
        have hSF : va_S (fun _ => False) s.heap H [] := ⟨hI.2.1, fun x h1 _ => hI.2.2.1 x h1 (Nat.not_le.mpr h1), fun _ h => by cases h⟩
        refine W.widen (k := 2) (n := 16) (Nat.le_of_ble_eq_true rfl) (Nat.le_of_ble_eq_true rfl) ?_
        exact W.iret (v := (lL_due_124 L (q1 L))) hx hb hr (fun t9 ht9 hW9 => ⟨⟨(lL_due_124 L (q1 L)), (), rfl, hG.symm, trivial⟩, hSF.F ht9⟩) hSF.2.2 dL_due_242
      · have hlt124 : i124 < q1 L := w_in hV.n1 hi124 (by have := hV.b1; omega) c_5
        have hB124 : iL_due_124 L i124 x124_10 = iL_due_124 L i124 x124_10 := rfl
        refine lv_iconst (v := 3) hx hb dL_due_133 (by decide) ?_
        refine lv_aload_n hx hb dL_due_134 rfl (lv_at hl 5 rfl) ?_
        refine lv_bipush (v := 8) hx hb dL_due_135 (by decide) ?_
        refine lv_iload hx hb dL_due_137 (lv_at hl 0 rfl) ?_
        refine lv_imul hx hb dL_due_139 ?_
        refine lv_bipush (v := 6) hx hb dL_due_140 (by decide) ?_
        refine lv_iadd hx hb dL_due_142 ?_
        refine lr_ld hC hI 0 (by decide) (show vp_in ((8 * (nI i124)) + 6) 64 from nx_in (nx_add (nx_mul (by decide : (8 : Int32) = nI 8) rfl) (by decide : (6 : Int32) = nI 6)) (by omega) (by decide)) (v := (L 0 (8 * i124 + 6))) ((congrArg ((upr (upr L 12 (fun (_ : Nat) => (0 : Int32))) 13 (fun (_ : Nat) => (0 : Int32))) 0) (nx_ix (x := ((8 * (nI i124)) + 6)) (nx_add (nx_mul (by decide : (8 : Int32) = nI 8) rfl) (by decide : (6 : Int32) = nI 6)) (by omega))).trans ((congrFun (upr_ne (by decide)) _).trans (congrFun (upr_ne (by decide)) _))) dL_due_143 ?_
        refine lv_isub hx hb dL_due_144 ?_
        refine lv_istore (lv' := [(12, .int (3 - (L 0 (8 * i124 + 6)))), (11, .int (nI i124)), (10, .int x124_10), (9, .ref (lb 13)), (8, .ref (lb 12)), (0, .int (nI k)), (1, .ref (lb 0)), (2, .ref (lb 1)), (3, .ref (lb 2)), (4, .ref (lb 3)), (5, .ref (lb 6)), (6, .ref (lb 7)), (7, .ref (lb 11))]) hx hb dL_due_145 hl (by decide) rfl (fun ls hl => ?_)
        refine lv_aload_n hx hb dL_due_147 rfl (lv_at hl 6 rfl) ?_
        refine lv_bipush (v := 8) hx hb dL_due_148 (by decide) ?_
        refine lv_iload hx hb dL_due_150 (lv_at hl 1 rfl) ?_
        refine lv_imul hx hb dL_due_152 ?_
        refine lv_iconst (v := 2) hx hb dL_due_153 (by decide) ?_
        refine lv_iadd hx hb dL_due_154 ?_
        refine lr_ld hC hI 0 (by decide) (show vp_in ((8 * (nI i124)) + 2) 64 from nx_in (nx_add (nx_mul (by decide : (8 : Int32) = nI 8) rfl) (by decide : (2 : Int32) = nI 2)) (by omega) (by decide)) (v := (L 0 (8 * i124 + 2))) ((congrArg ((upr (upr L 12 (fun (_ : Nat) => (0 : Int32))) 13 (fun (_ : Nat) => (0 : Int32))) 0) (nx_ix (x := ((8 * (nI i124)) + 2)) (nx_add (nx_mul (by decide : (8 : Int32) = nI 8) rfl) (by decide : (2 : Int32) = nI 2)) (by omega))).trans ((congrFun (upr_ne (by decide)) _).trans (congrFun (upr_ne (by decide)) _))) dL_due_155 ?_
        refine lv_istore (lv' := [(13, .int (L 0 (8 * i124 + 2))), (12, .int (3 - (L 0 (8 * i124 + 6)))), (11, .int (nI i124)), (10, .int x124_10), (9, .ref (lb 13)), (8, .ref (lb 12)), (0, .int (nI k)), (1, .ref (lb 0)), (2, .ref (lb 1)), (3, .ref (lb 2)), (4, .ref (lb 3)), (5, .ref (lb 6)), (6, .ref (lb 7)), (7, .ref (lb 11))]) hx hb dL_due_156 hl (by decide) rfl (fun ls hl => ?_)
        refine lv_iload hx hb dL_due_158 (lv_at hl 3 rfl) ?_
        refine lv_iload hx hb dL_due_160 (lv_at hl 1 rfl) ?_
        refine lv_aload hx hb dL_due_162 (lv_at hl 5 rfl) ?_
        refine lv_iload hx hb dL_due_164 (lv_at hl 2 rfl) ?_
        refine lr_ld hC hI 12 (by decide) (show vp_in (nI i124) 8 from nx_in rfl (by omega) (by decide)) (v := ((fun (_ : Nat) => (0 : Int32)) i124)) ((congrArg ((upr (upr L 12 (fun (_ : Nat) => (0 : Int32))) 13 (fun (_ : Nat) => (0 : Int32))) 12) (nx_ix (x := (nI i124)) rfl (by omega))).trans ((congrFun (upr_ne (by decide)) _).trans (congrFun (upr_at _ _ _) _))) dL_due_166 ?_
        refine lv_aload_n hx hb dL_due_167 rfl (lv_at hl 7 rfl) ?_
        refine lv_bipush (v := 8) hx hb dL_due_168 (by decide) ?_
        refine lv_iload hx hb dL_due_170 (lv_at hl 2 rfl) ?_
        refine lv_imul hx hb dL_due_172 ?_
        refine lv_iconst (v := 4) hx hb dL_due_173 (by decide) ?_
        refine lv_iadd hx hb dL_due_174 ?_
        refine lr_ld hC hI 0 (by decide) (show vp_in ((8 * (nI i124)) + 4) 64 from nx_in (nx_add (nx_mul (by decide : (8 : Int32) = nI 8) rfl) (by decide : (4 : Int32) = nI 4)) (by omega) (by decide)) (v := (L 0 (8 * i124 + 4))) ((congrArg ((upr (upr L 12 (fun (_ : Nat) => (0 : Int32))) 13 (fun (_ : Nat) => (0 : Int32))) 0) (nx_ix (x := ((8 * (nI i124)) + 4)) (nx_add (nx_mul (by decide : (8 : Int32) = nI 8) rfl) (by decide : (4 : Int32) = nI 4)) (by omega))).trans ((congrFun (upr_ne (by decide)) _).trans (congrFun (upr_ne (by decide)) _))) dL_due_175 ?_
        refine lv_imul hx hb dL_due_176 ?_
        refine lv_aload_n hx hb dL_due_177 rfl (lv_at hl 7 rfl) ?_
        refine lv_bipush (v := 8) hx hb dL_due_178 (by decide) ?_
        refine lv_iload hx hb dL_due_180 (lv_at hl 2 rfl) ?_
        refine lv_imul hx hb dL_due_182 ?_
        refine lv_iconst (v := 3) hx hb dL_due_183 (by decide) ?_
        refine lv_iadd hx hb dL_due_184 ?_
        refine lr_ld hC hI 0 (by decide) (show vp_in ((8 * (nI i124)) + 3) 64 from nx_in (nx_add (nx_mul (by decide : (8 : Int32) = nI 8) rfl) (by decide : (3 : Int32) = nI 3)) (by omega) (by decide)) (v := (L 0 (8 * i124 + 3))) ((congrArg ((upr (upr L 12 (fun (_ : Nat) => (0 : Int32))) 13 (fun (_ : Nat) => (0 : Int32))) 0) (nx_ix (x := ((8 * (nI i124)) + 3)) (nx_add (nx_mul (by decide : (8 : Int32) = nI 8) rfl) (by decide : (3 : Int32) = nI 3)) (by omega))).trans ((congrFun (upr_ne (by decide)) _).trans (congrFun (upr_ne (by decide)) _))) dL_due_185 ?_
        refine lv_idiv hx hb dL_due_186 (hV.h3 hlt124) ?_
        refine lv_imul hx hb dL_due_187 ?_
        refine lv_iload hx hb dL_due_188 (lv_at hl 0 rfl) ?_
        refine lv_iconst (v := 2) hx hb dL_due_190 (by decide) ?_
        refine lv_icmp_ne (tgt := 199) hx hb dL_due_191 (by decide) (fun c_6 => ?_) (fun c_6 => ?_)
        · have hB124 := hB124.trans (if_neg c_6)
          refine lv_bipush (v := 100) hx hb dL_due_199 (by decide) ?_
          refine lv_iload hx hb dL_due_201 (lv_at hl 0 rfl) ?_
          refine lv_ishr hx hb dL_due_203 ?_
          refine lv_aload hx hb dL_due_204 (lv_at hl 4 rfl) ?_
          refine lv_iload hx hb dL_due_206 (lv_at hl 2 rfl) ?_
          refine lr_ld hC hI 13 (by decide) (show vp_in (nI i124) 8 from nx_in rfl (by omega) (by decide)) (v := ((fun (_ : Nat) => (0 : Int32)) i124)) ((congrArg ((upr (upr L 12 (fun (_ : Nat) => (0 : Int32))) 13 (fun (_ : Nat) => (0 : Int32))) 13) (nx_ix (x := (nI i124)) rfl (by omega))).trans (congrFun (upr_at _ _ _) _)) dL_due_208 ?_
          refine lv_aload_n hx hb dL_due_209 rfl (lv_at hl 7 rfl) ?_
          refine lv_bipush (v := 8) hx hb dL_due_210 (by decide) ?_
          refine lv_iload hx hb dL_due_212 (lv_at hl 2 rfl) ?_
          refine lv_imul hx hb dL_due_214 ?_
          refine lv_iconst (v := 4) hx hb dL_due_215 (by decide) ?_
          refine lv_iadd hx hb dL_due_216 ?_
          refine lr_ld hC hI 0 (by decide) (show vp_in ((8 * (nI i124)) + 4) 64 from nx_in (nx_add (nx_mul (by decide : (8 : Int32) = nI 8) rfl) (by decide : (4 : Int32) = nI 4)) (by omega) (by decide)) (v := (L 0 (8 * i124 + 4))) ((congrArg ((upr (upr L 12 (fun (_ : Nat) => (0 : Int32))) 13 (fun (_ : Nat) => (0 : Int32))) 0) (nx_ix (x := ((8 * (nI i124)) + 4)) (nx_add (nx_mul (by decide : (8 : Int32) = nI 8) rfl) (by decide : (4 : Int32) = nI 4)) (by omega))).trans ((congrFun (upr_ne (by decide)) _).trans (congrFun (upr_ne (by decide)) _))) dL_due_217 ?_
          refine lv_imul hx hb dL_due_218 ?_
          refine lv_aload_n hx hb dL_due_219 rfl (lv_at hl 7 rfl) ?_
          refine lv_bipush (v := 8) hx hb dL_due_220 (by decide) ?_
          refine lv_iload hx hb dL_due_222 (lv_at hl 2 rfl) ?_
          refine lv_imul hx hb dL_due_224 ?_
          refine lv_iconst (v := 3) hx hb dL_due_225 (by decide) ?_
          refine lv_iadd hx hb dL_due_226 ?_
          refine lr_ld hC hI 0 (by decide) (show vp_in ((8 * (nI i124)) + 3) 64 from nx_in (nx_add (nx_mul (by decide : (8 : Int32) = nI 8) rfl) (by decide : (3 : Int32) = nI 3)) (by omega) (by decide)) (v := (L 0 (8 * i124 + 3))) ((congrArg ((upr (upr L 12 (fun (_ : Nat) => (0 : Int32))) 13 (fun (_ : Nat) => (0 : Int32))) 0) (nx_ix (x := ((8 * (nI i124)) + 3)) (nx_add (nx_mul (by decide : (8 : Int32) = nI 8) rfl) (by decide : (3 : Int32) = nI 3)) (by omega))).trans ((congrFun (upr_ne (by decide)) _).trans (congrFun (upr_ne (by decide)) _))) dL_due_227 ?_
          refine lv_idiv hx hb dL_due_228 (hV.h3 hlt124) ?_
          refine lv_imul hx hb dL_due_229 ?_
          refine lv_iadd hx hb dL_due_230 ?_
          refine lv_iadd hx hb dL_due_231 ?_
          refine lv_istore (lv' := [(10, .int (x124_10 + (((3 - (L 0 (8 * i124 + 6))) * ((((fun (_ : Nat) => (0 : Int32)) i124) * (L 0 (8 * i124 + 4))) / (L 0 (8 * i124 + 3)))) + (((100 : Int32) >>> ((L 0 (8 * i124 + 2)) &&& 31)) * ((((fun (_ : Nat) => (0 : Int32)) i124) * (L 0 (8 * i124 + 4))) / (L 0 (8 * i124 + 3))))))), (13, .int (L 0 (8 * i124 + 2))), (12, .int (3 - (L 0 (8 * i124 + 6)))), (11, .int (nI i124)), (9, .ref (lb 13)), (8, .ref (lb 12)), (0, .int (nI k)), (1, .ref (lb 0)), (2, .ref (lb 1)), (3, .ref (lb 2)), (4, .ref (lb 3)), (5, .ref (lb 6)), (6, .ref (lb 7)), (7, .ref (lb 11))]) hx hb dL_due_232 hl (by decide) rfl (fun ls hl => ?_)
          refine lv_iinc (v := (nI (i124 + 1))) (lv' := [(11, .int (nI (i124 + 1))), (10, .int (x124_10 + (((3 - (L 0 (8 * i124 + 6))) * ((((fun (_ : Nat) => (0 : Int32)) i124) * (L 0 (8 * i124 + 4))) / (L 0 (8 * i124 + 3)))) + (((100 : Int32) >>> ((L 0 (8 * i124 + 2)) &&& 31)) * ((((fun (_ : Nat) => (0 : Int32)) i124) * (L 0 (8 * i124 + 4))) / (L 0 (8 * i124 + 3))))))), (13, .int (L 0 (8 * i124 + 2))), (12, .int (3 - (L 0 (8 * i124 + 6)))), (9, .ref (lb 13)), (8, .ref (lb 12)), (0, .int (nI k)), (1, .ref (lb 0)), (2, .ref (lb 1)), (3, .ref (lb 2)), (4, .ref (lb 3)), (5, .ref (lb 6)), (6, .ref (lb 7)), (7, .ref (lb 11))]) hx hb dL_due_234 hl (k := 3) rfl (nI_1 i124) (by decide) rfl (fun ls hl => ?_)
          refine lv_goto (tgt := 124) hx hb dL_due_237 (by decide) ?_
          exact ih124 (x124_10 + (((3 - (L 0 (8 * i124 + 6))) * ((((fun (_ : Nat) => (0 : Int32)) i124) * (L 0 (8 * i124 + 4))) / (L 0 (8 * i124 + 3)))) + (((100 : Int32) >>> ((L 0 (8 * i124 + 2)) &&& 31)) * ((((fun (_ : Nat) => (0 : Int32)) i124) * (L 0 (8 * i124 + 4))) / (L 0 (8 * i124 + 3)))))) _ _ ls hlt124 ⟨(by show _ = iL_due_124 L i124 (lL_due_124 L i124); rw [← hz124]; exact hB124.symm), hI, lv_sub hl [0, 1, 4, 5, 6, 7, 8, 9, 10, 11, 12, 13] rfl⟩
        · have hB124 := hB124.trans (if_pos c_6)
          refine lv_bipush (v := 20) hx hb dL_due_194 (by decide) ?_
          refine lv_goto (tgt := 204) hx hb dL_due_196 (by decide) ?_
          refine lv_aload hx hb dL_due_204 (lv_at hl 4 rfl) ?_
          refine lv_iload hx hb dL_due_206 (lv_at hl 2 rfl) ?_
          refine lr_ld hC hI 13 (by decide) (show vp_in (nI i124) 8 from nx_in rfl (by omega) (by decide)) (v := ((fun (_ : Nat) => (0 : Int32)) i124)) ((congrArg ((upr (upr L 12 (fun (_ : Nat) => (0 : Int32))) 13 (fun (_ : Nat) => (0 : Int32))) 13) (nx_ix (x := (nI i124)) rfl (by omega))).trans (congrFun (upr_at _ _ _) _)) dL_due_208 ?_
          refine lv_aload_n hx hb dL_due_209 rfl (lv_at hl 7 rfl) ?_
          refine lv_bipush (v := 8) hx hb dL_due_210 (by decide) ?_
          refine lv_iload hx hb dL_due_212 (lv_at hl 2 rfl) ?_
          refine lv_imul hx hb dL_due_214 ?_
          refine lv_iconst (v := 4) hx hb dL_due_215 (by decide) ?_
          refine lv_iadd hx hb dL_due_216 ?_
          refine lr_ld hC hI 0 (by decide) (show vp_in ((8 * (nI i124)) + 4) 64 from nx_in (nx_add (nx_mul (by decide : (8 : Int32) = nI 8) rfl) (by decide : (4 : Int32) = nI 4)) (by omega) (by decide)) (v := (L 0 (8 * i124 + 4))) ((congrArg ((upr (upr L 12 (fun (_ : Nat) => (0 : Int32))) 13 (fun (_ : Nat) => (0 : Int32))) 0) (nx_ix (x := ((8 * (nI i124)) + 4)) (nx_add (nx_mul (by decide : (8 : Int32) = nI 8) rfl) (by decide : (4 : Int32) = nI 4)) (by omega))).trans ((congrFun (upr_ne (by decide)) _).trans (congrFun (upr_ne (by decide)) _))) dL_due_217 ?_
          refine lv_imul hx hb dL_due_218 ?_
          refine lv_aload_n hx hb dL_due_219 rfl (lv_at hl 7 rfl) ?_
          refine lv_bipush (v := 8) hx hb dL_due_220 (by decide) ?_
          refine lv_iload hx hb dL_due_222 (lv_at hl 2 rfl) ?_
          refine lv_imul hx hb dL_due_224 ?_
          refine lv_iconst (v := 3) hx hb dL_due_225 (by decide) ?_
          refine lv_iadd hx hb dL_due_226 ?_
          refine lr_ld hC hI 0 (by decide) (show vp_in ((8 * (nI i124)) + 3) 64 from nx_in (nx_add (nx_mul (by decide : (8 : Int32) = nI 8) rfl) (by decide : (3 : Int32) = nI 3)) (by omega) (by decide)) (v := (L 0 (8 * i124 + 3))) ((congrArg ((upr (upr L 12 (fun (_ : Nat) => (0 : Int32))) 13 (fun (_ : Nat) => (0 : Int32))) 0) (nx_ix (x := ((8 * (nI i124)) + 3)) (nx_add (nx_mul (by decide : (8 : Int32) = nI 8) rfl) (by decide : (3 : Int32) = nI 3)) (by omega))).trans ((congrFun (upr_ne (by decide)) _).trans (congrFun (upr_ne (by decide)) _))) dL_due_227 ?_
          refine lv_idiv hx hb dL_due_228 (hV.h3 hlt124) ?_
          refine lv_imul hx hb dL_due_229 ?_
          refine lv_iadd hx hb dL_due_230 ?_
          refine lv_iadd hx hb dL_due_231 ?_
          refine lv_istore (lv' := [(10, .int (x124_10 + (((3 - (L 0 (8 * i124 + 6))) * ((((fun (_ : Nat) => (0 : Int32)) i124) * (L 0 (8 * i124 + 4))) / (L 0 (8 * i124 + 3)))) + (20 * ((((fun (_ : Nat) => (0 : Int32)) i124) * (L 0 (8 * i124 + 4))) / (L 0 (8 * i124 + 3))))))), (13, .int (L 0 (8 * i124 + 2))), (12, .int (3 - (L 0 (8 * i124 + 6)))), (11, .int (nI i124)), (9, .ref (lb 13)), (8, .ref (lb 12)), (0, .int (nI k)), (1, .ref (lb 0)), (2, .ref (lb 1)), (3, .ref (lb 2)), (4, .ref (lb 3)), (5, .ref (lb 6)), (6, .ref (lb 7)), (7, .ref (lb 11))]) hx hb dL_due_232 hl (by decide) rfl (fun ls hl => ?_)
          refine lv_iinc (v := (nI (i124 + 1))) (lv' := [(11, .int (nI (i124 + 1))), (10, .int (x124_10 + (((3 - (L 0 (8 * i124 + 6))) * ((((fun (_ : Nat) => (0 : Int32)) i124) * (L 0 (8 * i124 + 4))) / (L 0 (8 * i124 + 3)))) + (20 * ((((fun (_ : Nat) => (0 : Int32)) i124) * (L 0 (8 * i124 + 4))) / (L 0 (8 * i124 + 3))))))), (13, .int (L 0 (8 * i124 + 2))), (12, .int (3 - (L 0 (8 * i124 + 6)))), (9, .ref (lb 13)), (8, .ref (lb 12)), (0, .int (nI k)), (1, .ref (lb 0)), (2, .ref (lb 1)), (3, .ref (lb 2)), (4, .ref (lb 3)), (5, .ref (lb 6)), (6, .ref (lb 7)), (7, .ref (lb 11))]) hx hb dL_due_234 hl (k := 3) rfl (nI_1 i124) (by decide) rfl (fun ls hl => ?_)
          refine lv_goto (tgt := 124) hx hb dL_due_237 (by decide) ?_
          exact ih124 (x124_10 + (((3 - (L 0 (8 * i124 + 6))) * ((((fun (_ : Nat) => (0 : Int32)) i124) * (L 0 (8 * i124 + 4))) / (L 0 (8 * i124 + 3)))) + (20 * ((((fun (_ : Nat) => (0 : Int32)) i124) * (L 0 (8 * i124 + 4))) / (L 0 (8 * i124 + 3)))))) _ _ ls hlt124 ⟨(by show _ = iL_due_124 L i124 (lL_due_124 L i124); rw [← hz124]; exact hB124.symm), hI, lv_sub hl [0, 1, 4, 5, 6, 7, 8, 9, 10, 11, 12, 13] rfl⟩
  · have hG := hG.trans (if_neg c_1)
    refine w_loop (σ := (Nat → Int32) × (Nat → Int32)) (q2 L) 18 (fun i18 z H locs ls => z = lL_due_18 L k i18 ∧ LI (fun q => s.heap.size ≤ q) 14 D cy lb s (upr (upr L 12 z.1) 13 z.2) H locs ∧ lv_has ls 14 [(11, .int (nI i18)), (10, .int 0), (9, .ref (lb 13)), (8, .ref (lb 12)), (0, .int (nI k)), (1, .ref (lb 0)), (2, .ref (lb 1)), (3, .ref (lb 2)), (4, .ref (lb 3)), (5, .ref (lb 6)), (6, .ref (lb 7)), (7, .ref (lb 11))]) ?_ ((fun (_ : Nat) => (0 : Int32)), (fun (_ : Nat) => (0 : Int32))) ⟨rfl, hI, lv_sub hl [0, 1, 2, 3, 4, 5, 6, 7, 8, 9, 10, 11] rfl⟩
    intro i18 z H locs ls ⟨hz18, hI, hl⟩ hi18 ih18
    obtain ⟨w18_12, w18_13⟩ := z
    dsimp only at hI hl hz18
    refine lv_iload hx hb dL_due_18 (lv_at hl 0 rfl) ?_
    refine lv_aload hx hb dL_due_20 (lv_at hl 11 rfl) ?_
    refine lv_iconst (v := 2) hx hb dL_due_22 (by decide) ?_
    refine lr_ld hC hI 11 (by decide) (nx_in (by decide : (2 : Int32) = nI 2) (by decide) (by decide)) (v := (L 11 2)) ((congrArg ((upr (upr L 12 w18_12) 13 w18_13) 11) (by decide : ix 2 = 2)).trans ((congrFun (upr_ne (by decide)) _).trans (congrFun (upr_ne (by decide)) _))) dL_due_23 ?_
    refine lv_icmp_ge (tgt := 121) hx hb dL_due_24 (by decide) (fun c_7 => ?_) (fun c_7 => ?_)
    · obtain rfl : i18 = q2 L := w_exit hV.n2 hi18 (by have := hV.b2; omega) c_7
      obtain rfl : w18_12 = (lL_due_18 L k (q2 L)).1 := by rw [← hz18]
      obtain rfl : w18_13 = (lL_due_18 L k (q2 L)).2 := by rw [← hz18]
      refine lv_iconst (v := 0) hx hb dL_due_121 (by decide) ?_
      refine lv_istore (lv' := [(11, .int 0), (10, .int 0), (9, .ref (lb 13)), (8, .ref (lb 12)), (0, .int (nI k)), (1, .ref (lb 0)), (2, .ref (lb 1)), (3, .ref (lb 2)), (4, .ref (lb 3)), (5, .ref (lb 6)), (6, .ref (lb 7)), (7, .ref (lb 11))]) hx hb dL_due_122 hl (by decide) rfl (fun ls hl => ?_)
      refine w_loop (σ := Int32) (q1 L) 124 (fun i124 z H locs ls => z = lL_due_124_v3 L k i124 ∧ LI (fun q => s.heap.size ≤ q) 14 D cy lb s (upr (upr L 12 ((lL_due_18 L k (q2 L)).1)) 13 ((lL_due_18 L k (q2 L)).2)) H locs ∧ lv_has ls 14 [(11, .int (nI i124)), (10, .int z), (9, .ref (lb 13)), (8, .ref (lb 12)), (0, .int (nI k)), (1, .ref (lb 0)), (2, .ref (lb 1)), (3, .ref (lb 2)), (4, .ref (lb 3)), (5, .ref (lb 6)), (6, .ref (lb 7)), (7, .ref (lb 11))]) ?_ 0 ⟨rfl, hI, lv_sub hl [0, 1, 2, 3, 4, 5, 6, 7, 8, 9, 10, 11] rfl⟩
      intro i124 z H locs ls ⟨hz124, hI, hl⟩ hi124 ih124
      obtain ⟨x124_10, rfl⟩ : ∃ x, x = z := ⟨_, rfl⟩
      refine lv_iload hx hb dL_due_124 (lv_at hl 0 rfl) ?_
      refine lv_aload hx hb dL_due_126 (lv_at hl 11 rfl) ?_
      refine lv_iconst (v := 1) hx hb dL_due_128 (by decide) ?_
      refine lr_ld hC hI 11 (by decide) (nx_in (by decide : (1 : Int32) = nI 1) (by decide) (by decide)) (v := (L 11 1)) ((congrArg ((upr (upr L 12 ((lL_due_18 L k (q2 L)).1)) 13 ((lL_due_18 L k (q2 L)).2)) 11) (by decide : ix 1 = 1)).trans ((congrFun (upr_ne (by decide)) _).trans (congrFun (upr_ne (by decide)) _))) dL_due_129 ?_
      refine lv_icmp_ge (tgt := 240) hx hb dL_due_130 (by decide) (fun c_11 => ?_) (fun c_11 => ?_)
      · obtain rfl : i124 = q1 L := w_exit hV.n1 hi124 (by have := hV.b1; omega) c_11
        obtain rfl : x124_10 = (lL_due_124_v3 L k (q1 L)) := by rw [← hz124]
        refine lv_iload hx hb dL_due_240 (lv_at hl 1 rfl) ?_
        refine va_forget (fun q hq => hI.2.2.2 q hq) ?_
        have hSF : va_S (fun _ => False) s.heap H [] := ⟨hI.2.1, fun x h1 _ => hI.2.2.1 x h1 (Nat.not_le.mpr h1), fun _ h => by cases h⟩
        refine W.widen (k := 2) (n := 16) (Nat.le_of_ble_eq_true rfl) (Nat.le_of_ble_eq_true rfl) ?_
        exact W.iret (v := (lL_due_124_v3 L k (q1 L))) hx hb hr (fun t9 ht9 hW9 => ⟨⟨(lL_due_124_v3 L k (q1 L)), (), rfl, hG.symm, trivial⟩, hSF.F ht9⟩) hSF.2.2 dL_due_242
      · have hlt124 : i124 < q1 L := w_in hV.n1 hi124 (by have := hV.b1; omega) c_11
        have hB124 : iL_due_124_v3 L k i124 x124_10 = iL_due_124_v3 L k i124 x124_10 := rfl
        refine lv_iconst (v := 3) hx hb dL_due_133 (by decide) ?_
        refine lv_aload_n hx hb dL_due_134 rfl (lv_at hl 5 rfl) ?_
        refine lv_bipush (v := 8) hx hb dL_due_135 (by decide) ?_
        refine lv_iload hx hb dL_due_137 (lv_at hl 0 rfl) ?_
        refine lv_imul hx hb dL_due_139 ?_
        refine lv_bipush (v := 6) hx hb dL_due_140 (by decide) ?_
        refine lv_iadd hx hb dL_due_142 ?_
        refine lr_ld hC hI 0 (by decide) (show vp_in ((8 * (nI i124)) + 6) 64 from nx_in (nx_add (nx_mul (by decide : (8 : Int32) = nI 8) rfl) (by decide : (6 : Int32) = nI 6)) (by omega) (by decide)) (v := (L 0 (8 * i124 + 6))) ((congrArg ((upr (upr L 12 ((lL_due_18 L k (q2 L)).1)) 13 ((lL_due_18 L k (q2 L)).2)) 0) (nx_ix (x := ((8 * (nI i124)) + 6)) (nx_add (nx_mul (by decide : (8 : Int32) = nI 8) rfl) (by decide : (6 : Int32) = nI 6)) (by omega))).trans ((congrFun (upr_ne (by decide)) _).trans (congrFun (upr_ne (by decide)) _))) dL_due_143 ?_
        refine lv_isub hx hb dL_due_144 ?_
        refine lv_istore (lv' := [(12, .int (3 - (L 0 (8 * i124 + 6)))), (11, .int (nI i124)), (10, .int x124_10), (9, .ref (lb 13)), (8, .ref (lb 12)), (0, .int (nI k)), (1, .ref (lb 0)), (2, .ref (lb 1)), (3, .ref (lb 2)), (4, .ref (lb 3)), (5, .ref (lb 6)), (6, .ref (lb 7)), (7, .ref (lb 11))]) hx hb dL_due_145 hl (by decide) rfl (fun ls hl => ?_)
        refine lv_aload_n hx hb dL_due_147 rfl (lv_at hl 6 rfl) ?_
        refine lv_bipush (v := 8) hx hb dL_due_148 (by decide) ?_
        refine lv_iload hx hb dL_due_150 (lv_at hl 1 rfl) ?_
        refine lv_imul hx hb dL_due_152 ?_
        refine lv_iconst (v := 2) hx hb dL_due_153 (by decide) ?_
        refine lv_iadd hx hb dL_due_154 ?_
        refine lr_ld hC hI 0 (by decide) (show vp_in ((8 * (nI i124)) + 2) 64 from nx_in (nx_add (nx_mul (by decide : (8 : Int32) = nI 8) rfl) (by decide : (2 : Int32) = nI 2)) (by omega) (by decide)) (v := (L 0 (8 * i124 + 2))) ((congrArg ((upr (upr L 12 ((lL_due_18 L k (q2 L)).1)) 13 ((lL_due_18 L k (q2 L)).2)) 0) (nx_ix (x := ((8 * (nI i124)) + 2)) (nx_add (nx_mul (by decide : (8 : Int32) = nI 8) rfl) (by decide : (2 : Int32) = nI 2)) (by omega))).trans ((congrFun (upr_ne (by decide)) _).trans (congrFun (upr_ne (by decide)) _))) dL_due_155 ?_
        refine lv_istore (lv' := [(13, .int (L 0 (8 * i124 + 2))), (12, .int (3 - (L 0 (8 * i124 + 6)))), (11, .int (nI i124)), (10, .int x124_10), (9, .ref (lb 13)), (8, .ref (lb 12)), (0, .int (nI k)), (1, .ref (lb 0)), (2, .ref (lb 1)), (3, .ref (lb 2)), (4, .ref (lb 3)), (5, .ref (lb 6)), (6, .ref (lb 7)), (7, .ref (lb 11))]) hx hb dL_due_156 hl (by decide) rfl (fun ls hl => ?_)
        refine lv_iload hx hb dL_due_158 (lv_at hl 3 rfl) ?_
        refine lv_iload hx hb dL_due_160 (lv_at hl 1 rfl) ?_
        refine lv_aload hx hb dL_due_162 (lv_at hl 5 rfl) ?_
        refine lv_iload hx hb dL_due_164 (lv_at hl 2 rfl) ?_
        refine lr_ld hC hI 12 (by decide) (show vp_in (nI i124) 8 from nx_in rfl (by omega) (by decide)) (v := (((lL_due_18 L k (q2 L)).1) i124)) ((congrArg ((upr (upr L 12 ((lL_due_18 L k (q2 L)).1)) 13 ((lL_due_18 L k (q2 L)).2)) 12) (nx_ix (x := (nI i124)) rfl (by omega))).trans ((congrFun (upr_ne (by decide)) _).trans (congrFun (upr_at _ _ _) _))) dL_due_166 ?_
        refine lv_aload_n hx hb dL_due_167 rfl (lv_at hl 7 rfl) ?_
        refine lv_bipush (v := 8) hx hb dL_due_168 (by decide) ?_
        refine lv_iload hx hb dL_due_170 (lv_at hl 2 rfl) ?_
        refine lv_imul hx hb dL_due_172 ?_
        refine lv_iconst (v := 4) hx hb dL_due_173 (by decide) ?_
        refine lv_iadd hx hb dL_due_174 ?_
        refine lr_ld hC hI 0 (by decide) (show vp_in ((8 * (nI i124)) + 4) 64 from nx_in (nx_add (nx_mul (by decide : (8 : Int32) = nI 8) rfl) (by decide : (4 : Int32) = nI 4)) (by omega) (by decide)) (v := (L 0 (8 * i124 + 4))) ((congrArg ((upr (upr L 12 ((lL_due_18 L k (q2 L)).1)) 13 ((lL_due_18 L k (q2 L)).2)) 0) (nx_ix (x := ((8 * (nI i124)) + 4)) (nx_add (nx_mul (by decide : (8 : Int32) = nI 8) rfl) (by decide : (4 : Int32) = nI 4)) (by omega))).trans ((congrFun (upr_ne (by decide)) _).trans (congrFun (upr_ne (by decide)) _))) dL_due_175 ?_
        refine lv_imul hx hb dL_due_176 ?_
        refine lv_aload_n hx hb dL_due_177 rfl (lv_at hl 7 rfl) ?_
        refine lv_bipush (v := 8) hx hb dL_due_178 (by decide) ?_
        refine lv_iload hx hb dL_due_180 (lv_at hl 2 rfl) ?_
        refine lv_imul hx hb dL_due_182 ?_
        refine lv_iconst (v := 3) hx hb dL_due_183 (by decide) ?_
        refine lv_iadd hx hb dL_due_184 ?_
        refine lr_ld hC hI 0 (by decide) (show vp_in ((8 * (nI i124)) + 3) 64 from nx_in (nx_add (nx_mul (by decide : (8 : Int32) = nI 8) rfl) (by decide : (3 : Int32) = nI 3)) (by omega) (by decide)) (v := (L 0 (8 * i124 + 3))) ((congrArg ((upr (upr L 12 ((lL_due_18 L k (q2 L)).1)) 13 ((lL_due_18 L k (q2 L)).2)) 0) (nx_ix (x := ((8 * (nI i124)) + 3)) (nx_add (nx_mul (by decide : (8 : Int32) = nI 8) rfl) (by decide : (3 : Int32) = nI 3)) (by omega))).trans ((congrFun (upr_ne (by decide)) _).trans (congrFun (upr_ne (by decide)) _))) dL_due_185 ?_
        refine lv_idiv hx hb dL_due_186 (hV.h3 hlt124) ?_
        refine lv_imul hx hb dL_due_187 ?_
        refine lv_iload hx hb dL_due_188 (lv_at hl 0 rfl) ?_
        refine lv_iconst (v := 2) hx hb dL_due_190 (by decide) ?_
        refine lv_icmp_ne (tgt := 199) hx hb dL_due_191 (by decide) (fun c_12 => ?_) (fun c_12 => ?_)
        · have hB124 := hB124.trans (if_neg c_12)
          refine lv_bipush (v := 100) hx hb dL_due_199 (by decide) ?_
          refine lv_iload hx hb dL_due_201 (lv_at hl 0 rfl) ?_
          refine lv_ishr hx hb dL_due_203 ?_
          refine lv_aload hx hb dL_due_204 (lv_at hl 4 rfl) ?_
          refine lv_iload hx hb dL_due_206 (lv_at hl 2 rfl) ?_
          refine lr_ld hC hI 13 (by decide) (show vp_in (nI i124) 8 from nx_in rfl (by omega) (by decide)) (v := (((lL_due_18 L k (q2 L)).2) i124)) ((congrArg ((upr (upr L 12 ((lL_due_18 L k (q2 L)).1)) 13 ((lL_due_18 L k (q2 L)).2)) 13) (nx_ix (x := (nI i124)) rfl (by omega))).trans (congrFun (upr_at _ _ _) _)) dL_due_208 ?_
          refine lv_aload_n hx hb dL_due_209 rfl (lv_at hl 7 rfl) ?_
          refine lv_bipush (v := 8) hx hb dL_due_210 (by decide) ?_
          refine lv_iload hx hb dL_due_212 (lv_at hl 2 rfl) ?_
          refine lv_imul hx hb dL_due_214 ?_
          refine lv_iconst (v := 4) hx hb dL_due_215 (by decide) ?_
          refine lv_iadd hx hb dL_due_216 ?_
          refine lr_ld hC hI 0 (by decide) (show vp_in ((8 * (nI i124)) + 4) 64 from nx_in (nx_add (nx_mul (by decide : (8 : Int32) = nI 8) rfl) (by decide : (4 : Int32) = nI 4)) (by omega) (by decide)) (v := (L 0 (8 * i124 + 4))) ((congrArg ((upr (upr L 12 ((lL_due_18 L k (q2 L)).1)) 13 ((lL_due_18 L k (q2 L)).2)) 0) (nx_ix (x := ((8 * (nI i124)) + 4)) (nx_add (nx_mul (by decide : (8 : Int32) = nI 8) rfl) (by decide : (4 : Int32) = nI 4)) (by omega))).trans ((congrFun (upr_ne (by decide)) _).trans (congrFun (upr_ne (by decide)) _))) dL_due_217 ?_
          refine lv_imul hx hb dL_due_218 ?_
          refine lv_aload_n hx hb dL_due_219 rfl (lv_at hl 7 rfl) ?_
          refine lv_bipush (v := 8) hx hb dL_due_220 (by decide) ?_
          refine lv_iload hx hb dL_due_222 (lv_at hl 2 rfl) ?_
          refine lv_imul hx hb dL_due_224 ?_
          refine lv_iconst (v := 3) hx hb dL_due_225 (by decide) ?_
          refine lv_iadd hx hb dL_due_226 ?_
          refine lr_ld hC hI 0 (by decide) (show vp_in ((8 * (nI i124)) + 3) 64 from nx_in (nx_add (nx_mul (by decide : (8 : Int32) = nI 8) rfl) (by decide : (3 : Int32) = nI 3)) (by omega) (by decide)) (v := (L 0 (8 * i124 + 3))) ((congrArg ((upr (upr L 12 ((lL_due_18 L k (q2 L)).1)) 13 ((lL_due_18 L k (q2 L)).2)) 0) (nx_ix (x := ((8 * (nI i124)) + 3)) (nx_add (nx_mul (by decide : (8 : Int32) = nI 8) rfl) (by decide : (3 : Int32) = nI 3)) (by omega))).trans ((congrFun (upr_ne (by decide)) _).trans (congrFun (upr_ne (by decide)) _))) dL_due_227 ?_
          refine lv_idiv hx hb dL_due_228 (hV.h3 hlt124) ?_
          refine lv_imul hx hb dL_due_229 ?_
          refine lv_iadd hx hb dL_due_230 ?_
          refine lv_iadd hx hb dL_due_231 ?_
          refine lv_istore (lv' := [(10, .int (x124_10 + (((3 - (L 0 (8 * i124 + 6))) * (((((lL_due_18 L k (q2 L)).1) i124) * (L 0 (8 * i124 + 4))) / (L 0 (8 * i124 + 3)))) + (((100 : Int32) >>> ((L 0 (8 * i124 + 2)) &&& 31)) * (((((lL_due_18 L k (q2 L)).2) i124) * (L 0 (8 * i124 + 4))) / (L 0 (8 * i124 + 3))))))), (13, .int (L 0 (8 * i124 + 2))), (12, .int (3 - (L 0 (8 * i124 + 6)))), (11, .int (nI i124)), (9, .ref (lb 13)), (8, .ref (lb 12)), (0, .int (nI k)), (1, .ref (lb 0)), (2, .ref (lb 1)), (3, .ref (lb 2)), (4, .ref (lb 3)), (5, .ref (lb 6)), (6, .ref (lb 7)), (7, .ref (lb 11))]) hx hb dL_due_232 hl (by decide) rfl (fun ls hl => ?_)
          refine lv_iinc (v := (nI (i124 + 1))) (lv' := [(11, .int (nI (i124 + 1))), (10, .int (x124_10 + (((3 - (L 0 (8 * i124 + 6))) * (((((lL_due_18 L k (q2 L)).1) i124) * (L 0 (8 * i124 + 4))) / (L 0 (8 * i124 + 3)))) + (((100 : Int32) >>> ((L 0 (8 * i124 + 2)) &&& 31)) * (((((lL_due_18 L k (q2 L)).2) i124) * (L 0 (8 * i124 + 4))) / (L 0 (8 * i124 + 3))))))), (13, .int (L 0 (8 * i124 + 2))), (12, .int (3 - (L 0 (8 * i124 + 6)))), (9, .ref (lb 13)), (8, .ref (lb 12)), (0, .int (nI k)), (1, .ref (lb 0)), (2, .ref (lb 1)), (3, .ref (lb 2)), (4, .ref (lb 3)), (5, .ref (lb 6)), (6, .ref (lb 7)), (7, .ref (lb 11))]) hx hb dL_due_234 hl (k := 3) rfl (nI_1 i124) (by decide) rfl (fun ls hl => ?_)
          refine lv_goto (tgt := 124) hx hb dL_due_237 (by decide) ?_
          exact ih124 (x124_10 + (((3 - (L 0 (8 * i124 + 6))) * (((((lL_due_18 L k (q2 L)).1) i124) * (L 0 (8 * i124 + 4))) / (L 0 (8 * i124 + 3)))) + (((100 : Int32) >>> ((L 0 (8 * i124 + 2)) &&& 31)) * (((((lL_due_18 L k (q2 L)).2) i124) * (L 0 (8 * i124 + 4))) / (L 0 (8 * i124 + 3)))))) _ _ ls hlt124 ⟨(by show _ = iL_due_124_v3 L k i124 (lL_due_124_v3 L k i124); rw [← hz124]; exact hB124.symm), hI, lv_sub hl [0, 1, 4, 5, 6, 7, 8, 9, 10, 11, 12, 13] rfl⟩
        · have hB124 := hB124.trans (if_pos c_12)
          refine lv_bipush (v := 20) hx hb dL_due_194 (by decide) ?_
          refine lv_goto (tgt := 204) hx hb dL_due_196 (by decide) ?_
          refine lv_aload hx hb dL_due_204 (lv_at hl 4 rfl) ?_
          refine lv_iload hx hb dL_due_206 (lv_at hl 2 rfl) ?_
          refine lr_ld hC hI 13 (by decide) (show vp_in (nI i124) 8 from nx_in rfl (by omega) (by decide)) (v := (((lL_due_18 L k (q2 L)).2) i124)) ((congrArg ((upr (upr L 12 ((lL_due_18 L k (q2 L)).1)) 13 ((lL_due_18 L k (q2 L)).2)) 13) (nx_ix (x := (nI i124)) rfl (by omega))).trans (congrFun (upr_at _ _ _) _)) dL_due_208 ?_
          refine lv_aload_n hx hb dL_due_209 rfl (lv_at hl 7 rfl) ?_
          refine lv_bipush (v := 8) hx hb dL_due_210 (by decide) ?_
          refine lv_iload hx hb dL_due_212 (lv_at hl 2 rfl) ?_
          refine lv_imul hx hb dL_due_214 ?_
          refine lv_iconst (v := 4) hx hb dL_due_215 (by decide) ?_
          refine lv_iadd hx hb dL_due_216 ?_
          refine lr_ld hC hI 0 (by decide) (show vp_in ((8 * (nI i124)) + 4) 64 from nx_in (nx_add (nx_mul (by decide : (8 : Int32) = nI 8) rfl) (by decide : (4 : Int32) = nI 4)) (by omega) (by decide)) (v := (L 0 (8 * i124 + 4))) ((congrArg ((upr (upr L 12 ((lL_due_18 L k (q2 L)).1)) 13 ((lL_due_18 L k (q2 L)).2)) 0) (nx_ix (x := ((8 * (nI i124)) + 4)) (nx_add (nx_mul (by decide : (8 : Int32) = nI 8) rfl) (by decide : (4 : Int32) = nI 4)) (by omega))).trans ((congrFun (upr_ne (by decide)) _).trans (congrFun (upr_ne (by decide)) _))) dL_due_217 ?_
          refine lv_imul hx hb dL_due_218 ?_
          refine lv_aload_n hx hb dL_due_219 rfl (lv_at hl 7 rfl) ?_
          refine lv_bipush (v := 8) hx hb dL_due_220 (by decide) ?_
          refine lv_iload hx hb dL_due_222 (lv_at hl 2 rfl) ?_
          refine lv_imul hx hb dL_due_224 ?_
          refine lv_iconst (v := 3) hx hb dL_due_225 (by decide) ?_
          refine lv_iadd hx hb dL_due_226 ?_
          refine lr_ld hC hI 0 (by decide) (show vp_in ((8 * (nI i124)) + 3) 64 from nx_in (nx_add (nx_mul (by decide : (8 : Int32) = nI 8) rfl) (by decide : (3 : Int32) = nI 3)) (by omega) (by decide)) (v := (L 0 (8 * i124 + 3))) ((congrArg ((upr (upr L 12 ((lL_due_18 L k (q2 L)).1)) 13 ((lL_due_18 L k (q2 L)).2)) 0) (nx_ix (x := ((8 * (nI i124)) + 3)) (nx_add (nx_mul (by decide : (8 : Int32) = nI 8) rfl) (by decide : (3 : Int32) = nI 3)) (by omega))).trans ((congrFun (upr_ne (by decide)) _).trans (congrFun (upr_ne (by decide)) _))) dL_due_227 ?_
          refine lv_idiv hx hb dL_due_228 (hV.h3 hlt124) ?_
          refine lv_imul hx hb dL_due_229 ?_
          refine lv_iadd hx hb dL_due_230 ?_
          refine lv_iadd hx hb dL_due_231 ?_
          refine lv_istore (lv' := [(10, .int (x124_10 + (((3 - (L 0 (8 * i124 + 6))) * (((((lL_due_18 L k (q2 L)).1) i124) * (L 0 (8 * i124 + 4))) / (L 0 (8 * i124 + 3)))) + (20 * (((((lL_due_18 L k (q2 L)).2) i124) * (L 0 (8 * i124 + 4))) / (L 0 (8 * i124 + 3))))))), (13, .int (L 0 (8 * i124 + 2))), (12, .int (3 - (L 0 (8 * i124 + 6)))), (11, .int (nI i124)), (9, .ref (lb 13)), (8, .ref (lb 12)), (0, .int (nI k)), (1, .ref (lb 0)), (2, .ref (lb 1)), (3, .ref (lb 2)), (4, .ref (lb 3)), (5, .ref (lb 6)), (6, .ref (lb 7)), (7, .ref (lb 11))]) hx hb dL_due_232 hl (by decide) rfl (fun ls hl => ?_)
          refine lv_iinc (v := (nI (i124 + 1))) (lv' := [(11, .int (nI (i124 + 1))), (10, .int (x124_10 + (((3 - (L 0 (8 * i124 + 6))) * (((((lL_due_18 L k (q2 L)).1) i124) * (L 0 (8 * i124 + 4))) / (L 0 (8 * i124 + 3)))) + (20 * (((((lL_due_18 L k (q2 L)).2) i124) * (L 0 (8 * i124 + 4))) / (L 0 (8 * i124 + 3))))))), (13, .int (L 0 (8 * i124 + 2))), (12, .int (3 - (L 0 (8 * i124 + 6)))), (9, .ref (lb 13)), (8, .ref (lb 12)), (0, .int (nI k)), (1, .ref (lb 0)), (2, .ref (lb 1)), (3, .ref (lb 2)), (4, .ref (lb 3)), (5, .ref (lb 6)), (6, .ref (lb 7)), (7, .ref (lb 11))]) hx hb dL_due_234 hl (k := 3) rfl (nI_1 i124) (by decide) rfl (fun ls hl => ?_)
          refine lv_goto (tgt := 124) hx hb dL_due_237 (by decide) ?_
          exact ih124 (x124_10 + (((3 - (L 0 (8 * i124 + 6))) * (((((lL_due_18 L k (q2 L)).1) i124) * (L 0 (8 * i124 + 4))) / (L 0 (8 * i124 + 3)))) + (20 * (((((lL_due_18 L k (q2 L)).2) i124) * (L 0 (8 * i124 + 4))) / (L 0 (8 * i124 + 3)))))) _ _ ls hlt124 ⟨(by show _ = iL_due_124_v3 L k i124 (lL_due_124_v3 L k i124); rw [← hz124]; exact hB124.symm), hI, lv_sub hl [0, 1, 4, 5, 6, 7, 8, 9, 10, 11, 12, 13] rfl⟩
    · have hlt18 : i18 < q2 L := w_in hV.n2 hi18 (by have := hV.b2; omega) c_7
      have hB18 : iL_due_18 L k i18 w18_12 w18_13 = iL_due_18 L k i18 w18_12 w18_13 := rfl
      refine lv_aload hx hb dL_due_27 (lv_at hl 9 rfl) ?_
      refine lv_bipush (v := 8) hx hb dL_due_29 (by decide) ?_
      refine lv_iload_n hx hb dL_due_31 rfl (lv_at hl 4 rfl) ?_
      refine lv_imul hx hb dL_due_32 ?_
      refine lv_iconst (v := 3) hx hb dL_due_33 (by decide) ?_
      refine lv_iadd hx hb dL_due_34 ?_
      refine lr_ld hC hI 6 (by decide) (show vp_in ((8 * (nI k)) + 3) 64 from nx_in (nx_add (nx_mul (by decide : (8 : Int32) = nI 8) rfl) (by decide : (3 : Int32) = nI 3)) (by omega) (by decide)) (v := (L 6 (8 * k + 3))) ((congrArg ((upr (upr L 12 w18_12) 13 w18_13) 6) (nx_ix (x := ((8 * (nI k)) + 3)) (nx_add (nx_mul (by decide : (8 : Int32) = nI 8) rfl) (by decide : (3 : Int32) = nI 3)) (by omega))).trans ((congrFun (upr_ne (by decide)) _).trans (congrFun (upr_ne (by decide)) _))) dL_due_35 ?_
      refine lv_iconst (v := 3) hx hb dL_due_36 (by decide) ?_
      refine lv_icmp_ge (tgt := 121) hx hb dL_due_37 (by decide) (fun c => absurd c c_1) (fun _ => ?_)
      refine lv_iload hx hb dL_due_40 (lv_at hl 0 rfl) ?_
      refine lv_iload_n hx hb dL_due_42 rfl (lv_at hl 4 rfl) ?_
      refine lv_aload_n hx hb dL_due_43 rfl (lv_at hl 5 rfl) ?_
      refine lv_aload_n hx hb dL_due_44 rfl (lv_at hl 6 rfl) ?_
      refine lv_aload_n hx hb dL_due_45 rfl (lv_at hl 7 rfl) ?_
      refine lv_aload hx hb dL_due_46 (lv_at hl 8 rfl) ?_
      refine lv_aload hx hb dL_due_48 (lv_at hl 9 rfl) ?_
      refine lv_aload hx hb dL_due_50 (lv_at hl 10 rfl) ?_
      refine lv_aload hx hb dL_due_52 (lv_at hl 11 rfl) ?_
      refine lr_call (As := [.int (nI i18), .int (nI k), .ref (lb 0), .ref (lb 1), .ref (lb 2), .ref (lb 3), .ref (lb 6), .ref (lb 7), .ref (lb 11)]) (rest := []) hC hI (by decide) (fun k9 hk9 => ((upr_ne (by omega)).trans (upr_ne (by omega)))) (qL_counts l D cy lb L hV i18 (by omega) rfl k (by omega) rfl) (va_cwS 9 hts gL_due_L_counts rfl rfl rfl (by decide +kernel) ⟨Nat.le_of_ble_eq_true rfl, Nat.le_of_ble_eq_true rfl⟩) rfl hl.1 rfl (Nat.le_of_ble_eq_true rfl) dL_due_54 ⟨Nat.le_of_ble_eq_true rfl, Nat.le_of_ble_eq_true rfl⟩ (fun H locs hk9 hz9 hI => ?_)
      refine lv_istore (lv' := [(12, .int (fL_counts L i18 k)), (11, .int (nI i18)), (10, .int 0), (9, .ref (lb 13)), (8, .ref (lb 12)), (0, .int (nI k)), (1, .ref (lb 0)), (2, .ref (lb 1)), (3, .ref (lb 2)), (4, .ref (lb 3)), (5, .ref (lb 6)), (6, .ref (lb 7)), (7, .ref (lb 11))]) hx hb dL_due_57 hl (by decide) rfl (fun ls hl => ?_)
      refine lv_aload hx hb dL_due_59 (lv_at hl 4 rfl) ?_
      refine lv_aload_n hx hb dL_due_61 rfl (lv_at hl 7 rfl) ?_
      refine lv_iload hx hb dL_due_62 (lv_at hl 1 rfl) ?_
      refine lr_ld hC hI 1 (by decide) (show vp_in (nI i18) 40 from nx_in rfl (by omega) (by decide)) (v := (L 1 i18)) ((congrArg ((upr (upr L 12 w18_12) 13 w18_13) 1) (nx_ix (x := (nI i18)) rfl (by omega))).trans ((congrFun (upr_ne (by decide)) _).trans (congrFun (upr_ne (by decide)) _))) dL_due_64 ?_
      refine lv_bipush (v := 8) hx hb dL_due_65 (by decide) ?_
      refine lv_irem hx hb dL_due_67 (by decide) ?_
      refine lv_dup2_11 hx hb dL_due_68 rfl rfl ?_
      refine lr_ld hC hI 12 (by decide) (show vp_in ((L 1 i18) - (L 1 i18) / 8 * 8) 8 from nx_in (vp_ixe (hV.c8 i18)) (by have h90 := vp_ixl (hV.c8 i18); omega) (by decide)) (v := (w18_12 (ix (L 1 i18 - L 1 i18 / 8 * 8)))) ((congrArg ((upr (upr L 12 w18_12) 13 w18_13) 12) (nx_ix (x := ((L 1 i18) - (L 1 i18) / 8 * 8)) (vp_ixe (hV.c8 i18)) (by have h90 := vp_ixl (hV.c8 i18); omega))).trans ((congrFun (upr_ne (by decide)) _).trans (congrFun (upr_at _ _ _) _))) dL_due_69 ?_
      refine lv_iload hx hb dL_due_70 (lv_at hl 0 rfl) ?_
      refine lv_if_eq (tgt := 89) hx hb dL_due_72 (by decide) (fun c_10 => ?_) (fun c_10 => ?_)
      · have hB18 := hB18.trans (if_pos c_10)
        refine lv_iconst (v := 0) hx hb dL_due_89 (by decide) ?_
        refine lv_iadd hx hb dL_due_90 ?_
        refine lr_st hC 12 (by decide) hL12 hI (show vp_in ((L 1 i18) - (L 1 i18) / 8 * 8) 8 from nx_in (vp_ixe (hV.c8 i18)) (by have h90 := vp_ixl (hV.c8 i18); omega) (by decide)) (n := (ix (L 1 i18 - L 1 i18 / 8 * 8))) (nx_ix (x := ((L 1 i18) - (L 1 i18) / 8 * 8)) (vp_ixe (hV.c8 i18)) (by have h90 := vp_ixl (hV.c8 i18); omega)) dL_due_91 (fun H locs hI => ?_)
        refine lv_aload hx hb dL_due_92 (lv_at hl 3 rfl) ?_
        refine lv_aload_n hx hb dL_due_94 rfl (lv_at hl 7 rfl) ?_
        refine lv_iload hx hb dL_due_95 (lv_at hl 1 rfl) ?_
        refine lr_ld hC hI 1 (by decide) (show vp_in (nI i18) 40 from nx_in rfl (by omega) (by decide)) (v := (L 1 i18)) ((congrArg ((up (upr (upr L 12 w18_12) 13 w18_13) 12 (ix (L 1 i18 - L 1 i18 / 8 * 8)) ((w18_12 (ix (L 1 i18 - L 1 i18 / 8 * 8))) + 0)) 1) (nx_ix (x := (nI i18)) rfl (by omega))).trans ((congrFun (up_ne (by decide)) _).trans ((congrFun (upr_ne (by decide)) _).trans (congrFun (upr_ne (by decide)) _)))) dL_due_97 ?_
        refine lv_bipush (v := 8) hx hb dL_due_98 (by decide) ?_
        refine lv_irem hx hb dL_due_100 (by decide) ?_
        refine lv_dup2_11 hx hb dL_due_101 rfl rfl ?_
        refine lr_ld hC hI 13 (by decide) (show vp_in ((L 1 i18) - (L 1 i18) / 8 * 8) 8 from nx_in (vp_ixe (hV.c8 i18)) (by have h90 := vp_ixl (hV.c8 i18); omega) (by decide)) (v := (w18_13 (ix (L 1 i18 - L 1 i18 / 8 * 8)))) ((congrArg ((up (upr (upr L 12 w18_12) 13 w18_13) 12 (ix (L 1 i18 - L 1 i18 / 8 * 8)) ((w18_12 (ix (L 1 i18 - L 1 i18 / 8 * 8))) + 0)) 13) (nx_ix (x := ((L 1 i18) - (L 1 i18) / 8 * 8)) (vp_ixe (hV.c8 i18)) (by have h90 := vp_ixl (hV.c8 i18); omega))).trans ((congrFun (up_ne (by decide)) _).trans (congrFun (upr_at _ _ _) _))) dL_due_102 ?_
        refine lv_iload hx hb dL_due_103 (lv_at hl 0 rfl) ?_
        refine lv_if_eq (tgt := 112) hx hb dL_due_105 (by decide) (fun _ => ?_) (fun c => absurd c_10 c)
        refine lv_iconst (v := 0) hx hb dL_due_112 (by decide) ?_
        refine lv_iadd hx hb dL_due_113 ?_
        refine lr_st hC 13 (by decide) hL13 hI (show vp_in ((L 1 i18) - (L 1 i18) / 8 * 8) 8 from nx_in (vp_ixe (hV.c8 i18)) (by have h90 := vp_ixl (hV.c8 i18); omega) (by decide)) (n := (ix (L 1 i18 - L 1 i18 / 8 * 8))) (nx_ix (x := ((L 1 i18) - (L 1 i18) / 8 * 8)) (vp_ixe (hV.c8 i18)) (by have h90 := vp_ixl (hV.c8 i18); omega)) dL_due_114 (fun H locs hI => ?_)
        refine lv_iinc (v := (nI (i18 + 1))) (lv' := [(11, .int (nI (i18 + 1))), (12, .int (fL_counts L i18 k)), (10, .int 0), (9, .ref (lb 13)), (8, .ref (lb 12)), (0, .int (nI k)), (1, .ref (lb 0)), (2, .ref (lb 1)), (3, .ref (lb 2)), (4, .ref (lb 3)), (5, .ref (lb 6)), (6, .ref (lb 7)), (7, .ref (lb 11))]) hx hb dL_due_115 hl (k := 1) rfl (nI_1 i18) (by decide) rfl (fun ls hl => ?_)
        refine lv_goto (tgt := 18) hx hb dL_due_118 (by decide) ?_
        exact ih18 ((upd w18_12 (ix (L 1 i18 - L 1 i18 / 8 * 8)) ((w18_12 (ix (L 1 i18 - L 1 i18 / 8 * 8))) + 0)), (upd w18_13 (ix (L 1 i18 - L 1 i18 / 8 * 8)) ((w18_13 (ix (L 1 i18 - L 1 i18 / 8 * 8))) + 0))) _ _ ls hlt18 ⟨(by show _ = iL_due_18 L k i18 (lL_due_18 L k i18).1 (lL_due_18 L k i18).2; rw [← hz18]; exact hB18.symm), (LI_eq hI (by funext k9; simp only [up, upr]; repeat' split; all_goals first | rfl | (subst_vars; simp_all))), lv_sub hl [0, 2, 3, 4, 5, 6, 7, 8, 9, 10, 11, 12] rfl⟩
      · have hB18 := hB18.trans (if_neg c_10)
        refine lv_aload_n hx hb dL_due_75 rfl (lv_at hl 7 rfl) ?_
        refine lv_iload hx hb dL_due_76 (lv_at hl 1 rfl) ?_
        refine lr_ld hC hI 1 (by decide) (show vp_in (nI i18) 40 from nx_in rfl (by omega) (by decide)) (v := (L 1 i18)) ((congrArg ((upr (upr L 12 w18_12) 13 w18_13) 1) (nx_ix (x := (nI i18)) rfl (by omega))).trans ((congrFun (upr_ne (by decide)) _).trans (congrFun (upr_ne (by decide)) _))) dL_due_78 ?_
        refine lv_bipush (v := 8) hx hb dL_due_79 (by decide) ?_
        refine lv_idiv hx hb dL_due_81 (by decide) ?_
        refine lv_sipush (v := 16384) hx hb dL_due_82 (by decide) ?_
        refine lv_irem hx hb dL_due_85 (by decide) ?_
        refine lv_goto (tgt := 90) hx hb dL_due_86 (by decide) ?_
        refine lv_iadd hx hb dL_due_90 ?_
        refine lr_st hC 12 (by decide) hL12 hI (show vp_in ((L 1 i18) - (L 1 i18) / 8 * 8) 8 from nx_in (vp_ixe (hV.c8 i18)) (by have h90 := vp_ixl (hV.c8 i18); omega) (by decide)) (n := (ix (L 1 i18 - L 1 i18 / 8 * 8))) (nx_ix (x := ((L 1 i18) - (L 1 i18) / 8 * 8)) (vp_ixe (hV.c8 i18)) (by have h90 := vp_ixl (hV.c8 i18); omega)) dL_due_91 (fun H locs hI => ?_)
        refine lv_aload hx hb dL_due_92 (lv_at hl 3 rfl) ?_
        refine lv_aload_n hx hb dL_due_94 rfl (lv_at hl 7 rfl) ?_
        refine lv_iload hx hb dL_due_95 (lv_at hl 1 rfl) ?_
        refine lr_ld hC hI 1 (by decide) (show vp_in (nI i18) 40 from nx_in rfl (by omega) (by decide)) (v := (L 1 i18)) ((congrArg ((up (upr (upr L 12 w18_12) 13 w18_13) 12 (ix (L 1 i18 - L 1 i18 / 8 * 8)) ((w18_12 (ix (L 1 i18 - L 1 i18 / 8 * 8))) + (((L 1 i18) / 8) - ((L 1 i18) / 8) / 16384 * 16384))) 1) (nx_ix (x := (nI i18)) rfl (by omega))).trans ((congrFun (up_ne (by decide)) _).trans ((congrFun (upr_ne (by decide)) _).trans (congrFun (upr_ne (by decide)) _)))) dL_due_97 ?_
        refine lv_bipush (v := 8) hx hb dL_due_98 (by decide) ?_
        refine lv_irem hx hb dL_due_100 (by decide) ?_
        refine lv_dup2_11 hx hb dL_due_101 rfl rfl ?_
        refine lr_ld hC hI 13 (by decide) (show vp_in ((L 1 i18) - (L 1 i18) / 8 * 8) 8 from nx_in (vp_ixe (hV.c8 i18)) (by have h90 := vp_ixl (hV.c8 i18); omega) (by decide)) (v := (w18_13 (ix (L 1 i18 - L 1 i18 / 8 * 8)))) ((congrArg ((up (upr (upr L 12 w18_12) 13 w18_13) 12 (ix (L 1 i18 - L 1 i18 / 8 * 8)) ((w18_12 (ix (L 1 i18 - L 1 i18 / 8 * 8))) + (((L 1 i18) / 8) - ((L 1 i18) / 8) / 16384 * 16384))) 13) (nx_ix (x := ((L 1 i18) - (L 1 i18) / 8 * 8)) (vp_ixe (hV.c8 i18)) (by have h90 := vp_ixl (hV.c8 i18); omega))).trans ((congrFun (up_ne (by decide)) _).trans (congrFun (upr_at _ _ _) _))) dL_due_102 ?_
        refine lv_iload hx hb dL_due_103 (lv_at hl 0 rfl) ?_
        refine lv_if_eq (tgt := 112) hx hb dL_due_105 (by decide) (fun c => absurd c c_10) (fun _ => ?_)
        refine lv_iconst (v := 1) hx hb dL_due_108 (by decide) ?_
        refine lv_goto (tgt := 113) hx hb dL_due_109 (by decide) ?_
        refine lv_iadd hx hb dL_due_113 ?_
        refine lr_st hC 13 (by decide) hL13 hI (show vp_in ((L 1 i18) - (L 1 i18) / 8 * 8) 8 from nx_in (vp_ixe (hV.c8 i18)) (by have h90 := vp_ixl (hV.c8 i18); omega) (by decide)) (n := (ix (L 1 i18 - L 1 i18 / 8 * 8))) (nx_ix (x := ((L 1 i18) - (L 1 i18) / 8 * 8)) (vp_ixe (hV.c8 i18)) (by have h90 := vp_ixl (hV.c8 i18); omega)) dL_due_114 (fun H locs hI => ?_)
        refine lv_iinc (v := (nI (i18 + 1))) (lv' := [(11, .int (nI (i18 + 1))), (12, .int (fL_counts L i18 k)), (10, .int 0), (9, .ref (lb 13)), (8, .ref (lb 12)), (0, .int (nI k)), (1, .ref (lb 0)), (2, .ref (lb 1)), (3, .ref (lb 2)), (4, .ref (lb 3)), (5, .ref (lb 6)), (6, .ref (lb 7)), (7, .ref (lb 11))]) hx hb dL_due_115 hl (k := 1) rfl (nI_1 i18) (by decide) rfl (fun ls hl => ?_)
        refine lv_goto (tgt := 18) hx hb dL_due_118 (by decide) ?_
        exact ih18 ((upd w18_12 (ix (L 1 i18 - L 1 i18 / 8 * 8)) ((w18_12 (ix (L 1 i18 - L 1 i18 / 8 * 8))) + (((L 1 i18) / 8) - ((L 1 i18) / 8) / 16384 * 16384))), (upd w18_13 (ix (L 1 i18 - L 1 i18 / 8 * 8)) ((w18_13 (ix (L 1 i18 - L 1 i18 / 8 * 8))) + 1))) _ _ ls hlt18 ⟨(by show _ = iL_due_18 L k i18 (lL_due_18 L k i18).1 (lL_due_18 L k i18).2; rw [← hz18]; exact hB18.symm), (LI_eq hI (by funext k9; simp only [up, upr]; repeat' split; all_goals first | rfl | (subst_vars; simp_all))), lv_sub hl [0, 2, 3, 4, 5, 6, 7, 8, 9, 10, 11, 12] rfl⟩
set_option maxHeartbeats 4000000 in
set_option maxRecDepth 100000 in
theorem qL_hundredths (l : Launch) (D : va_G) (cy : Nat → ClassId) (la : Nat → Nat) (L : St) (hV : LV L) (k : Nat) (hk : k < 8) {x_k : Int32} (ek : x_k = nI k) : LPure l D cy la L yL_hundredths wsL_hundredths ({ frames := 4, cells := 0, slots := 0, locals := 111 } : Room) 0 0 [.int x_k, .ref (la 0), .ref (la 3), .ref (la 4), .ref (la 6), .ref (la 7), .ref (la 11)] (fL_hundredths L k) := by
  subst ek
  refine Met.ofW (cc := cL_hundredths) (maxL := 11) (ret := (some .int)) (by decide) rfl ?_
  intro p e s m args below meth c s₁ B hml hv
  obtain ⟨rfl, hM, hK⟩ := hv
  have hx := B.exec
  have hb := B.bytes
  have hr := B.returns
  have hts := atoms_spec (ws := wsL_hundredths) B.pre
  have hown : s.vm.findClass RL = some m.cls := findClass_of_methodNamed B.named
  have hlocks := B.notSynchronized
  have hC : CC p s m _ c cL_hundredths 11 RL D cy wsL_hundredths := ⟨⟨hx, hb, hml, hown, hts⟩, hK⟩
  have hI : LI (fun _ => False) 12 D cy la s L s.heap [] := ⟨hM, va_S.rf⟩
  have hb1 := hV.b1
  have hb2 := hV.b2
  have hb3 := hV.b3
  have hb4 := hV.b4
  have hl := lv_entry ([.int (nI k), .ref (la 0), .ref (la 3), .ref (la 4), .ref (la 6), .ref (la 7), .ref (la 11)]) (n := 11) (Nat.le_of_ble_eq_true rfl)
  rw [lg_entry_eq]
  generalize (lg_sl ([.int (nI k), .ref (la 0), .ref (la 3), .ref (la 4), .ref (la 6), .ref (la 7), .ref (la 11)]) ++ List.replicate (11 - (lg_sl ([.int (nI k), .ref (la 0), .ref (la 3), .ref (la 4), .ref (la 6), .ref (la 7), .ref (la 11)])).length) Slot.unset).toArray = ls at hl ⊢
  have hl : lv_has ls 11 [(0, .int (nI k)), (1, .ref (la 0)), (2, .ref (la 3)), (3, .ref (la 4)), (4, .ref (la 6)), (5, .ref (la 7)), (6, .ref (la 11))] := hl
  have hG : fL_hundredths L k = fL_hundredths L k := rfl
  refine lv_aload hx hb dL_hundredths_0 (lv_at hl 4 rfl) ?_
  refine lv_bipush (v := 8) hx hb dL_hundredths_2 (by decide) ?_
  refine lv_iload_n hx hb dL_hundredths_4 rfl (lv_at hl 0 rfl) ?_
  refine lv_imul hx hb dL_hundredths_5 ?_
  refine lv_iconst (v := 3) hx hb dL_hundredths_6 (by decide) ?_
  refine lv_iadd hx hb dL_hundredths_7 ?_
  refine lr_ld hC hI 6 (by decide) (show vp_in ((8 * (nI k)) + 3) 64 from nx_in (nx_add (nx_mul (by decide : (8 : Int32) = nI 8) rfl) (by decide : (3 : Int32) = nI 3)) (by omega) (by decide)) (v := (L 6 (8 * k + 3))) (congrArg (L 6) (nx_ix (x := ((8 * (nI k)) + 3)) (nx_add (nx_mul (by decide : (8 : Int32) = nI 8) rfl) (by decide : (3 : Int32) = nI 3)) (by omega))) dL_hundredths_8 ?_
  refine lv_istore (lv' := [(7, .int (L 6 (8 * k + 3))), (0, .int (nI k)), (1, .ref (la 0)), (2, .ref (la 3)), (3, .ref (la 4)), (4, .ref (la 6)), (5, .ref (la 7)), (6, .ref (la 11))]) hx hb dL_hundredths_9 hl (by decide) rfl (fun ls hl => ?_)
  refine lv_iload hx hb dL_hundredths_11 (lv_at hl 0 rfl) ?_
  refine lv_iconst (v := 1) hx hb dL_hundredths_13 (by decide) ?_
  refine lv_icmp_eq (tgt := 44) hx hb dL_hundredths_14 (by decide) (fun c_1 => ?_) (fun c_1 => ?_)
  · have hG := hG.trans (if_pos c_1)
    refine lv_iload hx hb dL_hundredths_44 (lv_at hl 0 rfl) ?_
    refine lv_iconst (v := 1) hx hb dL_hundredths_46 (by decide) ?_
    refine lv_icmp_ne (tgt := 66) hx hb dL_hundredths_47 (by decide) (fun c => absurd c_1 c) (fun _ => ?_)
    refine lv_bipush (v := 15) hx hb dL_hundredths_50 (by decide) ?_
    refine lv_aload hx hb dL_hundredths_52 (lv_at hl 5 rfl) ?_
    refine lv_bipush (v := 8) hx hb dL_hundredths_54 (by decide) ?_
    refine lv_iload_n hx hb dL_hundredths_56 rfl (lv_at hl 1 rfl) ?_
    refine lv_imul hx hb dL_hundredths_57 ?_
    refine lv_bipush (v := 6) hx hb dL_hundredths_58 (by decide) ?_
    refine lv_iadd hx hb dL_hundredths_60 ?_
    refine lr_ld hC hI 6 (by decide) (show vp_in ((8 * (nI k)) + 6) 64 from nx_in (nx_add (nx_mul (by decide : (8 : Int32) = nI 8) rfl) (by decide : (6 : Int32) = nI 6)) (by omega) (by decide)) (v := (L 6 (8 * k + 6))) (congrArg (L 6) (nx_ix (x := ((8 * (nI k)) + 6)) (nx_add (nx_mul (by decide : (8 : Int32) = nI 8) rfl) (by decide : (6 : Int32) = nI 6)) (by omega))) dL_hundredths_61 ?_
    refine lv_iadd hx hb dL_hundredths_62 ?_
    refine lv_goto (tgt := 81) hx hb dL_hundredths_63 (by decide) ?_
    refine lv_istore (lv' := [(8, .int (15 + (L 6 (8 * k + 6)))), (7, .int (L 6 (8 * k + 3))), (0, .int (nI k)), (1, .ref (la 0)), (2, .ref (la 3)), (3, .ref (la 4)), (4, .ref (la 6)), (5, .ref (la 7)), (6, .ref (la 11))]) hx hb dL_hundredths_81 hl (by decide) rfl (fun ls hl => ?_)
    refine lv_iconst (v := 0) hx hb dL_hundredths_83 (by decide) ?_
    refine lv_istore (lv' := [(9, .int 0), (8, .int (15 + (L 6 (8 * k + 6)))), (7, .int (L 6 (8 * k + 3))), (0, .int (nI k)), (1, .ref (la 0)), (2, .ref (la 3)), (3, .ref (la 4)), (4, .ref (la 6)), (5, .ref (la 7)), (6, .ref (la 11))]) hx hb dL_hundredths_84 hl (by decide) rfl (fun ls hl => ?_)
    refine lv_iconst (v := 0) hx hb dL_hundredths_86 (by decide) ?_
    refine lv_istore (lv' := [(10, .int 0), (9, .int 0), (8, .int (15 + (L 6 (8 * k + 6)))), (7, .int (L 6 (8 * k + 3))), (0, .int (nI k)), (1, .ref (la 0)), (2, .ref (la 3)), (3, .ref (la 4)), (4, .ref (la 6)), (5, .ref (la 7)), (6, .ref (la 11))]) hx hb dL_hundredths_87 hl (by decide) rfl (fun ls hl => ?_)
    refine w_loop (σ := Int32) (q1 L) 89 (fun i89 z H locs ls => z = lL_hundredths_89 L k i89 ∧ LI (fun _ => False) 12 D cy la s L H locs ∧ lv_has ls 11 [(10, .int (nI i89)), (9, .int z), (8, .int (15 + (L 6 (8 * k + 6)))), (7, .int (L 6 (8 * k + 3))), (0, .int (nI k)), (1, .ref (la 0)), (2, .ref (la 3)), (3, .ref (la 4)), (4, .ref (la 6)), (5, .ref (la 7)), (6, .ref (la 11))]) ?_ 0 ⟨rfl, hI, lv_sub hl [0, 1, 2, 3, 4, 5, 6, 7, 8, 9, 10] rfl⟩
    intro i89 z H locs ls ⟨hz89, hI, hl⟩ hi89 ih89
    obtain ⟨x89_9, rfl⟩ : ∃ x, x = z := ⟨_, rfl⟩
    refine lv_iload hx hb dL_hundredths_89 (lv_at hl 0 rfl) ?_
    refine lv_aload hx hb dL_hundredths_91 (lv_at hl 10 rfl) ?_
    refine lv_iconst (v := 1) hx hb dL_hundredths_93 (by decide) ?_
    refine lr_ld hC hI 11 (by decide) (nx_in (by decide : (1 : Int32) = nI 1) (by decide) (by decide)) (v := (L 11 1)) (congrArg (L 11) (by decide : ix 1 = 1)) dL_hundredths_94 ?_
    refine lv_icmp_ge (tgt := 156) hx hb dL_hundredths_95 (by decide) (fun c_2 => ?_) (fun c_2 => ?_)
    · obtain rfl : i89 = q1 L := w_exit hV.n1 hi89 (by have := hV.b1; omega) c_2
      obtain rfl : x89_9 = (lL_hundredths_89 L k (q1 L)) := by rw [← hz89]
      refine lv_iload hx hb dL_hundredths_156 (lv_at hl 1 rfl) ?_
      refine lv_if_eq (tgt := 168) hx hb dL_hundredths_158 (by decide) (fun c_7 => ?_) (fun c_7 => ?_)
      · have hG := hG.trans (if_pos c_7)
        refine lv_iload hx hb dL_hundredths_168 (lv_at hl 2 rfl) ?_
        exact W.iret (v := (15 + (L 6 (8 * k + 6)))) hx hb hr (fun t9 ht9 hW9 => ⟨⟨(15 + (L 6 (8 * k + 6))), (), rfl, hG.symm, trivial⟩, hI.2.F ht9⟩) hI.2.2.2 dL_hundredths_170
      · have hG := hG.trans (if_neg c_7)
        refine lv_iload hx hb dL_hundredths_161 (lv_at hl 2 rfl) ?_
        refine lv_iconst (v := 2) hx hb dL_hundredths_163 (by decide) ?_
        refine lv_idiv hx hb dL_hundredths_164 (by decide) ?_
        refine lv_goto (tgt := 170) hx hb dL_hundredths_165 (by decide) ?_
        exact W.iret (v := ((15 + (L 6 (8 * k + 6))) / 2)) hx hb hr (fun t9 ht9 hW9 => ⟨⟨((15 + (L 6 (8 * k + 6))) / 2), (), rfl, hG.symm, trivial⟩, hI.2.F ht9⟩) hI.2.2.2 dL_hundredths_170
    · have hlt89 : i89 < q1 L := w_in hV.n1 hi89 (by have := hV.b1; omega) c_2
      have hB89 : iL_hundredths_89 L k i89 x89_9 = iL_hundredths_89 L k i89 x89_9 := rfl
      refine lv_iload hx hb dL_hundredths_98 (lv_at hl 1 rfl) ?_
      refine lv_if_ne (tgt := 143) hx hb dL_hundredths_100 (by decide) (fun c_4 => ?_) (fun c_4 => ?_)
      · have hB89 := hB89.trans (if_neg c_4)
        refine lv_iconst (v := 1) hx hb dL_hundredths_143 (by decide) ?_
        refine lv_goto (tgt := 148) hx hb dL_hundredths_144 (by decide) ?_
        refine lv_istore (lv' := [(9, .int 1), (10, .int (nI i89)), (8, .int (15 + (L 6 (8 * k + 6)))), (7, .int (L 6 (8 * k + 3))), (0, .int (nI k)), (1, .ref (la 0)), (2, .ref (la 3)), (3, .ref (la 4)), (4, .ref (la 6)), (5, .ref (la 7)), (6, .ref (la 11))]) hx hb dL_hundredths_148 hl (by decide) rfl (fun ls hl => ?_)
        refine lv_iinc (v := (nI (i89 + 1))) (lv' := [(10, .int (nI (i89 + 1))), (9, .int 1), (8, .int (15 + (L 6 (8 * k + 6)))), (7, .int (L 6 (8 * k + 3))), (0, .int (nI k)), (1, .ref (la 0)), (2, .ref (la 3)), (3, .ref (la 4)), (4, .ref (la 6)), (5, .ref (la 7)), (6, .ref (la 11))]) hx hb dL_hundredths_150 hl (k := 1) rfl (nI_1 i89) (by decide) rfl (fun ls hl => ?_)
        refine lv_goto (tgt := 89) hx hb dL_hundredths_153 (by decide) ?_
        exact ih89 1 _ _ ls hlt89 ⟨(by show _ = iL_hundredths_89 L k i89 (lL_hundredths_89 L k i89); rw [← hz89]; exact hB89.symm), hI, lv_sub hl [0, 1, 2, 3, 4, 5, 6, 7, 8, 9, 10] rfl⟩
      · have hB89 := hB89.trans (if_pos c_4)
        refine lv_iload_n hx hb dL_hundredths_103 rfl (lv_at hl 4 rfl) ?_
        refine lv_iload hx hb dL_hundredths_104 (lv_at hl 0 rfl) ?_
        refine lv_aload_n hx hb dL_hundredths_106 rfl (lv_at hl 5 rfl) ?_
        refine lv_aload_n hx hb dL_hundredths_107 rfl (lv_at hl 6 rfl) ?_
        refine lv_aload hx hb dL_hundredths_108 (lv_at hl 8 rfl) ?_
        refine lv_aload hx hb dL_hundredths_110 (lv_at hl 9 rfl) ?_
        refine lv_aload hx hb dL_hundredths_112 (lv_at hl 10 rfl) ?_
        refine lr_call (As := [.int (nI k), .int (nI i89), .ref (la 0), .ref (la 3), .ref (la 6), .ref (la 7), .ref (la 11)]) (rest := []) hC hI (by decide) (fun _ _ => rfl) (qL_bar l D cy la L hV k (by omega) rfl i89 (by omega) rfl) (va_cwS 7 hts gL_hundredths_L_bar rfl rfl rfl (by decide +kernel) ⟨Nat.le_of_ble_eq_true rfl, Nat.le_of_ble_eq_true rfl⟩) rfl hl.1 rfl (Nat.le_of_ble_eq_true rfl) dL_hundredths_114 ⟨Nat.le_of_ble_eq_true rfl, Nat.le_of_ble_eq_true rfl⟩ (fun H locs hk9 hz9 hI => ?_)
        refine lv_if_ne (tgt := 147) hx hb dL_hundredths_117 (by decide) (fun c_5 => ?_) (fun c_5 => ?_)
        · have hB89 := hB89.trans (if_neg c_5)
          refine lv_iconst (v := 0) hx hb dL_hundredths_147 (by decide) ?_
          refine lv_istore (lv' := [(9, .int 0), (10, .int (nI i89)), (8, .int (15 + (L 6 (8 * k + 6)))), (7, .int (L 6 (8 * k + 3))), (0, .int (nI k)), (1, .ref (la 0)), (2, .ref (la 3)), (3, .ref (la 4)), (4, .ref (la 6)), (5, .ref (la 7)), (6, .ref (la 11))]) hx hb dL_hundredths_148 hl (by decide) rfl (fun ls hl => ?_)
          refine lv_iinc (v := (nI (i89 + 1))) (lv' := [(10, .int (nI (i89 + 1))), (9, .int 0), (8, .int (15 + (L 6 (8 * k + 6)))), (7, .int (L 6 (8 * k + 3))), (0, .int (nI k)), (1, .ref (la 0)), (2, .ref (la 3)), (3, .ref (la 4)), (4, .ref (la 6)), (5, .ref (la 7)), (6, .ref (la 11))]) hx hb dL_hundredths_150 hl (k := 1) rfl (nI_1 i89) (by decide) rfl (fun ls hl => ?_)
          refine lv_goto (tgt := 89) hx hb dL_hundredths_153 (by decide) ?_
          exact ih89 0 _ _ ls hlt89 ⟨(by show _ = iL_hundredths_89 L k i89 (lL_hundredths_89 L k i89); rw [← hz89]; exact hB89.symm), hI, lv_sub hl [0, 1, 2, 3, 4, 5, 6, 7, 8, 9, 10] rfl⟩
        · have hB89 := hB89.trans (if_pos c_5)
          refine lv_aload_n hx hb dL_hundredths_120 rfl (lv_at hl 7 rfl) ?_
          refine lv_bipush (v := 8) hx hb dL_hundredths_121 (by decide) ?_
          refine lv_aload hx hb dL_hundredths_123 (lv_at hl 8 rfl) ?_
          refine lv_bipush (v := 8) hx hb dL_hundredths_125 (by decide) ?_
          refine lv_iload_n hx hb dL_hundredths_127 rfl (lv_at hl 4 rfl) ?_
          refine lv_imul hx hb dL_hundredths_128 ?_
          refine lr_ld hC hI 6 (by decide) (show vp_in (8 * (nI k)) 64 from nx_in (nx_mul (by decide : (8 : Int32) = nI 8) rfl) (by omega) (by decide)) (v := (L 6 (8 * k))) (congrArg (L 6) (nx_ix (x := (8 * (nI k))) (nx_mul (by decide : (8 : Int32) = nI 8) rfl) (by omega))) dL_hundredths_129 ?_
          refine lv_imul hx hb dL_hundredths_130 ?_
          refine lv_iconst (v := 1) hx hb dL_hundredths_131 (by decide) ?_
          refine lv_iadd hx hb dL_hundredths_132 ?_
          refine lr_ld hC hI 4 (by decide) (show vp_in ((8 * (L 6 (8 * k))) + 1) 40 from nx_in (nx_add (nx_mul (by decide : (8 : Int32) = nI 8) (vp_ixe (hV.u0 (k := k) (by omega)))) (by decide : (1 : Int32) = nI 1)) (by have h90 := vp_ixl (hV.u0 (k := k) (by omega)); omega) (by decide)) (v := (L 4 (8 * (ix (L 6 (8 * k))) + 1))) (congrArg (L 4) (nx_ix (x := ((8 * (L 6 (8 * k))) + 1)) (nx_add (nx_mul (by decide : (8 : Int32) = nI 8) (vp_ixe (hV.u0 (k := k) (by omega)))) (by decide : (1 : Int32) = nI 1)) (by have h90 := vp_ixl (hV.u0 (k := k) (by omega)); omega))) dL_hundredths_133 ?_
          refine lv_iload hx hb dL_hundredths_134 (lv_at hl 0 rfl) ?_
          refine lv_ishr hx hb dL_hundredths_136 ?_
          refine lv_iconst (v := 1) hx hb dL_hundredths_137 (by decide) ?_
          refine lv_iand hx hb dL_hundredths_138 ?_
          refine lv_iconst (v := 1) hx hb dL_hundredths_139 (by decide) ?_
          refine lv_icmp_ne (tgt := 147) hx hb dL_hundredths_140 (by decide) (fun c_6 => ?_) (fun c_6 => ?_)
          · have hB89 := hB89.trans (if_neg c_6)
            refine lv_iconst (v := 0) hx hb dL_hundredths_147 (by decide) ?_
            refine lv_istore (lv' := [(9, .int 0), (10, .int (nI i89)), (8, .int (15 + (L 6 (8 * k + 6)))), (7, .int (L 6 (8 * k + 3))), (0, .int (nI k)), (1, .ref (la 0)), (2, .ref (la 3)), (3, .ref (la 4)), (4, .ref (la 6)), (5, .ref (la 7)), (6, .ref (la 11))]) hx hb dL_hundredths_148 hl (by decide) rfl (fun ls hl => ?_)
            refine lv_iinc (v := (nI (i89 + 1))) (lv' := [(10, .int (nI (i89 + 1))), (9, .int 0), (8, .int (15 + (L 6 (8 * k + 6)))), (7, .int (L 6 (8 * k + 3))), (0, .int (nI k)), (1, .ref (la 0)), (2, .ref (la 3)), (3, .ref (la 4)), (4, .ref (la 6)), (5, .ref (la 7)), (6, .ref (la 11))]) hx hb dL_hundredths_150 hl (k := 1) rfl (nI_1 i89) (by decide) rfl (fun ls hl => ?_)
            refine lv_goto (tgt := 89) hx hb dL_hundredths_153 (by decide) ?_
            exact ih89 0 _ _ ls hlt89 ⟨(by show _ = iL_hundredths_89 L k i89 (lL_hundredths_89 L k i89); rw [← hz89]; exact hB89.symm), hI, lv_sub hl [0, 1, 2, 3, 4, 5, 6, 7, 8, 9, 10] rfl⟩
          · have hB89 := hB89.trans (if_pos c_6)
            refine lv_iconst (v := 1) hx hb dL_hundredths_143 (by decide) ?_
            refine lv_goto (tgt := 148) hx hb dL_hundredths_144 (by decide) ?_
            refine lv_istore (lv' := [(9, .int 1), (10, .int (nI i89)), (8, .int (15 + (L 6 (8 * k + 6)))), (7, .int (L 6 (8 * k + 3))), (0, .int (nI k)), (1, .ref (la 0)), (2, .ref (la 3)), (3, .ref (la 4)), (4, .ref (la 6)), (5, .ref (la 7)), (6, .ref (la 11))]) hx hb dL_hundredths_148 hl (by decide) rfl (fun ls hl => ?_)
            refine lv_iinc (v := (nI (i89 + 1))) (lv' := [(10, .int (nI (i89 + 1))), (9, .int 1), (8, .int (15 + (L 6 (8 * k + 6)))), (7, .int (L 6 (8 * k + 3))), (0, .int (nI k)), (1, .ref (la 0)), (2, .ref (la 3)), (3, .ref (la 4)), (4, .ref (la 6)), (5, .ref (la 7)), (6, .ref (la 11))]) hx hb dL_hundredths_150 hl (k := 1) rfl (nI_1 i89) (by decide) rfl (fun ls hl => ?_)
            refine lv_goto (tgt := 89) hx hb dL_hundredths_153 (by decide) ?_
            exact ih89 1 _ _ ls hlt89 ⟨(by show _ = iL_hundredths_89 L k i89 (lL_hundredths_89 L k i89); rw [← hz89]; exact hB89.symm), hI, lv_sub hl [0, 1, 2, 3, 4, 5, 6, 7, 8, 9, 10] rfl⟩
  · have hG := hG.trans (if_neg c_1)
    refine lv_iload hx hb dL_hundredths_17 (lv_at hl 0 rfl) ?_
    refine lv_iconst (v := 2) hx hb dL_hundredths_19 (by decide) ?_
    refine lv_icmp_eq (tgt := 44) hx hb dL_hundredths_20 (by decide) (fun c_8 => ?_) (fun c_8 => ?_)
    · have hG := hG.trans (if_pos c_8)
      refine lv_iload hx hb dL_hundredths_44 (lv_at hl 0 rfl) ?_
      refine lv_iconst (v := 1) hx hb dL_hundredths_46 (by decide) ?_
      refine lv_icmp_ne (tgt := 66) hx hb dL_hundredths_47 (by decide) (fun _ => ?_) (fun c => absurd c c_1)
      refine lv_bipush (v := 50) hx hb dL_hundredths_66 (by decide) ?_
      refine lv_aload hx hb dL_hundredths_68 (lv_at hl 5 rfl) ?_
      refine lv_bipush (v := 8) hx hb dL_hundredths_70 (by decide) ?_
      refine lv_iload_n hx hb dL_hundredths_72 rfl (lv_at hl 1 rfl) ?_
      refine lv_imul hx hb dL_hundredths_73 ?_
      refine lv_bipush (v := 6) hx hb dL_hundredths_74 (by decide) ?_
      refine lv_iadd hx hb dL_hundredths_76 ?_
      refine lr_ld hC hI 6 (by decide) (show vp_in ((8 * (nI k)) + 6) 64 from nx_in (nx_add (nx_mul (by decide : (8 : Int32) = nI 8) rfl) (by decide : (6 : Int32) = nI 6)) (by omega) (by decide)) (v := (L 6 (8 * k + 6))) (congrArg (L 6) (nx_ix (x := ((8 * (nI k)) + 6)) (nx_add (nx_mul (by decide : (8 : Int32) = nI 8) rfl) (by decide : (6 : Int32) = nI 6)) (by omega))) dL_hundredths_77 ?_
      refine lv_iadd hx hb dL_hundredths_78 ?_
      refine lv_iconst (v := 2) hx hb dL_hundredths_79 (by decide) ?_
      refine lv_idiv hx hb dL_hundredths_80 (by decide) ?_
      refine lv_istore (lv' := [(8, .int ((50 + (L 6 (8 * k + 6))) / 2)), (7, .int (L 6 (8 * k + 3))), (0, .int (nI k)), (1, .ref (la 0)), (2, .ref (la 3)), (3, .ref (la 4)), (4, .ref (la 6)), (5, .ref (la 7)), (6, .ref (la 11))]) hx hb dL_hundredths_81 hl (by decide) rfl (fun ls hl => ?_)
      refine lv_iconst (v := 0) hx hb dL_hundredths_83 (by decide) ?_
      refine lv_istore (lv' := [(9, .int 0), (8, .int ((50 + (L 6 (8 * k + 6))) / 2)), (7, .int (L 6 (8 * k + 3))), (0, .int (nI k)), (1, .ref (la 0)), (2, .ref (la 3)), (3, .ref (la 4)), (4, .ref (la 6)), (5, .ref (la 7)), (6, .ref (la 11))]) hx hb dL_hundredths_84 hl (by decide) rfl (fun ls hl => ?_)
      refine lv_iconst (v := 0) hx hb dL_hundredths_86 (by decide) ?_
      refine lv_istore (lv' := [(10, .int 0), (9, .int 0), (8, .int ((50 + (L 6 (8 * k + 6))) / 2)), (7, .int (L 6 (8 * k + 3))), (0, .int (nI k)), (1, .ref (la 0)), (2, .ref (la 3)), (3, .ref (la 4)), (4, .ref (la 6)), (5, .ref (la 7)), (6, .ref (la 11))]) hx hb dL_hundredths_87 hl (by decide) rfl (fun ls hl => ?_)
      refine w_loop (σ := Int32) (q1 L) 89 (fun i89 z H locs ls => z = lL_hundredths_89 L k i89 ∧ LI (fun _ => False) 12 D cy la s L H locs ∧ lv_has ls 11 [(10, .int (nI i89)), (9, .int z), (8, .int ((50 + (L 6 (8 * k + 6))) / 2)), (7, .int (L 6 (8 * k + 3))), (0, .int (nI k)), (1, .ref (la 0)), (2, .ref (la 3)), (3, .ref (la 4)), (4, .ref (la 6)), (5, .ref (la 7)), (6, .ref (la 11))]) ?_ 0 ⟨rfl, hI, lv_sub hl [0, 1, 2, 3, 4, 5, 6, 7, 8, 9, 10] rfl⟩
      intro i89 z H locs ls ⟨hz89, hI, hl⟩ hi89 ih89
      obtain ⟨x89_9, rfl⟩ : ∃ x, x = z := ⟨_, rfl⟩
      refine lv_iload hx hb dL_hundredths_89 (lv_at hl 0 rfl) ?_
      refine lv_aload hx hb dL_hundredths_91 (lv_at hl 10 rfl) ?_
      refine lv_iconst (v := 1) hx hb dL_hundredths_93 (by decide) ?_
      refine lr_ld hC hI 11 (by decide) (nx_in (by decide : (1 : Int32) = nI 1) (by decide) (by decide)) (v := (L 11 1)) (congrArg (L 11) (by decide : ix 1 = 1)) dL_hundredths_94 ?_
      refine lv_icmp_ge (tgt := 156) hx hb dL_hundredths_95 (by decide) (fun c_9 => ?_) (fun c_9 => ?_)
      · obtain rfl : i89 = q1 L := w_exit hV.n1 hi89 (by have := hV.b1; omega) c_9
        obtain rfl : x89_9 = (lL_hundredths_89 L k (q1 L)) := by rw [← hz89]
        refine lv_iload hx hb dL_hundredths_156 (lv_at hl 1 rfl) ?_
        refine lv_if_eq (tgt := 168) hx hb dL_hundredths_158 (by decide) (fun c_14 => ?_) (fun c_14 => ?_)
        · have hG := hG.trans (if_pos c_14)
          refine lv_iload hx hb dL_hundredths_168 (lv_at hl 2 rfl) ?_
          exact W.iret (v := ((50 + (L 6 (8 * k + 6))) / 2)) hx hb hr (fun t9 ht9 hW9 => ⟨⟨((50 + (L 6 (8 * k + 6))) / 2), (), rfl, hG.symm, trivial⟩, hI.2.F ht9⟩) hI.2.2.2 dL_hundredths_170
        · have hG := hG.trans (if_neg c_14)
          refine lv_iload hx hb dL_hundredths_161 (lv_at hl 2 rfl) ?_
          refine lv_iconst (v := 2) hx hb dL_hundredths_163 (by decide) ?_
          refine lv_idiv hx hb dL_hundredths_164 (by decide) ?_
          refine lv_goto (tgt := 170) hx hb dL_hundredths_165 (by decide) ?_
          exact W.iret (v := (((50 + (L 6 (8 * k + 6))) / 2) / 2)) hx hb hr (fun t9 ht9 hW9 => ⟨⟨(((50 + (L 6 (8 * k + 6))) / 2) / 2), (), rfl, hG.symm, trivial⟩, hI.2.F ht9⟩) hI.2.2.2 dL_hundredths_170
      · have hlt89 : i89 < q1 L := w_in hV.n1 hi89 (by have := hV.b1; omega) c_9
        have hB89 : iL_hundredths_89 L k i89 x89_9 = iL_hundredths_89 L k i89 x89_9 := rfl
        refine lv_iload hx hb dL_hundredths_98 (lv_at hl 1 rfl) ?_
        refine lv_if_ne (tgt := 143) hx hb dL_hundredths_100 (by decide) (fun c_11 => ?_) (fun c_11 => ?_)
        · have hB89 := hB89.trans (if_neg c_11)
          refine lv_iconst (v := 1) hx hb dL_hundredths_143 (by decide) ?_
          refine lv_goto (tgt := 148) hx hb dL_hundredths_144 (by decide) ?_
          refine lv_istore (lv' := [(9, .int 1), (10, .int (nI i89)), (8, .int ((50 + (L 6 (8 * k + 6))) / 2)), (7, .int (L 6 (8 * k + 3))), (0, .int (nI k)), (1, .ref (la 0)), (2, .ref (la 3)), (3, .ref (la 4)), (4, .ref (la 6)), (5, .ref (la 7)), (6, .ref (la 11))]) hx hb dL_hundredths_148 hl (by decide) rfl (fun ls hl => ?_)
          refine lv_iinc (v := (nI (i89 + 1))) (lv' := [(10, .int (nI (i89 + 1))), (9, .int 1), (8, .int ((50 + (L 6 (8 * k + 6))) / 2)), (7, .int (L 6 (8 * k + 3))), (0, .int (nI k)), (1, .ref (la 0)), (2, .ref (la 3)), (3, .ref (la 4)), (4, .ref (la 6)), (5, .ref (la 7)), (6, .ref (la 11))]) hx hb dL_hundredths_150 hl (k := 1) rfl (nI_1 i89) (by decide) rfl (fun ls hl => ?_)
          refine lv_goto (tgt := 89) hx hb dL_hundredths_153 (by decide) ?_
          exact ih89 1 _ _ ls hlt89 ⟨(by show _ = iL_hundredths_89 L k i89 (lL_hundredths_89 L k i89); rw [← hz89]; exact hB89.symm), hI, lv_sub hl [0, 1, 2, 3, 4, 5, 6, 7, 8, 9, 10] rfl⟩
        · have hB89 := hB89.trans (if_pos c_11)
          refine lv_iload_n hx hb dL_hundredths_103 rfl (lv_at hl 4 rfl) ?_
          refine lv_iload hx hb dL_hundredths_104 (lv_at hl 0 rfl) ?_
          refine lv_aload_n hx hb dL_hundredths_106 rfl (lv_at hl 5 rfl) ?_
          refine lv_aload_n hx hb dL_hundredths_107 rfl (lv_at hl 6 rfl) ?_
          refine lv_aload hx hb dL_hundredths_108 (lv_at hl 8 rfl) ?_
          refine lv_aload hx hb dL_hundredths_110 (lv_at hl 9 rfl) ?_
          refine lv_aload hx hb dL_hundredths_112 (lv_at hl 10 rfl) ?_
          refine lr_call (As := [.int (nI k), .int (nI i89), .ref (la 0), .ref (la 3), .ref (la 6), .ref (la 7), .ref (la 11)]) (rest := []) hC hI (by decide) (fun _ _ => rfl) (qL_bar l D cy la L hV k (by omega) rfl i89 (by omega) rfl) (va_cwS 7 hts gL_hundredths_L_bar rfl rfl rfl (by decide +kernel) ⟨Nat.le_of_ble_eq_true rfl, Nat.le_of_ble_eq_true rfl⟩) rfl hl.1 rfl (Nat.le_of_ble_eq_true rfl) dL_hundredths_114 ⟨Nat.le_of_ble_eq_true rfl, Nat.le_of_ble_eq_true rfl⟩ (fun H locs hk9 hz9 hI => ?_)
          refine lv_if_ne (tgt := 147) hx hb dL_hundredths_117 (by decide) (fun c_12 => ?_) (fun c_12 => ?_)
          · have hB89 := hB89.trans (if_neg c_12)
            refine lv_iconst (v := 0) hx hb dL_hundredths_147 (by decide) ?_
            refine lv_istore (lv' := [(9, .int 0), (10, .int (nI i89)), (8, .int ((50 + (L 6 (8 * k + 6))) / 2)), (7, .int (L 6 (8 * k + 3))), (0, .int (nI k)), (1, .ref (la 0)), (2, .ref (la 3)), (3, .ref (la 4)), (4, .ref (la 6)), (5, .ref (la 7)), (6, .ref (la 11))]) hx hb dL_hundredths_148 hl (by decide) rfl (fun ls hl => ?_)
            refine lv_iinc (v := (nI (i89 + 1))) (lv' := [(10, .int (nI (i89 + 1))), (9, .int 0), (8, .int ((50 + (L 6 (8 * k + 6))) / 2)), (7, .int (L 6 (8 * k + 3))), (0, .int (nI k)), (1, .ref (la 0)), (2, .ref (la 3)), (3, .ref (la 4)), (4, .ref (la 6)), (5, .ref (la 7)), (6, .ref (la 11))]) hx hb dL_hundredths_150 hl (k := 1) rfl (nI_1 i89) (by decide) rfl (fun ls hl => ?_)
            refine lv_goto (tgt := 89) hx hb dL_hundredths_153 (by decide) ?_
            exact ih89 0 _ _ ls hlt89 ⟨(by show _ = iL_hundredths_89 L k i89 (lL_hundredths_89 L k i89); rw [← hz89]; exact hB89.symm), hI, lv_sub hl [0, 1, 2, 3, 4, 5, 6, 7, 8, 9, 10] rfl⟩
          · have hB89 := hB89.trans (if_pos c_12)
            refine lv_aload_n hx hb dL_hundredths_120 rfl (lv_at hl 7 rfl) ?_
            refine lv_bipush (v := 8) hx hb dL_hundredths_121 (by decide) ?_
            refine lv_aload hx hb dL_hundredths_123 (lv_at hl 8 rfl) ?_
            refine lv_bipush (v := 8) hx hb dL_hundredths_125 (by decide) ?_
            refine lv_iload_n hx hb dL_hundredths_127 rfl (lv_at hl 4 rfl) ?_
            refine lv_imul hx hb dL_hundredths_128 ?_
            refine lr_ld hC hI 6 (by decide) (show vp_in (8 * (nI k)) 64 from nx_in (nx_mul (by decide : (8 : Int32) = nI 8) rfl) (by omega) (by decide)) (v := (L 6 (8 * k))) (congrArg (L 6) (nx_ix (x := (8 * (nI k))) (nx_mul (by decide : (8 : Int32) = nI 8) rfl) (by omega))) dL_hundredths_129 ?_
            refine lv_imul hx hb dL_hundredths_130 ?_
            refine lv_iconst (v := 1) hx hb dL_hundredths_131 (by decide) ?_
            refine lv_iadd hx hb dL_hundredths_132 ?_
            refine lr_ld hC hI 4 (by decide) (show vp_in ((8 * (L 6 (8 * k))) + 1) 40 from nx_in (nx_add (nx_mul (by decide : (8 : Int32) = nI 8) (vp_ixe (hV.u0 (k := k) (by omega)))) (by decide : (1 : Int32) = nI 1)) (by have h90 := vp_ixl (hV.u0 (k := k) (by omega)); omega) (by decide)) (v := (L 4 (8 * (ix (L 6 (8 * k))) + 1))) (congrArg (L 4) (nx_ix (x := ((8 * (L 6 (8 * k))) + 1)) (nx_add (nx_mul (by decide : (8 : Int32) = nI 8) (vp_ixe (hV.u0 (k := k) (by omega)))) (by decide : (1 : Int32) = nI 1)) (by have h90 := vp_ixl (hV.u0 (k := k) (by omega)); omega))) dL_hundredths_133 ?_
            refine lv_iload hx hb dL_hundredths_134 (lv_at hl 0 rfl) ?_
            refine lv_ishr hx hb dL_hundredths_136 ?_
            refine lv_iconst (v := 1) hx hb dL_hundredths_137 (by decide) ?_
            refine lv_iand hx hb dL_hundredths_138 ?_
            refine lv_iconst (v := 1) hx hb dL_hundredths_139 (by decide) ?_
            refine lv_icmp_ne (tgt := 147) hx hb dL_hundredths_140 (by decide) (fun c_13 => ?_) (fun c_13 => ?_)
            · have hB89 := hB89.trans (if_neg c_13)
              refine lv_iconst (v := 0) hx hb dL_hundredths_147 (by decide) ?_
              refine lv_istore (lv' := [(9, .int 0), (10, .int (nI i89)), (8, .int ((50 + (L 6 (8 * k + 6))) / 2)), (7, .int (L 6 (8 * k + 3))), (0, .int (nI k)), (1, .ref (la 0)), (2, .ref (la 3)), (3, .ref (la 4)), (4, .ref (la 6)), (5, .ref (la 7)), (6, .ref (la 11))]) hx hb dL_hundredths_148 hl (by decide) rfl (fun ls hl => ?_)
              refine lv_iinc (v := (nI (i89 + 1))) (lv' := [(10, .int (nI (i89 + 1))), (9, .int 0), (8, .int ((50 + (L 6 (8 * k + 6))) / 2)), (7, .int (L 6 (8 * k + 3))), (0, .int (nI k)), (1, .ref (la 0)), (2, .ref (la 3)), (3, .ref (la 4)), (4, .ref (la 6)), (5, .ref (la 7)), (6, .ref (la 11))]) hx hb dL_hundredths_150 hl (k := 1) rfl (nI_1 i89) (by decide) rfl (fun ls hl => ?_)
              refine lv_goto (tgt := 89) hx hb dL_hundredths_153 (by decide) ?_
              exact ih89 0 _ _ ls hlt89 ⟨(by show _ = iL_hundredths_89 L k i89 (lL_hundredths_89 L k i89); rw [← hz89]; exact hB89.symm), hI, lv_sub hl [0, 1, 2, 3, 4, 5, 6, 7, 8, 9, 10] rfl⟩
            · have hB89 := hB89.trans (if_pos c_13)
              refine lv_iconst (v := 1) hx hb dL_hundredths_143 (by decide) ?_
              refine lv_goto (tgt := 148) hx hb dL_hundredths_144 (by decide) ?_
              refine lv_istore (lv' := [(9, .int 1), (10, .int (nI i89)), (8, .int ((50 + (L 6 (8 * k + 6))) / 2)), (7, .int (L 6 (8 * k + 3))), (0, .int (nI k)), (1, .ref (la 0)), (2, .ref (la 3)), (3, .ref (la 4)), (4, .ref (la 6)), (5, .ref (la 7)), (6, .ref (la 11))]) hx hb dL_hundredths_148 hl (by decide) rfl (fun ls hl => ?_)
              refine lv_iinc (v := (nI (i89 + 1))) (lv' := [(10, .int (nI (i89 + 1))), (9, .int 1), (8, .int ((50 + (L 6 (8 * k + 6))) / 2)), (7, .int (L 6 (8 * k + 3))), (0, .int (nI k)), (1, .ref (la 0)), (2, .ref (la 3)), (3, .ref (la 4)), (4, .ref (la 6)), (5, .ref (la 7)), (6, .ref (la 11))]) hx hb dL_hundredths_150 hl (k := 1) rfl (nI_1 i89) (by decide) rfl (fun ls hl => ?_)
              refine lv_goto (tgt := 89) hx hb dL_hundredths_153 (by decide) ?_
              exact ih89 1 _ _ ls hlt89 ⟨(by show _ = iL_hundredths_89 L k i89 (lL_hundredths_89 L k i89); rw [← hz89]; exact hB89.symm), hI, lv_sub hl [0, 1, 2, 3, 4, 5, 6, 7, 8, 9, 10] rfl⟩
    · have hG := hG.trans (if_neg c_8)
      refine lv_iload hx hb dL_hundredths_23 (lv_at hl 0 rfl) ?_
      refine lv_iconst (v := 4) hx hb dL_hundredths_25 (by decide) ?_
      refine lv_icmp_ne (tgt := 42) hx hb dL_hundredths_26 (by decide) (fun c_15 => ?_) (fun c_15 => ?_)
      · have hG := hG.trans (if_neg c_15)
        refine lv_iconst (v := 0) hx hb dL_hundredths_42 (by decide) ?_
        exact W.iret (v := 0) hx hb hr (fun t9 ht9 hW9 => ⟨⟨0, (), rfl, hG.symm, trivial⟩, hI.2.F ht9⟩) hI.2.2.2 dL_hundredths_43
      · have hG := hG.trans (if_pos c_15)
        refine lv_aload hx hb dL_hundredths_29 (lv_at hl 5 rfl) ?_
        refine lv_bipush (v := 8) hx hb dL_hundredths_31 (by decide) ?_
        refine lv_iload_n hx hb dL_hundredths_33 rfl (lv_at hl 1 rfl) ?_
        refine lv_imul hx hb dL_hundredths_34 ?_
        refine lv_bipush (v := 7) hx hb dL_hundredths_35 (by decide) ?_
        refine lv_iadd hx hb dL_hundredths_37 ?_
        refine lr_ld hC hI 6 (by decide) (show vp_in ((8 * (nI k)) + 7) 64 from nx_in (nx_add (nx_mul (by decide : (8 : Int32) = nI 8) rfl) (by decide : (7 : Int32) = nI 7)) (by omega) (by decide)) (v := (L 6 (8 * k + 7))) (congrArg (L 6) (nx_ix (x := ((8 * (nI k)) + 7)) (nx_add (nx_mul (by decide : (8 : Int32) = nI 8) rfl) (by decide : (7 : Int32) = nI 7)) (by omega))) dL_hundredths_38 ?_
        refine lv_goto (tgt := 43) hx hb dL_hundredths_39 (by decide) ?_
        exact W.iret (v := (L 6 (8 * k + 7))) hx hb hr (fun t9 ht9 hW9 => ⟨⟨L 6 (8 * k + 7), (), rfl, hG.symm, trivial⟩, hI.2.F ht9⟩) hI.2.2.2 dL_hundredths_43
