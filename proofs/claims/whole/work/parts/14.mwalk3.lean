/-! the calls of the reference, walked -/
set_option maxHeartbeats 4000000 in
set_option maxRecDepth 100000 in
theorem qX8_fund (l : Launch) (A : Nat → Prop) (D : va_G) (cy : Nat → ClassId) (o : Nat) (ad : Nat → Nat) (hL : ML A o ad) (S : St) (th : Int32) (hN : MInv S) (f : Int32) (more : Int32) : MMut l A D cy o ad S th yX8_fund wsX8_fund ({ frames := 2, cells := 0, slots := 0, locals := 42 } : Room) [.int f, .int more] (fX8_fund S f more).1 (fX8_fund S f more).2.2 (fX8_fund S f more).2.1 := by
  refine Met.ofW (cc := cX8_fund) (maxL := 3) (ret := (some .int)) (by decide) rfl ?_
  intro p e s m args below meth c s₁ B hml hv
  obtain ⟨rfl, hM, hK⟩ := hv
  have hx := B.exec
  have hb := B.bytes
  have hr := B.returns
  have hts := atoms_spec (ws := wsX8_fund) B.pre
  have hown : s.vm.findClass RX8 = some m.cls := findClass_of_methodNamed B.named
  have hlocks := B.notSynchronized
  have hC : MC p s m _ c cX8_fund 3 D cy wsX8_fund := ⟨⟨hx, hb, hml, hown, hts⟩, hK⟩
  have hin : ∀ w ∈ wsX80, w ∈ wsX8_fund := fun _ h => List.mem_cons_of_mem _ (List.mem_append_right _ (h))
  have hI : MI A D cy o ad s S th s.heap [] := ⟨hM, va_S.rf⟩
  have hb7 := hN.b7
  have hb15 := hN.b15
  have hb23 := hN.b23
  have hb28 := hN.b28
  have hb42 := hN.b42
  have k_170 := hts (.constant RX8 170 (1000000)) (List.mem_cons_of_mem _ (List.mem_append_left _ (List.mem_of_getElem? (i := 0) rfl)))
  have k_7 := hts (.fieldLink RX8 7 "RelatorsBenchModel" "money" "[I") (List.mem_cons_of_mem _ (List.mem_append_left _ (List.mem_of_getElem? (i := 1) rfl)))
  have k_171 := hts (.constant RX8 171 (100000000)) (List.mem_cons_of_mem _ (List.mem_append_left _ (List.mem_of_getElem? (i := 2) rfl)))
  have k_152 := hts (.fieldLink RX8 152 "RelatorsBenchModel" "thrown" "I") (List.mem_cons_of_mem _ (List.mem_append_left _ (List.mem_of_getElem? (i := 3) rfl)))
  have k_13 := hts (.fieldLink RX8 13 "RelatorsBenchModel" "given" "[I") (List.mem_cons_of_mem _ (List.mem_append_left _ (List.mem_of_getElem? (i := 4) rfl)))
  have hl := lv_entry ([.ref o, .int f, .int more]) (n := 3) (Nat.le_of_ble_eq_true rfl)
  rw [lg_entry_eq]
  generalize (lg_sl ([.ref o, .int f, .int more]) ++ List.replicate (3 - (lg_sl ([.ref o, .int f, .int more])).length) Slot.unset).toArray = ls at hl ⊢
  have hl : lv_has ls 3 [(0, .ref o), (1, .int f), (2, .int more)] := hl
  have hG : fX8_fund S f more = fX8_fund S f more := rfl
  refine lv_aload_n hx hb dX8_fund_0 rfl (lv_at hl 0 rfl) ?_
  refine lv_iload_n hx hb dX8_fund_1 rfl (lv_at hl 1 rfl) ?_
  refine mr_callS (As := [.int f]) (rest := [.ref o]) hC hI (qX8_isFirm l f) (va_cwS 1 hts gX8_fund_X8_isFirm rfl rfl rfl (by decide +kernel) ⟨Nat.le_of_ble_eq_true rfl, Nat.le_of_ble_eq_true rfl⟩) rfl hl.1 rfl (Nat.le_of_ble_eq_true rfl) dX8_fund_2 ⟨Nat.zero_le _, Nat.zero_le _⟩ (fun H locs hI => ?_)
  refine lv_if_ne (tgt := 12) hx hb dX8_fund_5 (by decide) (fun c_1 => ?_) (fun c_1 => ?_)
  · have hG := hG.trans (if_neg c_1)
    refine lv_iload_n hx hb dX8_fund_12 rfl (lv_at hl 2 rfl) ?_
    refine lv_iconst (v := 1) hx hb dX8_fund_13 (by decide) ?_
    refine lv_ldc hx hb hown k_170 dX8_fund_14 ?_
    refine mr_callS (As := [.int more, .int 1, .int 1000000]) (rest := [.ref o]) hC hI (qX8_in l more 1 1000000) (va_cwS 3 hts gX8_fund_X8_in rfl rfl rfl (by decide +kernel) ⟨Nat.le_of_ble_eq_true rfl, Nat.le_of_ble_eq_true rfl⟩) rfl hl.1 rfl (Nat.le_of_ble_eq_true rfl) dX8_fund_16 ⟨Nat.zero_le _, Nat.zero_le _⟩ (fun H locs hI => ?_)
    refine lv_if_ne (tgt := 26) hx hb dX8_fund_19 (by decide) (fun c_2 => ?_) (fun c_2 => ?_)
    · have hG := hG.trans (if_neg c_2)
      refine lv_aload_n hx hb dX8_fund_26 rfl (lv_at hl 0 rfl) ?_
      refine mr_ga hC hin hI 2 (by decide) k_7 dX8_fund_27 ?_
      refine lv_iload_n hx hb dX8_fund_30 rfl (lv_at hl 1 rfl) ?_
      refine mr_ld hC hI 2 (by decide) (by decide) (isFirm_in (by assumption)) (v := (S 2 (ix f))) rfl dX8_fund_31 ?_
      refine lv_iload_n hx hb dX8_fund_32 rfl (lv_at hl 2 rfl) ?_
      refine lv_iadd hx hb dX8_fund_33 ?_
      refine lv_ldc hx hb hown k_171 dX8_fund_34 ?_
      refine lv_icmp_le (tgt := 43) hx hb dX8_fund_36 (by decide) (fun c_3 => ?_) (fun c_3 => ?_)
      · have hG := hG.trans (if_pos c_3)
        refine lv_iconst (v := 0) hx hb dX8_fund_43 (by decide) ?_
        refine mr_pt hC hin hL hI k_152 dX8_fund_44 (fun H locs hI => ?_)
        refine lv_aload_n hx hb dX8_fund_47 rfl (lv_at hl 0 rfl) ?_
        refine mr_gt hC hin hI k_152 dX8_fund_48 ?_
        refine lv_if_le (tgt := 56) hx hb dX8_fund_51 (by decide) (fun _ => ?_) (fun c => absurd (by decide : (0 : Int32) ≤ 0) c)
        refine lv_aload_n hx hb dX8_fund_56 rfl (lv_at hl 0 rfl) ?_
        refine mr_ga hC hin hI 2 (by decide) k_7 dX8_fund_57 ?_
        refine lv_iload_n hx hb dX8_fund_60 rfl (lv_at hl 1 rfl) ?_
        refine lv_dup2_11 hx hb dX8_fund_61 rfl rfl ?_
        refine mr_ld hC hI 2 (by decide) (by decide) (isFirm_in (by assumption)) (v := (S 2 (ix f))) rfl dX8_fund_62 ?_
        refine lv_iload_n hx hb dX8_fund_63 rfl (lv_at hl 2 rfl) ?_
        refine lv_iadd hx hb dX8_fund_64 ?_
        refine mr_st hC hL hI 2 (by decide) (by decide) (isFirm_in (by assumption)) (n := (ix f)) rfl dX8_fund_65 (fun H locs hI => ?_)
        refine lv_aload_n hx hb dX8_fund_66 rfl (lv_at hl 0 rfl) ?_
        refine mr_ga hC hin hI 3 (by decide) k_13 dX8_fund_67 ?_
        refine lv_iload_n hx hb dX8_fund_70 rfl (lv_at hl 1 rfl) ?_
        refine lv_dup2_11 hx hb dX8_fund_71 rfl rfl ?_
        refine mr_ld hC hI 3 (by decide) (by decide) (isFirm_in (by assumption)) (v := (S 3 (ix f))) (congrFun (up_ne (by decide)) _) dX8_fund_72 ?_
        refine lv_iload_n hx hb dX8_fund_73 rfl (lv_at hl 2 rfl) ?_
        refine lv_iadd hx hb dX8_fund_74 ?_
        refine mr_st hC hL hI 3 (by decide) (by decide) (isFirm_in (by assumption)) (n := (ix f)) rfl dX8_fund_75 (fun H locs hI => ?_)
        refine lv_aload_n hx hb dX8_fund_76 rfl (lv_at hl 0 rfl) ?_
        refine mr_ga hC hin hI 2 (by decide) k_7 dX8_fund_77 ?_
        refine lv_iload_n hx hb dX8_fund_80 rfl (lv_at hl 1 rfl) ?_
        refine mr_ld hC hI 2 (by decide) (by decide) (isFirm_in (by assumption)) (v := ((S 2 (ix f)) + more)) ((congrFun (up_ne (by decide)) _).trans (up_at _ _ _ _)) dX8_fund_81 ?_
        exact W.iret (v := ((S 2 (ix f)) + more)) hx hb hr (fun t9 ht9 hW9 => ⟨⟨((S 2 (ix f)) + more), (), rfl, (congrArg Prod.fst hG).symm, by show MH D cy o ad _ _ t9.heap; rw [ht9, hG]; exact hI.1⟩, hI.2.F ht9⟩) hI.2.2.2 dX8_fund_82
      · have hG := hG.trans (if_neg c_3)
        refine lv_iconst (v := 3) hx hb dX8_fund_39 (by decide) ?_
        refine lv_goto (tgt := 44) hx hb dX8_fund_40 (by decide) ?_
        refine mr_pt hC hin hL hI k_152 dX8_fund_44 (fun H locs hI => ?_)
        refine lv_aload_n hx hb dX8_fund_47 rfl (lv_at hl 0 rfl) ?_
        refine mr_gt hC hin hI k_152 dX8_fund_48 ?_
        refine lv_if_le (tgt := 56) hx hb dX8_fund_51 (by decide) (fun c => absurd c (by decide : ¬ (3 : Int32) ≤ 0)) (fun _ => ?_)
        refine lv_iconst (v := 0) hx hb dX8_fund_54 (by decide) ?_
        exact W.iret (v := 0) hx hb hr (fun t9 ht9 hW9 => ⟨⟨0, (), rfl, (congrArg Prod.fst hG).symm, by show MH D cy o ad _ _ t9.heap; rw [ht9, hG]; exact hI.1⟩, hI.2.F ht9⟩) hI.2.2.2 dX8_fund_55
    · have hG := hG.trans (if_pos c_2)
      refine lv_iconst (v := 2) hx hb dX8_fund_22 (by decide) ?_
      refine lv_goto (tgt := 44) hx hb dX8_fund_23 (by decide) ?_
      refine mr_pt hC hin hL hI k_152 dX8_fund_44 (fun H locs hI => ?_)
      refine lv_aload_n hx hb dX8_fund_47 rfl (lv_at hl 0 rfl) ?_
      refine mr_gt hC hin hI k_152 dX8_fund_48 ?_
      refine lv_if_le (tgt := 56) hx hb dX8_fund_51 (by decide) (fun c => absurd c (by decide : ¬ (2 : Int32) ≤ 0)) (fun _ => ?_)
      refine lv_iconst (v := 0) hx hb dX8_fund_54 (by decide) ?_
      exact W.iret (v := 0) hx hb hr (fun t9 ht9 hW9 => ⟨⟨0, (), rfl, (congrArg Prod.fst hG).symm, by show MH D cy o ad _ _ t9.heap; rw [ht9, hG]; exact hI.1⟩, hI.2.F ht9⟩) hI.2.2.2 dX8_fund_55
  · have hG := hG.trans (if_pos c_1)
    refine lv_iconst (v := 1) hx hb dX8_fund_8 (by decide) ?_
    refine lv_goto (tgt := 44) hx hb dX8_fund_9 (by decide) ?_
    refine mr_pt hC hin hL hI k_152 dX8_fund_44 (fun H locs hI => ?_)
    refine lv_aload_n hx hb dX8_fund_47 rfl (lv_at hl 0 rfl) ?_
    refine mr_gt hC hin hI k_152 dX8_fund_48 ?_
    refine lv_if_le (tgt := 56) hx hb dX8_fund_51 (by decide) (fun c => absurd c (by decide : ¬ (1 : Int32) ≤ 0)) (fun _ => ?_)
    refine lv_iconst (v := 0) hx hb dX8_fund_54 (by decide) ?_
    exact W.iret (v := 0) hx hb hr (fun t9 ht9 hW9 => ⟨⟨0, (), rfl, (congrArg Prod.fst hG).symm, by show MH D cy o ad _ _ t9.heap; rw [ht9, hG]; exact hI.1⟩, hI.2.F ht9⟩) hI.2.2.2 dX8_fund_55
set_option maxHeartbeats 4000000 in
set_option maxRecDepth 100000 in
theorem qX8_scheme (l : Launch) (A : Nat → Prop) (D : va_G) (cy : Nat → ClassId) (o : Nat) (ad : Nat → Nat) (hL : ML A o ad) (S : St) (th : Int32) (hN : MInv S) (f : Int32) (set : Int32) (by_ : Int32) : MMut l A D cy o ad S th yX8_scheme wsX8_scheme ({ frames := 2, cells := 0, slots := 0, locals := 42 } : Room) [.int f, .int set, .int by_] (fX8_scheme S f set by_).1 (fX8_scheme S f set by_).2.2 (fX8_scheme S f set by_).2.1 := by
  refine Met.ofW (cc := cX8_scheme) (maxL := 4) (ret := (some .int)) (by decide) rfl ?_
  intro p e s m args below meth c s₁ B hml hv
  obtain ⟨rfl, hM, hK⟩ := hv
  have hx := B.exec
  have hb := B.bytes
  have hr := B.returns
  have hts := atoms_spec (ws := wsX8_scheme) B.pre
  have hown : s.vm.findClass RX8 = some m.cls := findClass_of_methodNamed B.named
  have hlocks := B.notSynchronized
  have hC : MC p s m _ c cX8_scheme 4 D cy wsX8_scheme := ⟨⟨hx, hb, hml, hown, hts⟩, hK⟩
  have hin : ∀ w ∈ wsX80, w ∈ wsX8_scheme := fun _ h => List.mem_cons_of_mem _ (List.mem_append_right _ (h))
  have hI : MI A D cy o ad s S th s.heap [] := ⟨hM, va_S.rf⟩
  have hb7 := hN.b7
  have hb15 := hN.b15
  have hb23 := hN.b23
  have hb28 := hN.b28
  have hb42 := hN.b42
  have k_172 := hts (.constant RX8 172 (65535)) (List.mem_cons_of_mem _ (List.mem_append_left _ (List.mem_of_getElem? (i := 0) rfl)))
  have k_152 := hts (.fieldLink RX8 152 "RelatorsBenchModel" "thrown" "I") (List.mem_cons_of_mem _ (List.mem_append_left _ (List.mem_of_getElem? (i := 2) rfl)))
  have k_160 := hts (.fieldLink RX8 160 "RelatorsBenchModel" "schemes" "I") (List.mem_cons_of_mem _ (List.mem_append_left _ (List.mem_of_getElem? (i := 1) rfl)))
  have k_22 := hts (.fieldLink RX8 22 "RelatorsBenchModel" "firmOf" "[I") (List.mem_cons_of_mem _ (List.mem_append_left _ (List.mem_of_getElem? (i := 3) rfl)))
  have k_25 := hts (.fieldLink RX8 25 "RelatorsBenchModel" "factsOf" "[I") (List.mem_cons_of_mem _ (List.mem_append_left _ (List.mem_of_getElem? (i := 4) rfl)))
  have k_28 := hts (.fieldLink RX8 28 "RelatorsBenchModel" "ground" "[I") (List.mem_cons_of_mem _ (List.mem_append_left _ (List.mem_of_getElem? (i := 5) rfl)))
  have k_31 := hts (.fieldLink RX8 31 "RelatorsBenchModel" "looked" "[I") (List.mem_cons_of_mem _ (List.mem_append_left _ (List.mem_of_getElem? (i := 6) rfl)))
  have hl := lv_entry ([.ref o, .int f, .int set, .int by_]) (n := 4) (Nat.le_of_ble_eq_true rfl)
  rw [lg_entry_eq]
  generalize (lg_sl ([.ref o, .int f, .int set, .int by_]) ++ List.replicate (4 - (lg_sl ([.ref o, .int f, .int set, .int by_])).length) Slot.unset).toArray = ls at hl ⊢
  have hl : lv_has ls 4 [(0, .ref o), (1, .int f), (2, .int set), (3, .int by_)] := hl
  have hG : fX8_scheme S f set by_ = fX8_scheme S f set by_ := rfl
  refine lv_aload_n hx hb dX8_scheme_0 rfl (lv_at hl 0 rfl) ?_
  refine lv_iload_n hx hb dX8_scheme_1 rfl (lv_at hl 1 rfl) ?_
  refine mr_callS (As := [.int f]) (rest := [.ref o]) hC hI (qX8_isFirm l f) (va_cwS 1 hts gX8_scheme_X8_isFirm rfl rfl rfl (by decide +kernel) ⟨Nat.le_of_ble_eq_true rfl, Nat.le_of_ble_eq_true rfl⟩) rfl hl.1 rfl (Nat.le_of_ble_eq_true rfl) dX8_scheme_2 ⟨Nat.zero_le _, Nat.zero_le _⟩ (fun H locs hI => ?_)
  refine lv_if_ne (tgt := 12) hx hb dX8_scheme_5 (by decide) (fun c_1 => ?_) (fun c_1 => ?_)
  · have hG := hG.trans (if_neg c_1)
    refine lv_iload_n hx hb dX8_scheme_12 rfl (lv_at hl 2 rfl) ?_
    refine lv_iconst (v := 1) hx hb dX8_scheme_13 (by decide) ?_
    refine lv_ldc hx hb hown k_172 dX8_scheme_14 ?_
    refine mr_callS (As := [.int set, .int 1, .int 65535]) (rest := [.ref o]) hC hI (qX8_in l set 1 65535) (va_cwS 3 hts gX8_scheme_X8_in rfl rfl rfl (by decide +kernel) ⟨Nat.le_of_ble_eq_true rfl, Nat.le_of_ble_eq_true rfl⟩) rfl hl.1 rfl (Nat.le_of_ble_eq_true rfl) dX8_scheme_16 ⟨Nat.zero_le _, Nat.zero_le _⟩ (fun H locs hI => ?_)
    refine lv_if_eq (tgt := 31) hx hb dX8_scheme_19 (by decide) (fun c_2 => ?_) (fun c_2 => ?_)
    · have hG := hG.trans (if_pos c_2)
      refine lv_iconst (v := 2) hx hb dX8_scheme_31 (by decide) ?_
      refine lv_goto (tgt := 49) hx hb dX8_scheme_32 (by decide) ?_
      refine mr_pt hC hin hL hI k_152 dX8_scheme_49 (fun H locs hI => ?_)
      refine lv_aload_n hx hb dX8_scheme_52 rfl (lv_at hl 0 rfl) ?_
      refine mr_gt hC hin hI k_152 dX8_scheme_53 ?_
      refine lv_if_le (tgt := 61) hx hb dX8_scheme_56 (by decide) (fun c => absurd c (by decide : ¬ (2 : Int32) ≤ 0)) (fun _ => ?_)
      refine lv_iconst (v := 0) hx hb dX8_scheme_59 (by decide) ?_
      exact W.iret (v := 0) hx hb hr (fun t9 ht9 hW9 => ⟨⟨0, (), rfl, (congrArg Prod.fst hG).symm, by show MH D cy o ad _ _ t9.heap; rw [ht9, hG]; exact hI.1⟩, hI.2.F ht9⟩) hI.2.2.2 dX8_scheme_60
    · have hG := hG.trans (if_neg c_2)
      refine lv_iload_n hx hb dX8_scheme_22 rfl (lv_at hl 3 rfl) ?_
      refine lv_iconst (v := 0) hx hb dX8_scheme_23 (by decide) ?_
      refine lv_iconst (v := 2) hx hb dX8_scheme_24 (by decide) ?_
      refine mr_callS (As := [.int by_, .int 0, .int 2]) (rest := [.ref o]) hC hI (qX8_in l by_ 0 2) (va_cwS 3 hts gX8_scheme_X8_in rfl rfl rfl (by decide +kernel) ⟨Nat.le_of_ble_eq_true rfl, Nat.le_of_ble_eq_true rfl⟩) rfl hl.1 rfl (Nat.le_of_ble_eq_true rfl) dX8_scheme_25 ⟨Nat.zero_le _, Nat.zero_le _⟩ (fun H locs hI => ?_)
      refine lv_if_ne (tgt := 35) hx hb dX8_scheme_28 (by decide) (fun c_3 => ?_) (fun c_3 => ?_)
      · have hG := hG.trans (if_neg c_3)
        refine lv_aload_n hx hb dX8_scheme_35 rfl (lv_at hl 0 rfl) ?_
        refine mr_gi hC hin hI 7 (by decide) (by decide) (by decide) k_160 (v := (S 7 0)) rfl dX8_scheme_36 ?_
        refine lv_bipush (v := 8) hx hb dX8_scheme_39 (by decide) ?_
        refine lv_icmp_ne (tgt := 48) hx hb dX8_scheme_41 (by decide) (fun c_4 => ?_) (fun c_4 => ?_)
        · have hG := hG.trans (if_neg c_4)
          refine lv_iconst (v := 0) hx hb dX8_scheme_48 (by decide) ?_
          refine mr_pt hC hin hL hI k_152 dX8_scheme_49 (fun H locs hI => ?_)
          refine lv_aload_n hx hb dX8_scheme_52 rfl (lv_at hl 0 rfl) ?_
          refine mr_gt hC hin hI k_152 dX8_scheme_53 ?_
          refine lv_if_le (tgt := 61) hx hb dX8_scheme_56 (by decide) (fun _ => ?_) (fun c => absurd (by decide : (0 : Int32) ≤ 0) c)
          refine lv_aload_n hx hb dX8_scheme_61 rfl (lv_at hl 0 rfl) ?_
          refine mr_ga hC hin hI 8 (by decide) k_22 dX8_scheme_62 ?_
          refine lv_aload_n hx hb dX8_scheme_65 rfl (lv_at hl 0 rfl) ?_
          refine mr_gi hC hin hI 7 (by decide) (by decide) (by decide) k_160 (v := (S 7 0)) rfl dX8_scheme_66 ?_
          refine lv_iload_n hx hb dX8_scheme_69 rfl (lv_at hl 1 rfl) ?_
          refine mr_st hC hL hI 8 (by decide) (by decide) (cnt_in hN.n7 hN.b7 (by assumption)) (n := (ix (S 7 0))) rfl dX8_scheme_70 (fun H locs hI => ?_)
          refine lv_aload_n hx hb dX8_scheme_71 rfl (lv_at hl 0 rfl) ?_
          refine mr_ga hC hin hI 9 (by decide) k_25 dX8_scheme_72 ?_
          refine lv_aload_n hx hb dX8_scheme_75 rfl (lv_at hl 0 rfl) ?_
          refine mr_gi hC hin hI 7 (by decide) (by decide) (by decide) k_160 (v := (S 7 0)) (congrFun (up_ne (by decide)) _) dX8_scheme_76 ?_
          refine lv_iload_n hx hb dX8_scheme_79 rfl (lv_at hl 2 rfl) ?_
          refine mr_st hC hL hI 9 (by decide) (by decide) (cnt_in hN.n7 hN.b7 (by assumption)) (n := (ix (S 7 0))) rfl dX8_scheme_80 (fun H locs hI => ?_)
          refine lv_aload_n hx hb dX8_scheme_81 rfl (lv_at hl 0 rfl) ?_
          refine mr_ga hC hin hI 10 (by decide) k_28 dX8_scheme_82 ?_
          refine lv_aload_n hx hb dX8_scheme_85 rfl (lv_at hl 0 rfl) ?_
          refine mr_gi hC hin hI 7 (by decide) (by decide) (by decide) k_160 (v := (S 7 0)) ((congrFun (up_ne (by decide)) _).trans (congrFun (up_ne (by decide)) _)) dX8_scheme_86 ?_
          refine lv_iload_n hx hb dX8_scheme_89 rfl (lv_at hl 3 rfl) ?_
          refine mr_st hC hL hI 10 (by decide) (by decide) (cnt_in hN.n7 hN.b7 (by assumption)) (n := (ix (S 7 0))) rfl dX8_scheme_90 (fun H locs hI => ?_)
          refine lv_aload_n hx hb dX8_scheme_91 rfl (lv_at hl 0 rfl) ?_
          refine mr_ga hC hin hI 11 (by decide) k_31 dX8_scheme_92 ?_
          refine lv_aload_n hx hb dX8_scheme_95 rfl (lv_at hl 0 rfl) ?_
          refine mr_gi hC hin hI 7 (by decide) (by decide) (by decide) k_160 (v := (S 7 0)) ((congrFun (up_ne (by decide)) _).trans ((congrFun (up_ne (by decide)) _).trans (congrFun (up_ne (by decide)) _))) dX8_scheme_96 ?_
          refine lv_iconst (v := 1) hx hb dX8_scheme_99 (by decide) ?_
          refine mr_st hC hL hI 11 (by decide) (by decide) (cnt_in hN.n7 hN.b7 (by assumption)) (n := (ix (S 7 0))) rfl dX8_scheme_100 (fun H locs hI => ?_)
          refine lv_aload_n hx hb dX8_scheme_101 rfl (lv_at hl 0 rfl) ?_
          refine lv_dup hx hb dX8_scheme_102 rfl ?_
          refine mr_gi hC hin hI 7 (by decide) (by decide) (by decide) k_160 (v := (S 7 0)) ((congrFun (up_ne (by decide)) _).trans ((congrFun (up_ne (by decide)) _).trans ((congrFun (up_ne (by decide)) _).trans (congrFun (up_ne (by decide)) _)))) dX8_scheme_103 ?_
          refine lv_iconst (v := 1) hx hb dX8_scheme_106 (by decide) ?_
          refine lv_iadd hx hb dX8_scheme_107 ?_
          refine mr_pi hC hin hL hI 7 (by decide) (by decide) (by decide) k_160 dX8_scheme_108 (fun H locs hI => ?_)
          refine lv_aload_n hx hb dX8_scheme_111 rfl (lv_at hl 0 rfl) ?_
          refine mr_gi hC hin hI 7 (by decide) (by decide) (by decide) k_160 (v := ((S 7 0) + 1)) (up_at _ _ _ _) dX8_scheme_112 ?_
          refine lv_iconst (v := 1) hx hb dX8_scheme_115 (by decide) ?_
          refine lv_isub hx hb dX8_scheme_116 ?_
          exact W.iret (v := (((S 7 0) + 1) - 1)) hx hb hr (fun t9 ht9 hW9 => ⟨⟨(((S 7 0) + 1) - 1), (), rfl, (congrArg Prod.fst hG).symm, by show MH D cy o ad _ _ t9.heap; rw [ht9, hG]; exact hI.1⟩, hI.2.F ht9⟩) hI.2.2.2 dX8_scheme_117
        · have hG := hG.trans (if_pos c_4)
          refine lv_iconst (v := 3) hx hb dX8_scheme_44 (by decide) ?_
          refine lv_goto (tgt := 49) hx hb dX8_scheme_45 (by decide) ?_
          refine mr_pt hC hin hL hI k_152 dX8_scheme_49 (fun H locs hI => ?_)
          refine lv_aload_n hx hb dX8_scheme_52 rfl (lv_at hl 0 rfl) ?_
          refine mr_gt hC hin hI k_152 dX8_scheme_53 ?_
          refine lv_if_le (tgt := 61) hx hb dX8_scheme_56 (by decide) (fun c => absurd c (by decide : ¬ (3 : Int32) ≤ 0)) (fun _ => ?_)
          refine lv_iconst (v := 0) hx hb dX8_scheme_59 (by decide) ?_
          exact W.iret (v := 0) hx hb hr (fun t9 ht9 hW9 => ⟨⟨0, (), rfl, (congrArg Prod.fst hG).symm, by show MH D cy o ad _ _ t9.heap; rw [ht9, hG]; exact hI.1⟩, hI.2.F ht9⟩) hI.2.2.2 dX8_scheme_60
      · have hG := hG.trans (if_pos c_3)
        refine lv_iconst (v := 2) hx hb dX8_scheme_31 (by decide) ?_
        refine lv_goto (tgt := 49) hx hb dX8_scheme_32 (by decide) ?_
        refine mr_pt hC hin hL hI k_152 dX8_scheme_49 (fun H locs hI => ?_)
        refine lv_aload_n hx hb dX8_scheme_52 rfl (lv_at hl 0 rfl) ?_
        refine mr_gt hC hin hI k_152 dX8_scheme_53 ?_
        refine lv_if_le (tgt := 61) hx hb dX8_scheme_56 (by decide) (fun c => absurd c (by decide : ¬ (2 : Int32) ≤ 0)) (fun _ => ?_)
        refine lv_iconst (v := 0) hx hb dX8_scheme_59 (by decide) ?_
        exact W.iret (v := 0) hx hb hr (fun t9 ht9 hW9 => ⟨⟨0, (), rfl, (congrArg Prod.fst hG).symm, by show MH D cy o ad _ _ t9.heap; rw [ht9, hG]; exact hI.1⟩, hI.2.F ht9⟩) hI.2.2.2 dX8_scheme_60
  · have hG := hG.trans (if_pos c_1)
    refine lv_iconst (v := 1) hx hb dX8_scheme_8 (by decide) ?_
    refine lv_goto (tgt := 49) hx hb dX8_scheme_9 (by decide) ?_
    refine mr_pt hC hin hL hI k_152 dX8_scheme_49 (fun H locs hI => ?_)
    refine lv_aload_n hx hb dX8_scheme_52 rfl (lv_at hl 0 rfl) ?_
    refine mr_gt hC hin hI k_152 dX8_scheme_53 ?_
    refine lv_if_le (tgt := 61) hx hb dX8_scheme_56 (by decide) (fun c => absurd c (by decide : ¬ (1 : Int32) ≤ 0)) (fun _ => ?_)
    refine lv_iconst (v := 0) hx hb dX8_scheme_59 (by decide) ?_
    exact W.iret (v := 0) hx hb hr (fun t9 ht9 hW9 => ⟨⟨0, (), rfl, (congrArg Prod.fst hG).symm, by show MH D cy o ad _ _ t9.heap; rw [ht9, hG]; exact hI.1⟩, hI.2.F ht9⟩) hI.2.2.2 dX8_scheme_60
set_option maxHeartbeats 4000000 in
set_option maxRecDepth 100000 in
theorem qX8_claim (l : Launch) (A : Nat → Prop) (D : va_G) (cy : Nat → ClassId) (o : Nat) (ad : Nat → Nat) (hL : ML A o ad) (S : St) (th : Int32) (hN : MInv S) (s_ : Int32) (much : Int32) : MMut l A D cy o ad S th yX8_claim wsX8_claim ({ frames := 2, cells := 0, slots := 0, locals := 43 } : Room) [.int s_, .int much] (fX8_claim S s_ much).1 (fX8_claim S s_ much).2.2 (fX8_claim S s_ much).2.1 := by
  refine Met.ofW (cc := cX8_claim) (maxL := 3) (ret := (some .int)) (by decide) rfl ?_
  intro p e s m args below meth c s₁ B hml hv
  obtain ⟨rfl, hM, hK⟩ := hv
  have hx := B.exec
  have hb := B.bytes
  have hr := B.returns
  have hts := atoms_spec (ws := wsX8_claim) B.pre
  have hown : s.vm.findClass RX8 = some m.cls := findClass_of_methodNamed B.named
  have hlocks := B.notSynchronized
  have hC : MC p s m _ c cX8_claim 3 D cy wsX8_claim := ⟨⟨hx, hb, hml, hown, hts⟩, hK⟩
  have hin : ∀ w ∈ wsX80, w ∈ wsX8_claim := fun _ h => List.mem_cons_of_mem _ (List.mem_append_right _ (h))
  have hI : MI A D cy o ad s S th s.heap [] := ⟨hM, va_S.rf⟩
  have hb7 := hN.b7
  have hb15 := hN.b15
  have hb23 := hN.b23
  have hb28 := hN.b28
  have hb42 := hN.b42
  have k_176 := hts (.fieldLink RX8 176 "RelatorsBenchModel" "claims" "I") (List.mem_cons_of_mem _ (List.mem_append_left _ (List.mem_of_getElem? (i := 0) rfl)))
  have k_152 := hts (.fieldLink RX8 152 "RelatorsBenchModel" "thrown" "I") (List.mem_cons_of_mem _ (List.mem_append_left _ (List.mem_of_getElem? (i := 1) rfl)))
  have k_44 := hts (.fieldLink RX8 44 "RelatorsBenchModel" "schemeOf" "[I") (List.mem_cons_of_mem _ (List.mem_append_left _ (List.mem_of_getElem? (i := 2) rfl)))
  have k_47 := hts (.fieldLink RX8 47 "RelatorsBenchModel" "amount" "[I") (List.mem_cons_of_mem _ (List.mem_append_left _ (List.mem_of_getElem? (i := 3) rfl)))
  have k_50 := hts (.fieldLink RX8 50 "RelatorsBenchModel" "made" "[I") (List.mem_cons_of_mem _ (List.mem_append_left _ (List.mem_of_getElem? (i := 4) rfl)))
  have k_179 := hts (.fieldLink RX8 179 "RelatorsBenchModel" "today" "I") (List.mem_cons_of_mem _ (List.mem_append_left _ (List.mem_of_getElem? (i := 5) rfl)))
  have k_53 := hts (.fieldLink RX8 53 "RelatorsBenchModel" "paidBy" "[I") (List.mem_cons_of_mem _ (List.mem_append_left _ (List.mem_of_getElem? (i := 6) rfl)))
  have hl := lv_entry ([.ref o, .int s_, .int much]) (n := 3) (Nat.le_of_ble_eq_true rfl)
  rw [lg_entry_eq]
  generalize (lg_sl ([.ref o, .int s_, .int much]) ++ List.replicate (3 - (lg_sl ([.ref o, .int s_, .int much])).length) Slot.unset).toArray = ls at hl ⊢
  have hl : lv_has ls 3 [(0, .ref o), (1, .int s_), (2, .int much)] := hl
  have hG : fX8_claim S s_ much = fX8_claim S s_ much := rfl
  refine lv_aload_n hx hb dX8_claim_0 rfl (lv_at hl 0 rfl) ?_
  refine lv_aload_n hx hb dX8_claim_1 rfl (lv_at hl 0 rfl) ?_
  refine lv_iload_n hx hb dX8_claim_2 rfl (lv_at hl 1 rfl) ?_
  refine mr_call (As := [.int s_]) (rest := [.ref o]) hC hI (qX8_isScheme l D cy o ad S th s_) (cwV 1 hts gX8_claim_X8_isScheme rfl rfl rfl (by decide +kernel) ⟨Nat.le_of_ble_eq_true rfl, Nat.le_of_ble_eq_true rfl⟩) rfl hl.1 rfl (Nat.le_of_ble_eq_true rfl) dX8_claim_3 ⟨Nat.zero_le _, Nat.zero_le _⟩ (fun H locs hI => ?_)
  refine lv_if_ne (tgt := 13) hx hb dX8_claim_6 (by decide) (fun c_1 => ?_) (fun c_1 => ?_)
  · have hG := hG.trans (if_neg c_1)
    refine lv_iload_n hx hb dX8_claim_13 rfl (lv_at hl 2 rfl) ?_
    refine lv_iconst (v := 1) hx hb dX8_claim_14 (by decide) ?_
    refine lv_sipush (v := 9999) hx hb dX8_claim_15 (by decide) ?_
    refine mr_callS (As := [.int much, .int 1, .int 9999]) (rest := [.ref o]) hC hI (qX8_in l much 1 9999) (va_cwS 3 hts gX8_claim_X8_in rfl rfl rfl (by decide +kernel) ⟨Nat.le_of_ble_eq_true rfl, Nat.le_of_ble_eq_true rfl⟩) rfl hl.1 rfl (Nat.le_of_ble_eq_true rfl) dX8_claim_18 ⟨Nat.zero_le _, Nat.zero_le _⟩ (fun H locs hI => ?_)
    refine lv_if_ne (tgt := 28) hx hb dX8_claim_21 (by decide) (fun c_2 => ?_) (fun c_2 => ?_)
    · have hG := hG.trans (if_neg c_2)
      refine lv_aload_n hx hb dX8_claim_28 rfl (lv_at hl 0 rfl) ?_
      refine mr_gi hC hin hI 15 (by decide) (by decide) (by decide) k_176 (v := (S 15 0)) rfl dX8_claim_29 ?_
      refine lv_bipush (v := 40) hx hb dX8_claim_32 (by decide) ?_
      refine lv_icmp_ne (tgt := 41) hx hb dX8_claim_34 (by decide) (fun c_3 => ?_) (fun c_3 => ?_)
      · have hG := hG.trans (if_neg c_3)
        refine lv_iconst (v := 0) hx hb dX8_claim_41 (by decide) ?_
        refine mr_pt hC hin hL hI k_152 dX8_claim_42 (fun H locs hI => ?_)
        refine lv_aload_n hx hb dX8_claim_45 rfl (lv_at hl 0 rfl) ?_
        refine mr_gt hC hin hI k_152 dX8_claim_46 ?_
        refine lv_if_le (tgt := 54) hx hb dX8_claim_49 (by decide) (fun _ => ?_) (fun c => absurd (by decide : (0 : Int32) ≤ 0) c)
        refine lv_aload_n hx hb dX8_claim_54 rfl (lv_at hl 0 rfl) ?_
        refine mr_ga hC hin hI 16 (by decide) k_44 dX8_claim_55 ?_
        refine lv_aload_n hx hb dX8_claim_58 rfl (lv_at hl 0 rfl) ?_
        refine mr_gi hC hin hI 15 (by decide) (by decide) (by decide) k_176 (v := (S 15 0)) rfl dX8_claim_59 ?_
        refine lv_iload_n hx hb dX8_claim_62 rfl (lv_at hl 1 rfl) ?_
        refine mr_st hC hL hI 16 (by decide) (by decide) (cnt_in hN.n15 hN.b15 (by assumption)) (n := (ix (S 15 0))) rfl dX8_claim_63 (fun H locs hI => ?_)
        refine lv_aload_n hx hb dX8_claim_64 rfl (lv_at hl 0 rfl) ?_
        refine mr_ga hC hin hI 17 (by decide) k_47 dX8_claim_65 ?_
        refine lv_aload_n hx hb dX8_claim_68 rfl (lv_at hl 0 rfl) ?_
        refine mr_gi hC hin hI 15 (by decide) (by decide) (by decide) k_176 (v := (S 15 0)) (congrFun (up_ne (by decide)) _) dX8_claim_69 ?_
        refine lv_iload_n hx hb dX8_claim_72 rfl (lv_at hl 2 rfl) ?_
        refine mr_st hC hL hI 17 (by decide) (by decide) (cnt_in hN.n15 hN.b15 (by assumption)) (n := (ix (S 15 0))) rfl dX8_claim_73 (fun H locs hI => ?_)
        refine lv_aload_n hx hb dX8_claim_74 rfl (lv_at hl 0 rfl) ?_
        refine mr_ga hC hin hI 18 (by decide) k_50 dX8_claim_75 ?_
        refine lv_aload_n hx hb dX8_claim_78 rfl (lv_at hl 0 rfl) ?_
        refine mr_gi hC hin hI 15 (by decide) (by decide) (by decide) k_176 (v := (S 15 0)) ((congrFun (up_ne (by decide)) _).trans (congrFun (up_ne (by decide)) _)) dX8_claim_79 ?_
        refine lv_aload_n hx hb dX8_claim_82 rfl (lv_at hl 0 rfl) ?_
        refine mr_gi hC hin hI 1 (by decide) (by decide) (by decide) k_179 (v := (S 1 0)) ((congrFun (up_ne (by decide)) _).trans (congrFun (up_ne (by decide)) _)) dX8_claim_83 ?_
        refine mr_st hC hL hI 18 (by decide) (by decide) (cnt_in hN.n15 hN.b15 (by assumption)) (n := (ix (S 15 0))) rfl dX8_claim_86 (fun H locs hI => ?_)
        refine lv_aload_n hx hb dX8_claim_87 rfl (lv_at hl 0 rfl) ?_
        refine mr_ga hC hin hI 19 (by decide) k_53 dX8_claim_88 ?_
        refine lv_aload_n hx hb dX8_claim_91 rfl (lv_at hl 0 rfl) ?_
        refine mr_gi hC hin hI 15 (by decide) (by decide) (by decide) k_176 (v := (S 15 0)) ((congrFun (up_ne (by decide)) _).trans ((congrFun (up_ne (by decide)) _).trans (congrFun (up_ne (by decide)) _))) dX8_claim_92 ?_
        refine lv_iconst (v := (-1)) hx hb dX8_claim_95 (by decide) ?_
        refine mr_st hC hL hI 19 (by decide) (by decide) (cnt_in hN.n15 hN.b15 (by assumption)) (n := (ix (S 15 0))) rfl dX8_claim_96 (fun H locs hI => ?_)
        refine lv_aload_n hx hb dX8_claim_97 rfl (lv_at hl 0 rfl) ?_
        refine lv_dup hx hb dX8_claim_98 rfl ?_
        refine mr_gi hC hin hI 15 (by decide) (by decide) (by decide) k_176 (v := (S 15 0)) ((congrFun (up_ne (by decide)) _).trans ((congrFun (up_ne (by decide)) _).trans ((congrFun (up_ne (by decide)) _).trans (congrFun (up_ne (by decide)) _)))) dX8_claim_99 ?_
        refine lv_iconst (v := 1) hx hb dX8_claim_102 (by decide) ?_
        refine lv_iadd hx hb dX8_claim_103 ?_
        refine mr_pi hC hin hL hI 15 (by decide) (by decide) (by decide) k_176 dX8_claim_104 (fun H locs hI => ?_)
        refine lv_aload_n hx hb dX8_claim_107 rfl (lv_at hl 0 rfl) ?_
        refine mr_gi hC hin hI 15 (by decide) (by decide) (by decide) k_176 (v := ((S 15 0) + 1)) (up_at _ _ _ _) dX8_claim_108 ?_
        refine lv_iconst (v := 1) hx hb dX8_claim_111 (by decide) ?_
        refine lv_isub hx hb dX8_claim_112 ?_
        exact W.iret (v := (((S 15 0) + 1) - 1)) hx hb hr (fun t9 ht9 hW9 => ⟨⟨(((S 15 0) + 1) - 1), (), rfl, (congrArg Prod.fst hG).symm, by show MH D cy o ad _ _ t9.heap; rw [ht9, hG]; exact hI.1⟩, hI.2.F ht9⟩) hI.2.2.2 dX8_claim_113
      · have hG := hG.trans (if_pos c_3)
        refine lv_iconst (v := 3) hx hb dX8_claim_37 (by decide) ?_
        refine lv_goto (tgt := 42) hx hb dX8_claim_38 (by decide) ?_
        refine mr_pt hC hin hL hI k_152 dX8_claim_42 (fun H locs hI => ?_)
        refine lv_aload_n hx hb dX8_claim_45 rfl (lv_at hl 0 rfl) ?_
        refine mr_gt hC hin hI k_152 dX8_claim_46 ?_
        refine lv_if_le (tgt := 54) hx hb dX8_claim_49 (by decide) (fun c => absurd c (by decide : ¬ (3 : Int32) ≤ 0)) (fun _ => ?_)
        refine lv_iconst (v := 0) hx hb dX8_claim_52 (by decide) ?_
        exact W.iret (v := 0) hx hb hr (fun t9 ht9 hW9 => ⟨⟨0, (), rfl, (congrArg Prod.fst hG).symm, by show MH D cy o ad _ _ t9.heap; rw [ht9, hG]; exact hI.1⟩, hI.2.F ht9⟩) hI.2.2.2 dX8_claim_53
    · have hG := hG.trans (if_pos c_2)
      refine lv_iconst (v := 2) hx hb dX8_claim_24 (by decide) ?_
      refine lv_goto (tgt := 42) hx hb dX8_claim_25 (by decide) ?_
      refine mr_pt hC hin hL hI k_152 dX8_claim_42 (fun H locs hI => ?_)
      refine lv_aload_n hx hb dX8_claim_45 rfl (lv_at hl 0 rfl) ?_
      refine mr_gt hC hin hI k_152 dX8_claim_46 ?_
      refine lv_if_le (tgt := 54) hx hb dX8_claim_49 (by decide) (fun c => absurd c (by decide : ¬ (2 : Int32) ≤ 0)) (fun _ => ?_)
      refine lv_iconst (v := 0) hx hb dX8_claim_52 (by decide) ?_
      exact W.iret (v := 0) hx hb hr (fun t9 ht9 hW9 => ⟨⟨0, (), rfl, (congrArg Prod.fst hG).symm, by show MH D cy o ad _ _ t9.heap; rw [ht9, hG]; exact hI.1⟩, hI.2.F ht9⟩) hI.2.2.2 dX8_claim_53
  · have hG := hG.trans (if_pos c_1)
    refine lv_iconst (v := 1) hx hb dX8_claim_9 (by decide) ?_
    refine lv_goto (tgt := 42) hx hb dX8_claim_10 (by decide) ?_
    refine mr_pt hC hin hL hI k_152 dX8_claim_42 (fun H locs hI => ?_)
    refine lv_aload_n hx hb dX8_claim_45 rfl (lv_at hl 0 rfl) ?_
    refine mr_gt hC hin hI k_152 dX8_claim_46 ?_
    refine lv_if_le (tgt := 54) hx hb dX8_claim_49 (by decide) (fun c => absurd c (by decide : ¬ (1 : Int32) ≤ 0)) (fun _ => ?_)
    refine lv_iconst (v := 0) hx hb dX8_claim_52 (by decide) ?_
    exact W.iret (v := 0) hx hb hr (fun t9 ht9 hW9 => ⟨⟨0, (), rfl, (congrArg Prod.fst hG).symm, by show MH D cy o ad _ _ t9.heap; rw [ht9, hG]; exact hI.1⟩, hI.2.F ht9⟩) hI.2.2.2 dX8_claim_53
set_option maxHeartbeats 4000000 in
set_option maxRecDepth 100000 in
theorem qX8_sample (l : Launch) (A : Nat → Prop) (D : va_G) (cy : Nat → ClassId) (o : Nat) (ad : Nat → Nat) (hL : ML A o ad) (S : St) (th : Int32) (hN : MInv S) (s_ : Int32) (many : Int32) (bad : Int32) : MMutV l A D cy o ad S th yX8_sample wsX8_sample ({ frames := 2, cells := 0, slots := 0, locals := 43 } : Room) [.int s_, .int many, .int bad] (fX8_sample S s_ many bad).2 (fX8_sample S s_ many bad).1 := by
  refine Met.ofW (cc := cX8_sample) (maxL := 4) (ret := none) (by decide) rfl ?_
  intro p e s m args below meth c s₁ B hml hv
  obtain ⟨rfl, hM, hK⟩ := hv
  have hx := B.exec
  have hb := B.bytes
  have hr := B.returns
  have hts := atoms_spec (ws := wsX8_sample) B.pre
  have hown : s.vm.findClass RX8 = some m.cls := findClass_of_methodNamed B.named
  have hlocks := B.notSynchronized
  have hC : MC p s m _ c cX8_sample 4 D cy wsX8_sample := ⟨⟨hx, hb, hml, hown, hts⟩, hK⟩
  have hin : ∀ w ∈ wsX80, w ∈ wsX8_sample := fun _ h => List.mem_cons_of_mem _ (List.mem_append_right _ (h))
  have hI : MI A D cy o ad s S th s.heap [] := ⟨hM, va_S.rf⟩
  have hb7 := hN.b7
  have hb15 := hN.b15
  have hb23 := hN.b23
  have hb28 := hN.b28
  have hb42 := hN.b42
  have k_152 := hts (.fieldLink RX8 152 "RelatorsBenchModel" "thrown" "I") (List.mem_cons_of_mem _ (List.mem_append_left _ (List.mem_of_getElem? (i := 0) rfl)))
  have k_31 := hts (.fieldLink RX8 31 "RelatorsBenchModel" "looked" "[I") (List.mem_cons_of_mem _ (List.mem_append_left _ (List.mem_of_getElem? (i := 1) rfl)))
  have k_34 := hts (.fieldLink RX8 34 "RelatorsBenchModel" "wrong" "[I") (List.mem_cons_of_mem _ (List.mem_append_left _ (List.mem_of_getElem? (i := 2) rfl)))
  have hl := lv_entry ([.ref o, .int s_, .int many, .int bad]) (n := 4) (Nat.le_of_ble_eq_true rfl)
  rw [lg_entry_eq]
  generalize (lg_sl ([.ref o, .int s_, .int many, .int bad]) ++ List.replicate (4 - (lg_sl ([.ref o, .int s_, .int many, .int bad])).length) Slot.unset).toArray = ls at hl ⊢
  have hl : lv_has ls 4 [(0, .ref o), (1, .int s_), (2, .int many), (3, .int bad)] := hl
  have hG : fX8_sample S s_ many bad = fX8_sample S s_ many bad := rfl
  refine lv_aload_n hx hb dX8_sample_0 rfl (lv_at hl 0 rfl) ?_
  refine lv_aload_n hx hb dX8_sample_1 rfl (lv_at hl 0 rfl) ?_
  refine lv_iload_n hx hb dX8_sample_2 rfl (lv_at hl 1 rfl) ?_
  refine mr_call (As := [.int s_]) (rest := [.ref o]) hC hI (qX8_isScheme l D cy o ad S th s_) (cwV 1 hts gX8_sample_X8_isScheme rfl rfl rfl (by decide +kernel) ⟨Nat.le_of_ble_eq_true rfl, Nat.le_of_ble_eq_true rfl⟩) rfl hl.1 rfl (Nat.le_of_ble_eq_true rfl) dX8_sample_3 ⟨Nat.zero_le _, Nat.zero_le _⟩ (fun H locs hI => ?_)
  refine lv_if_ne (tgt := 13) hx hb dX8_sample_6 (by decide) (fun c_1 => ?_) (fun c_1 => ?_)
  · have hG := hG.trans (if_neg c_1)
    refine lv_iload_n hx hb dX8_sample_13 rfl (lv_at hl 2 rfl) ?_
    refine lv_iconst (v := 1) hx hb dX8_sample_14 (by decide) ?_
    refine lv_bipush (v := 100) hx hb dX8_sample_15 (by decide) ?_
    refine mr_callS (As := [.int many, .int 1, .int 100]) (rest := [.ref o]) hC hI (qX8_in l many 1 100) (va_cwS 3 hts gX8_sample_X8_in rfl rfl rfl (by decide +kernel) ⟨Nat.le_of_ble_eq_true rfl, Nat.le_of_ble_eq_true rfl⟩) rfl hl.1 rfl (Nat.le_of_ble_eq_true rfl) dX8_sample_17 ⟨Nat.zero_le _, Nat.zero_le _⟩ (fun H locs hI => ?_)
    refine lv_if_eq (tgt := 32) hx hb dX8_sample_20 (by decide) (fun c_2 => ?_) (fun c_2 => ?_)
    · have hG := hG.trans (if_pos c_2)
      refine lv_iconst (v := 2) hx hb dX8_sample_32 (by decide) ?_
      refine lv_goto (tgt := 37) hx hb dX8_sample_33 (by decide) ?_
      refine mr_pt hC hin hL hI k_152 dX8_sample_37 (fun H locs hI => ?_)
      refine lv_aload_n hx hb dX8_sample_40 rfl (lv_at hl 0 rfl) ?_
      refine mr_gt hC hin hI k_152 dX8_sample_41 ?_
      refine lv_if_ne (tgt := 61) hx hb dX8_sample_44 (by decide) (fun _ => ?_) (fun c => absurd c (by decide : ¬ (2 : Int32) = 0))
      exact W.vret hx hb hr (fun t9 ht9 hW9 => ⟨⟨(), rfl, trivial, by show MH D cy o ad _ _ t9.heap; rw [ht9, hG]; exact hI.1⟩, hI.2.F ht9⟩) hI.2.2.2 dX8_sample_61
    · have hG := hG.trans (if_neg c_2)
      refine lv_iload_n hx hb dX8_sample_23 rfl (lv_at hl 3 rfl) ?_
      refine lv_iconst (v := 0) hx hb dX8_sample_24 (by decide) ?_
      refine lv_iload_n hx hb dX8_sample_25 rfl (lv_at hl 2 rfl) ?_
      refine mr_callS (As := [.int bad, .int 0, .int many]) (rest := [.ref o]) hC hI (qX8_in l bad 0 many) (va_cwS 3 hts gX8_sample_X8_in rfl rfl rfl (by decide +kernel) ⟨Nat.le_of_ble_eq_true rfl, Nat.le_of_ble_eq_true rfl⟩) rfl hl.1 rfl (Nat.le_of_ble_eq_true rfl) dX8_sample_26 ⟨Nat.zero_le _, Nat.zero_le _⟩ (fun H locs hI => ?_)
      refine lv_if_ne (tgt := 36) hx hb dX8_sample_29 (by decide) (fun c_3 => ?_) (fun c_3 => ?_)
      · have hG := hG.trans (if_neg c_3)
        refine lv_iconst (v := 0) hx hb dX8_sample_36 (by decide) ?_
        refine mr_pt hC hin hL hI k_152 dX8_sample_37 (fun H locs hI => ?_)
        refine lv_aload_n hx hb dX8_sample_40 rfl (lv_at hl 0 rfl) ?_
        refine mr_gt hC hin hI k_152 dX8_sample_41 ?_
        refine lv_if_ne (tgt := 61) hx hb dX8_sample_44 (by decide) (fun c => absurd (by decide : (0 : Int32) = 0) c) (fun _ => ?_)
        refine lv_aload_n hx hb dX8_sample_47 rfl (lv_at hl 0 rfl) ?_
        refine mr_ga hC hin hI 11 (by decide) k_31 dX8_sample_48 ?_
        refine lv_iload_n hx hb dX8_sample_51 rfl (lv_at hl 1 rfl) ?_
        refine lv_iload_n hx hb dX8_sample_52 rfl (lv_at hl 2 rfl) ?_
        refine mr_st hC hL hI 11 (by decide) (by decide) (isScheme_in hN (by assumption)) (n := (ix s_)) rfl dX8_sample_53 (fun H locs hI => ?_)
        refine lv_aload_n hx hb dX8_sample_54 rfl (lv_at hl 0 rfl) ?_
        refine mr_ga hC hin hI 12 (by decide) k_34 dX8_sample_55 ?_
        refine lv_iload_n hx hb dX8_sample_58 rfl (lv_at hl 1 rfl) ?_
        refine lv_iload_n hx hb dX8_sample_59 rfl (lv_at hl 3 rfl) ?_
        refine mr_st hC hL hI 12 (by decide) (by decide) (isScheme_in hN (by assumption)) (n := (ix s_)) rfl dX8_sample_60 (fun H locs hI => ?_)
        exact W.vret hx hb hr (fun t9 ht9 hW9 => ⟨⟨(), rfl, trivial, by show MH D cy o ad _ _ t9.heap; rw [ht9, hG]; exact hI.1⟩, hI.2.F ht9⟩) hI.2.2.2 dX8_sample_61
      · have hG := hG.trans (if_pos c_3)
        refine lv_iconst (v := 2) hx hb dX8_sample_32 (by decide) ?_
        refine lv_goto (tgt := 37) hx hb dX8_sample_33 (by decide) ?_
        refine mr_pt hC hin hL hI k_152 dX8_sample_37 (fun H locs hI => ?_)
        refine lv_aload_n hx hb dX8_sample_40 rfl (lv_at hl 0 rfl) ?_
        refine mr_gt hC hin hI k_152 dX8_sample_41 ?_
        refine lv_if_ne (tgt := 61) hx hb dX8_sample_44 (by decide) (fun _ => ?_) (fun c => absurd c (by decide : ¬ (2 : Int32) = 0))
        exact W.vret hx hb hr (fun t9 ht9 hW9 => ⟨⟨(), rfl, trivial, by show MH D cy o ad _ _ t9.heap; rw [ht9, hG]; exact hI.1⟩, hI.2.F ht9⟩) hI.2.2.2 dX8_sample_61
  · have hG := hG.trans (if_pos c_1)
    refine lv_iconst (v := 1) hx hb dX8_sample_9 (by decide) ?_
    refine lv_goto (tgt := 37) hx hb dX8_sample_10 (by decide) ?_
    refine mr_pt hC hin hL hI k_152 dX8_sample_37 (fun H locs hI => ?_)
    refine lv_aload_n hx hb dX8_sample_40 rfl (lv_at hl 0 rfl) ?_
    refine mr_gt hC hin hI k_152 dX8_sample_41 ?_
    refine lv_if_ne (tgt := 61) hx hb dX8_sample_44 (by decide) (fun _ => ?_) (fun c => absurd c (by decide : ¬ (1 : Int32) = 0))
    exact W.vret hx hb hr (fun t9 ht9 hW9 => ⟨⟨(), rfl, trivial, by show MH D cy o ad _ _ t9.heap; rw [ht9, hG]; exact hI.1⟩, hI.2.F ht9⟩) hI.2.2.2 dX8_sample_61
set_option maxHeartbeats 4000000 in
set_option maxRecDepth 100000 in
theorem qX8_learn (l : Launch) (A : Nat → Prop) (D : va_G) (cy : Nat → ClassId) (o : Nat) (ad : Nat → Nat) (hL : ML A o ad) (S : St) (th : Int32) (hN : MInv S) (t : Int32) (fact : Int32) : MMut l A D cy o ad S th yX8_learn wsX8_learn ({ frames := 2, cells := 0, slots := 0, locals := 42 } : Room) [.int t, .int fact] (fX8_learn S t fact).1 (fX8_learn S t fact).2.2 (fX8_learn S t fact).2.1 := by
  refine Met.ofW (cc := cX8_learn) (maxL := 3) (ret := (some .int)) (by decide) rfl ?_
  intro p e s m args below meth c s₁ B hml hv
  obtain ⟨rfl, hM, hK⟩ := hv
  have hx := B.exec
  have hb := B.bytes
  have hr := B.returns
  have hts := atoms_spec (ws := wsX8_learn) B.pre
  have hown : s.vm.findClass RX8 = some m.cls := findClass_of_methodNamed B.named
  have hlocks := B.notSynchronized
  have hC : MC p s m _ c cX8_learn 3 D cy wsX8_learn := ⟨⟨hx, hb, hml, hown, hts⟩, hK⟩
  have hin : ∀ w ∈ wsX80, w ∈ wsX8_learn := fun _ h => List.mem_cons_of_mem _ (List.mem_append_right _ (h))
  have hI : MI A D cy o ad s S th s.heap [] := ⟨hM, va_S.rf⟩
  have hb7 := hN.b7
  have hb15 := hN.b15
  have hb23 := hN.b23
  have hb28 := hN.b28
  have hb42 := hN.b42
  have k_152 := hts (.fieldLink RX8 152 "RelatorsBenchModel" "thrown" "I") (List.mem_cons_of_mem _ (List.mem_append_left _ (List.mem_of_getElem? (i := 0) rfl)))
  have k_59 := hts (.fieldLink RX8 59 "RelatorsBenchModel" "learned" "[I") (List.mem_cons_of_mem _ (List.mem_append_left _ (List.mem_of_getElem? (i := 1) rfl)))
  have hl := lv_entry ([.ref o, .int t, .int fact]) (n := 3) (Nat.le_of_ble_eq_true rfl)
  rw [lg_entry_eq]
  generalize (lg_sl ([.ref o, .int t, .int fact]) ++ List.replicate (3 - (lg_sl ([.ref o, .int t, .int fact])).length) Slot.unset).toArray = ls at hl ⊢
  have hl : lv_has ls 3 [(0, .ref o), (1, .int t), (2, .int fact)] := hl
  have hG : fX8_learn S t fact = fX8_learn S t fact := rfl
  refine lv_aload_n hx hb dX8_learn_0 rfl (lv_at hl 0 rfl) ?_
  refine lv_iload_n hx hb dX8_learn_1 rfl (lv_at hl 1 rfl) ?_
  refine mr_callS (As := [.int t]) (rest := [.ref o]) hC hI (qX8_isTeller l t) (va_cwS 1 hts gX8_learn_X8_isTeller rfl rfl rfl (by decide +kernel) ⟨Nat.le_of_ble_eq_true rfl, Nat.le_of_ble_eq_true rfl⟩) rfl hl.1 rfl (Nat.le_of_ble_eq_true rfl) dX8_learn_2 ⟨Nat.zero_le _, Nat.zero_le _⟩ (fun H locs hI => ?_)
  refine lv_if_eq (tgt := 22) hx hb dX8_learn_5 (by decide) (fun c_1 => ?_) (fun c_1 => ?_)
  · have hG := hG.trans (if_pos c_1)
    refine lv_iconst (v := 1) hx hb dX8_learn_22 (by decide) ?_
    refine mr_pt hC hin hL hI k_152 dX8_learn_23 (fun H locs hI => ?_)
    refine lv_aload_n hx hb dX8_learn_26 rfl (lv_at hl 0 rfl) ?_
    refine mr_gt hC hin hI k_152 dX8_learn_27 ?_
    refine lv_if_le (tgt := 35) hx hb dX8_learn_30 (by decide) (fun c => absurd c (by decide : ¬ (1 : Int32) ≤ 0)) (fun _ => ?_)
    refine lv_iconst (v := 0) hx hb dX8_learn_33 (by decide) ?_
    exact W.iret (v := 0) hx hb hr (fun t9 ht9 hW9 => ⟨⟨0, (), rfl, (congrArg Prod.fst hG).symm, by show MH D cy o ad _ _ t9.heap; rw [ht9, hG]; exact hI.1⟩, hI.2.F ht9⟩) hI.2.2.2 dX8_learn_34
  · have hG := hG.trans (if_neg c_1)
    refine lv_iload_n hx hb dX8_learn_8 rfl (lv_at hl 2 rfl) ?_
    refine lv_iconst (v := 0) hx hb dX8_learn_9 (by decide) ?_
    refine lv_bipush (v := 15) hx hb dX8_learn_10 (by decide) ?_
    refine mr_callS (As := [.int fact, .int 0, .int 15]) (rest := [.ref o]) hC hI (qX8_in l fact 0 15) (va_cwS 3 hts gX8_learn_X8_in rfl rfl rfl (by decide +kernel) ⟨Nat.le_of_ble_eq_true rfl, Nat.le_of_ble_eq_true rfl⟩) rfl hl.1 rfl (Nat.le_of_ble_eq_true rfl) dX8_learn_12 ⟨Nat.zero_le _, Nat.zero_le _⟩ (fun H locs hI => ?_)
    refine lv_if_eq (tgt := 22) hx hb dX8_learn_15 (by decide) (fun c_2 => ?_) (fun c_2 => ?_)
    · have hG := hG.trans (if_pos c_2)
      refine lv_iconst (v := 1) hx hb dX8_learn_22 (by decide) ?_
      refine mr_pt hC hin hL hI k_152 dX8_learn_23 (fun H locs hI => ?_)
      refine lv_aload_n hx hb dX8_learn_26 rfl (lv_at hl 0 rfl) ?_
      refine mr_gt hC hin hI k_152 dX8_learn_27 ?_
      refine lv_if_le (tgt := 35) hx hb dX8_learn_30 (by decide) (fun c => absurd c (by decide : ¬ (1 : Int32) ≤ 0)) (fun _ => ?_)
      refine lv_iconst (v := 0) hx hb dX8_learn_33 (by decide) ?_
      exact W.iret (v := 0) hx hb hr (fun t9 ht9 hW9 => ⟨⟨0, (), rfl, (congrArg Prod.fst hG).symm, by show MH D cy o ad _ _ t9.heap; rw [ht9, hG]; exact hI.1⟩, hI.2.F ht9⟩) hI.2.2.2 dX8_learn_34
    · have hG := hG.trans (if_neg c_2)
      refine lv_iconst (v := 0) hx hb dX8_learn_18 (by decide) ?_
      refine lv_goto (tgt := 23) hx hb dX8_learn_19 (by decide) ?_
      refine mr_pt hC hin hL hI k_152 dX8_learn_23 (fun H locs hI => ?_)
      refine lv_aload_n hx hb dX8_learn_26 rfl (lv_at hl 0 rfl) ?_
      refine mr_gt hC hin hI k_152 dX8_learn_27 ?_
      refine lv_if_le (tgt := 35) hx hb dX8_learn_30 (by decide) (fun _ => ?_) (fun c => absurd (by decide : (0 : Int32) ≤ 0) c)
      refine lv_aload_n hx hb dX8_learn_35 rfl (lv_at hl 0 rfl) ?_
      refine mr_ga hC hin hI 21 (by decide) k_59 dX8_learn_36 ?_
      refine lv_iload_n hx hb dX8_learn_39 rfl (lv_at hl 1 rfl) ?_
      refine lv_dup2_11 hx hb dX8_learn_40 rfl rfl ?_
      refine mr_ld hC hI 21 (by decide) (by decide) (isTeller_in (by assumption)) (v := (S 21 (ix t))) rfl dX8_learn_41 ?_
      refine lv_iconst (v := 1) hx hb dX8_learn_42 (by decide) ?_
      refine lv_iload_n hx hb dX8_learn_43 rfl (lv_at hl 2 rfl) ?_
      refine lv_ishl hx hb dX8_learn_44 ?_
      refine lv_ior hx hb dX8_learn_45 ?_
      refine mr_st hC hL hI 21 (by decide) (by decide) (isTeller_in (by assumption)) (n := (ix t)) rfl dX8_learn_46 (fun H locs hI => ?_)
      refine lv_aload_n hx hb dX8_learn_47 rfl (lv_at hl 0 rfl) ?_
      refine mr_ga hC hin hI 21 (by decide) k_59 dX8_learn_48 ?_
      refine lv_iload_n hx hb dX8_learn_51 rfl (lv_at hl 1 rfl) ?_
      refine mr_ld hC hI 21 (by decide) (by decide) (isTeller_in (by assumption)) (v := ((S 21 (ix t)) ||| (1 <<< (fact &&& 31)))) (up_at _ _ _ _) dX8_learn_52 ?_
      refine mr_callS (As := [.int ((S 21 (ix t)) ||| (1 <<< (fact &&& 31)))]) (rest := []) hC hI (qX8_bits l ((S 21 (ix t)) ||| (1 <<< (fact &&& 31)))) (va_cwS 1 hts gX8_learn_X8_bits rfl rfl rfl (by decide +kernel) ⟨Nat.le_of_ble_eq_true rfl, Nat.le_of_ble_eq_true rfl⟩) rfl hl.1 rfl (Nat.le_of_ble_eq_true rfl) dX8_learn_53 ⟨Nat.zero_le _, Nat.zero_le _⟩ (fun H locs hI => ?_)
      exact W.iret (v := (fX8_bits ((S 21 (ix t)) ||| (1 <<< (fact &&& 31))))) hx hb hr (fun t9 ht9 hW9 => ⟨⟨(fX8_bits ((S 21 (ix t)) ||| (1 <<< (fact &&& 31)))), (), rfl, (congrArg Prod.fst hG).symm, by show MH D cy o ad _ _ t9.heap; rw [ht9, hG]; exact hI.1⟩, hI.2.F ht9⟩) hI.2.2.2 dX8_learn_56
set_option maxHeartbeats 4000000 in
set_option maxRecDepth 100000 in
theorem qX8_publish (l : Launch) (A : Nat → Prop) (D : va_G) (cy : Nat → ClassId) (o : Nat) (ad : Nat → Nat) (hL : ML A o ad) (S : St) (th : Int32) (hN : MInv S) (fact : Int32) : MMut l A D cy o ad S th yX8_publish wsX8_publish ({ frames := 1, cells := 0, slots := 0, locals := 23 } : Room) [.int fact] (fX8_publish S fact).1 (fX8_publish S fact).2.2 (fX8_publish S fact).2.1 := by
  refine Met.ofW (cc := cX8_publish) (maxL := 2) (ret := (some .int)) (by decide) rfl ?_
  intro p e s m args below meth c s₁ B hml hv
  obtain ⟨rfl, hM, hK⟩ := hv
  have hx := B.exec
  have hb := B.bytes
  have hr := B.returns
  have hts := atoms_spec (ws := wsX8_publish) B.pre
  have hown : s.vm.findClass RX8 = some m.cls := findClass_of_methodNamed B.named
  have hlocks := B.notSynchronized
  have hC : MC p s m _ c cX8_publish 2 D cy wsX8_publish := ⟨⟨hx, hb, hml, hown, hts⟩, hK⟩
  have hin : ∀ w ∈ wsX80, w ∈ wsX8_publish := fun _ h => List.mem_cons_of_mem _ (List.mem_append_right _ (h))
  have hI : MI A D cy o ad s S th s.heap [] := ⟨hM, va_S.rf⟩
  have hb7 := hN.b7
  have hb15 := hN.b15
  have hb23 := hN.b23
  have hb28 := hN.b28
  have hb42 := hN.b42
  have k_152 := hts (.fieldLink RX8 152 "RelatorsBenchModel" "thrown" "I") (List.mem_cons_of_mem _ (List.mem_append_left _ (List.mem_of_getElem? (i := 0) rfl)))
  have k_56 := hts (.fieldLink RX8 56 "RelatorsBenchModel" "published" "[I") (List.mem_cons_of_mem _ (List.mem_append_left _ (List.mem_of_getElem? (i := 1) rfl)))
  have k_179 := hts (.fieldLink RX8 179 "RelatorsBenchModel" "today" "I") (List.mem_cons_of_mem _ (List.mem_append_left _ (List.mem_of_getElem? (i := 2) rfl)))
  have hl := lv_entry ([.ref o, .int fact]) (n := 2) (Nat.le_of_ble_eq_true rfl)
  rw [lg_entry_eq]
  generalize (lg_sl ([.ref o, .int fact]) ++ List.replicate (2 - (lg_sl ([.ref o, .int fact])).length) Slot.unset).toArray = ls at hl ⊢
  have hl : lv_has ls 2 [(0, .ref o), (1, .int fact)] := hl
  have hG : fX8_publish S fact = fX8_publish S fact := rfl
  refine lv_aload_n hx hb dX8_publish_0 rfl (lv_at hl 0 rfl) ?_
  refine lv_iload_n hx hb dX8_publish_1 rfl (lv_at hl 1 rfl) ?_
  refine lv_iconst (v := 0) hx hb dX8_publish_2 (by decide) ?_
  refine lv_bipush (v := 15) hx hb dX8_publish_3 (by decide) ?_
  refine mr_callS (As := [.int fact, .int 0, .int 15]) (rest := [.ref o]) hC hI (qX8_in l fact 0 15) (va_cwS 3 hts gX8_publish_X8_in rfl rfl rfl (by decide +kernel) ⟨Nat.le_of_ble_eq_true rfl, Nat.le_of_ble_eq_true rfl⟩) rfl hl.1 rfl (Nat.le_of_ble_eq_true rfl) dX8_publish_5 ⟨Nat.zero_le _, Nat.zero_le _⟩ (fun H locs hI => ?_)
  refine lv_if_eq (tgt := 15) hx hb dX8_publish_8 (by decide) (fun c_1 => ?_) (fun c_1 => ?_)
  · have hG := hG.trans (if_pos c_1)
    refine lv_iconst (v := 1) hx hb dX8_publish_15 (by decide) ?_
    refine mr_pt hC hin hL hI k_152 dX8_publish_16 (fun H locs hI => ?_)
    refine lv_aload_n hx hb dX8_publish_19 rfl (lv_at hl 0 rfl) ?_
    refine mr_gt hC hin hI k_152 dX8_publish_20 ?_
    refine lv_if_le (tgt := 28) hx hb dX8_publish_23 (by decide) (fun c => absurd c (by decide : ¬ (1 : Int32) ≤ 0)) (fun _ => ?_)
    refine lv_iconst (v := 0) hx hb dX8_publish_26 (by decide) ?_
    exact W.iret (v := 0) hx hb hr (fun t9 ht9 hW9 => ⟨⟨0, (), rfl, (congrArg Prod.fst hG).symm, by show MH D cy o ad _ _ t9.heap; rw [ht9, hG]; exact hI.1⟩, hI.2.F ht9⟩) hI.2.2.2 dX8_publish_27
  · have hG := hG.trans (if_neg c_1)
    refine lv_iconst (v := 0) hx hb dX8_publish_11 (by decide) ?_
    refine lv_goto (tgt := 16) hx hb dX8_publish_12 (by decide) ?_
    refine mr_pt hC hin hL hI k_152 dX8_publish_16 (fun H locs hI => ?_)
    refine lv_aload_n hx hb dX8_publish_19 rfl (lv_at hl 0 rfl) ?_
    refine mr_gt hC hin hI k_152 dX8_publish_20 ?_
    refine lv_if_le (tgt := 28) hx hb dX8_publish_23 (by decide) (fun _ => ?_) (fun c => absurd (by decide : (0 : Int32) ≤ 0) c)
    refine lv_aload_n hx hb dX8_publish_28 rfl (lv_at hl 0 rfl) ?_
    refine mr_ga hC hin hI 20 (by decide) k_56 dX8_publish_29 ?_
    refine lv_iload_n hx hb dX8_publish_32 rfl (lv_at hl 1 rfl) ?_
    refine lv_aload_n hx hb dX8_publish_33 rfl (lv_at hl 0 rfl) ?_
    refine mr_ga hC hin hI 20 (by decide) k_56 dX8_publish_34 ?_
    refine lv_iload_n hx hb dX8_publish_37 rfl (lv_at hl 1 rfl) ?_
    refine mr_ld hC hI 20 (by decide) (by decide) (in_in (hi := 15) 16 (by decide) (by assumption)) (v := (S 20 (ix fact))) rfl dX8_publish_38 ?_
    refine lv_iconst (v := (-1)) hx hb dX8_publish_39 (by decide) ?_
    refine lv_icmp_ne (tgt := 50) hx hb dX8_publish_40 (by decide) (fun c_2 => ?_) (fun c_2 => ?_)
    · have hG := hG.trans (if_neg c_2)
      refine lv_aload_n hx hb dX8_publish_50 rfl (lv_at hl 0 rfl) ?_
      refine mr_ga hC hin hI 20 (by decide) k_56 dX8_publish_51 ?_
      refine lv_iload_n hx hb dX8_publish_54 rfl (lv_at hl 1 rfl) ?_
      refine mr_ld hC hI 20 (by decide) (by decide) (in_in (hi := 15) 16 (by decide) (by assumption)) (v := (S 20 (ix fact))) rfl dX8_publish_55 ?_
      refine mr_st hC hL hI 20 (by decide) (by decide) (in_in (hi := 15) 16 (by decide) (by assumption)) (n := (ix fact)) rfl dX8_publish_56 (fun H locs hI => ?_)
      refine lv_aload_n hx hb dX8_publish_57 rfl (lv_at hl 0 rfl) ?_
      refine lv_aload_n hx hb dX8_publish_58 rfl (lv_at hl 0 rfl) ?_
      refine mr_gi hC hin hI 1 (by decide) (by decide) (by decide) k_179 (v := (S 1 0)) (congrFun (up_ne (by decide)) _) dX8_publish_59 ?_
      refine mr_call (As := [.int (S 1 0)]) (rest := []) hC hI (qX8_publicBy l D cy o ad (up S 20 (ix fact) (S 20 (ix fact))) 0 (S 1 0)) (cwV 1 hts gX8_publish_X8_publicBy rfl rfl rfl (by decide +kernel) ⟨Nat.le_of_ble_eq_true rfl, Nat.le_of_ble_eq_true rfl⟩) rfl hl.1 rfl (Nat.le_of_ble_eq_true rfl) dX8_publish_62 ⟨Nat.zero_le _, Nat.zero_le _⟩ (fun H locs hI => ?_)
      refine mr_callS (As := [.int (fX8_publicBy (up S 20 (ix fact) (S 20 (ix fact))) (S 1 0))]) (rest := []) hC hI (qX8_bits l (fX8_publicBy (up S 20 (ix fact) (S 20 (ix fact))) (S 1 0))) (va_cwS 1 hts gX8_publish_X8_bits rfl rfl rfl (by decide +kernel) ⟨Nat.le_of_ble_eq_true rfl, Nat.le_of_ble_eq_true rfl⟩) rfl hl.1 rfl (Nat.le_of_ble_eq_true rfl) dX8_publish_65 ⟨Nat.zero_le _, Nat.zero_le _⟩ (fun H locs hI => ?_)
      exact W.iret (v := (fX8_bits (fX8_publicBy (up S 20 (ix fact) (S 20 (ix fact))) (S 1 0)))) hx hb hr (fun t9 ht9 hW9 => ⟨⟨(fX8_bits (fX8_publicBy (up S 20 (ix fact) (S 20 (ix fact))) (S 1 0))), (), rfl, (congrArg Prod.fst hG).symm, by show MH D cy o ad _ _ t9.heap; rw [ht9, hG]; exact hI.1⟩, hI.2.F ht9⟩) hI.2.2.2 dX8_publish_68
    · have hG := hG.trans (if_pos c_2)
      refine lv_aload_n hx hb dX8_publish_43 rfl (lv_at hl 0 rfl) ?_
      refine mr_gi hC hin hI 1 (by decide) (by decide) (by decide) k_179 (v := (S 1 0)) rfl dX8_publish_44 ?_
      refine lv_goto (tgt := 56) hx hb dX8_publish_47 (by decide) ?_
      refine mr_st hC hL hI 20 (by decide) (by decide) (in_in (hi := 15) 16 (by decide) (by assumption)) (n := (ix fact)) rfl dX8_publish_56 (fun H locs hI => ?_)
      refine lv_aload_n hx hb dX8_publish_57 rfl (lv_at hl 0 rfl) ?_
      refine lv_aload_n hx hb dX8_publish_58 rfl (lv_at hl 0 rfl) ?_
      refine mr_gi hC hin hI 1 (by decide) (by decide) (by decide) k_179 (v := (S 1 0)) (congrFun (up_ne (by decide)) _) dX8_publish_59 ?_
      refine mr_call (As := [.int (S 1 0)]) (rest := []) hC hI (qX8_publicBy l D cy o ad (up S 20 (ix fact) (S 1 0)) 0 (S 1 0)) (cwV 1 hts gX8_publish_X8_publicBy rfl rfl rfl (by decide +kernel) ⟨Nat.le_of_ble_eq_true rfl, Nat.le_of_ble_eq_true rfl⟩) rfl hl.1 rfl (Nat.le_of_ble_eq_true rfl) dX8_publish_62 ⟨Nat.zero_le _, Nat.zero_le _⟩ (fun H locs hI => ?_)
      refine mr_callS (As := [.int (fX8_publicBy (up S 20 (ix fact) (S 1 0)) (S 1 0))]) (rest := []) hC hI (qX8_bits l (fX8_publicBy (up S 20 (ix fact) (S 1 0)) (S 1 0))) (va_cwS 1 hts gX8_publish_X8_bits rfl rfl rfl (by decide +kernel) ⟨Nat.le_of_ble_eq_true rfl, Nat.le_of_ble_eq_true rfl⟩) rfl hl.1 rfl (Nat.le_of_ble_eq_true rfl) dX8_publish_65 ⟨Nat.zero_le _, Nat.zero_le _⟩ (fun H locs hI => ?_)
      exact W.iret (v := (fX8_bits (fX8_publicBy (up S 20 (ix fact) (S 1 0)) (S 1 0)))) hx hb hr (fun t9 ht9 hW9 => ⟨⟨(fX8_bits (fX8_publicBy (up S 20 (ix fact) (S 1 0)) (S 1 0))), (), rfl, (congrArg Prod.fst hG).symm, by show MH D cy o ad _ _ t9.heap; rw [ht9, hG]; exact hI.1⟩, hI.2.F ht9⟩) hI.2.2.2 dX8_publish_68
set_option maxHeartbeats 4000000 in
set_option maxRecDepth 100000 in
theorem qX8_plan (l : Launch) (A : Nat → Prop) (D : va_G) (cy : Nat → ClassId) (o : Nat) (ad : Nat → Nat) (hL : ML A o ad) (S : St) (th : Int32) (hN : MInv S) (t : Int32) (s_ : Int32) : MMut l A D cy o ad S th yX8_plan wsX8_plan ({ frames := 2, cells := 0, slots := 0, locals := 43 } : Room) [.int t, .int s_] (fX8_plan S t s_).1 (fX8_plan S t s_).2.2 (fX8_plan S t s_).2.1 := by
  refine Met.ofW (cc := cX8_plan) (maxL := 4) (ret := (some .boolean)) (by decide) rfl ?_
  intro p e s m args below meth c s₁ B hml hv
  obtain ⟨rfl, hM, hK⟩ := hv
  have hx := B.exec
  have hb := B.bytes
  have hr := B.returns
  have hts := atoms_spec (ws := wsX8_plan) B.pre
  have hown : s.vm.findClass RX8 = some m.cls := findClass_of_methodNamed B.named
  have hlocks := B.notSynchronized
  have hC : MC p s m _ c cX8_plan 4 D cy wsX8_plan := ⟨⟨hx, hb, hml, hown, hts⟩, hK⟩
  have hin : ∀ w ∈ wsX80, w ∈ wsX8_plan := fun _ h => List.mem_cons_of_mem _ (List.mem_append_right _ (h))
  have hI : MI A D cy o ad s S th s.heap [] := ⟨hM, va_S.rf⟩
  have hb7 := hN.b7
  have hb15 := hN.b15
  have hb23 := hN.b23
  have hb28 := hN.b28
  have hb42 := hN.b42
  have k_152 := hts (.fieldLink RX8 152 "RelatorsBenchModel" "thrown" "I") (List.mem_cons_of_mem _ (List.mem_append_left _ (List.mem_of_getElem? (i := 0) rfl)))
  have k_62 := hts (.fieldLink RX8 62 "RelatorsBenchModel" "planned" "[I") (List.mem_cons_of_mem _ (List.mem_append_left _ (List.mem_of_getElem? (i := 1) rfl)))
  have hl := lv_entry ([.ref o, .int t, .int s_]) (n := 4) (Nat.le_of_ble_eq_true rfl)
  rw [lg_entry_eq]
  generalize (lg_sl ([.ref o, .int t, .int s_]) ++ List.replicate (4 - (lg_sl ([.ref o, .int t, .int s_])).length) Slot.unset).toArray = ls at hl ⊢
  have hl : lv_has ls 4 [(0, .ref o), (1, .int t), (2, .int s_)] := hl
  have hG : fX8_plan S t s_ = fX8_plan S t s_ := rfl
  refine lv_aload_n hx hb dX8_plan_0 rfl (lv_at hl 0 rfl) ?_
  refine lv_iload_n hx hb dX8_plan_1 rfl (lv_at hl 1 rfl) ?_
  refine mr_callS (As := [.int t]) (rest := [.ref o]) hC hI (qX8_isTeller l t) (va_cwS 1 hts gX8_plan_X8_isTeller rfl rfl rfl (by decide +kernel) ⟨Nat.le_of_ble_eq_true rfl, Nat.le_of_ble_eq_true rfl⟩) rfl hl.1 rfl (Nat.le_of_ble_eq_true rfl) dX8_plan_2 ⟨Nat.zero_le _, Nat.zero_le _⟩ (fun H locs hI => ?_)
  refine lv_if_eq (tgt := 20) hx hb dX8_plan_5 (by decide) (fun c_1 => ?_) (fun c_1 => ?_)
  · have hG := hG.trans (if_pos c_1)
    refine lv_iconst (v := 1) hx hb dX8_plan_20 (by decide) ?_
    refine mr_pt hC hin hL hI k_152 dX8_plan_21 (fun H locs hI => ?_)
    refine lv_aload_n hx hb dX8_plan_24 rfl (lv_at hl 0 rfl) ?_
    refine mr_gt hC hin hI k_152 dX8_plan_25 ?_
    refine lv_if_le (tgt := 33) hx hb dX8_plan_28 (by decide) (fun c => absurd c (by decide : ¬ (1 : Int32) ≤ 0)) (fun _ => ?_)
    refine lv_iconst (v := 0) hx hb dX8_plan_31 (by decide) ?_
    exact W.zret (v := 0) (ty := .boolean) hx hb hr rfl (fun t9 ht9 hW9 => ⟨⟨0, (), rfl, (congrArg Prod.fst hG).symm, by show MH D cy o ad _ _ t9.heap; rw [ht9, hG]; exact hI.1⟩, hI.2.F ht9⟩) hI.2.2.2 dX8_plan_32
  · have hG := hG.trans (if_neg c_1)
    refine lv_aload_n hx hb dX8_plan_8 rfl (lv_at hl 0 rfl) ?_
    refine lv_iload_n hx hb dX8_plan_9 rfl (lv_at hl 2 rfl) ?_
    refine mr_call (As := [.int s_]) (rest := [.ref o]) hC hI (qX8_isScheme l D cy o ad S th s_) (cwV 1 hts gX8_plan_X8_isScheme rfl rfl rfl (by decide +kernel) ⟨Nat.le_of_ble_eq_true rfl, Nat.le_of_ble_eq_true rfl⟩) rfl hl.1 rfl (Nat.le_of_ble_eq_true rfl) dX8_plan_10 ⟨Nat.zero_le _, Nat.zero_le _⟩ (fun H locs hI => ?_)
    refine lv_if_eq (tgt := 20) hx hb dX8_plan_13 (by decide) (fun c_2 => ?_) (fun c_2 => ?_)
    · have hG := hG.trans (if_pos c_2)
      refine lv_iconst (v := 1) hx hb dX8_plan_20 (by decide) ?_
      refine mr_pt hC hin hL hI k_152 dX8_plan_21 (fun H locs hI => ?_)
      refine lv_aload_n hx hb dX8_plan_24 rfl (lv_at hl 0 rfl) ?_
      refine mr_gt hC hin hI k_152 dX8_plan_25 ?_
      refine lv_if_le (tgt := 33) hx hb dX8_plan_28 (by decide) (fun c => absurd c (by decide : ¬ (1 : Int32) ≤ 0)) (fun _ => ?_)
      refine lv_iconst (v := 0) hx hb dX8_plan_31 (by decide) ?_
      exact W.zret (v := 0) (ty := .boolean) hx hb hr rfl (fun t9 ht9 hW9 => ⟨⟨0, (), rfl, (congrArg Prod.fst hG).symm, by show MH D cy o ad _ _ t9.heap; rw [ht9, hG]; exact hI.1⟩, hI.2.F ht9⟩) hI.2.2.2 dX8_plan_32
    · have hG := hG.trans (if_neg c_2)
      refine lv_iconst (v := 0) hx hb dX8_plan_16 (by decide) ?_
      refine lv_goto (tgt := 21) hx hb dX8_plan_17 (by decide) ?_
      refine mr_pt hC hin hL hI k_152 dX8_plan_21 (fun H locs hI => ?_)
      refine lv_aload_n hx hb dX8_plan_24 rfl (lv_at hl 0 rfl) ?_
      refine mr_gt hC hin hI k_152 dX8_plan_25 ?_
      refine lv_if_le (tgt := 33) hx hb dX8_plan_28 (by decide) (fun _ => ?_) (fun c => absurd (by decide : (0 : Int32) ≤ 0) c)
      refine lv_aload_n hx hb dX8_plan_33 rfl (lv_at hl 0 rfl) ?_
      refine mr_ga hC hin hI 22 (by decide) k_62 dX8_plan_34 ?_
      refine lv_iload_n hx hb dX8_plan_37 rfl (lv_at hl 1 rfl) ?_
      refine mr_ld hC hI 22 (by decide) (by decide) (isTeller_in (by assumption)) (v := (S 22 (ix t))) rfl dX8_plan_38 ?_
      refine lv_iload_n hx hb dX8_plan_39 rfl (lv_at hl 2 rfl) ?_
      refine lv_ishr hx hb dX8_plan_40 ?_
      refine lv_iconst (v := 1) hx hb dX8_plan_41 (by decide) ?_
      refine lv_iand hx hb dX8_plan_42 ?_
      refine lv_iconst (v := 1) hx hb dX8_plan_43 (by decide) ?_
      refine lv_icmp_ne (tgt := 51) hx hb dX8_plan_44 (by decide) (fun c_3 => ?_) (fun c_3 => ?_)
      · have hG := hG.trans (if_neg c_3)
        refine lv_iconst (v := 0) hx hb dX8_plan_51 (by decide) ?_
        refine lv_istore_n (lv' := [(3, .int 0), (0, .ref o), (1, .int t), (2, .int s_)]) hx hb dX8_plan_52 rfl hl (by decide) rfl (fun ls hl => ?_)
        refine lv_aload_n hx hb dX8_plan_53 rfl (lv_at hl 1 rfl) ?_
        refine mr_ga hC hin hI 22 (by decide) k_62 dX8_plan_54 ?_
        refine lv_iload_n hx hb dX8_plan_57 rfl (lv_at hl 2 rfl) ?_
        refine lv_dup2_11 hx hb dX8_plan_58 rfl rfl ?_
        refine mr_ld hC hI 22 (by decide) (by decide) (isTeller_in (by assumption)) (v := (S 22 (ix t))) rfl dX8_plan_59 ?_
        refine lv_iconst (v := 1) hx hb dX8_plan_60 (by decide) ?_
        refine lv_iload_n hx hb dX8_plan_61 rfl (lv_at hl 3 rfl) ?_
        refine lv_ishl hx hb dX8_plan_62 ?_
        refine lv_ior hx hb dX8_plan_63 ?_
        refine mr_st hC hL hI 22 (by decide) (by decide) (isTeller_in (by assumption)) (n := (ix t)) rfl dX8_plan_64 (fun H locs hI => ?_)
        refine lv_iload_n hx hb dX8_plan_65 rfl (lv_at hl 0 rfl) ?_
        exact W.zret (v := 0) (ty := .boolean) hx hb hr rfl (fun t9 ht9 hW9 => ⟨⟨0, (), rfl, (congrArg Prod.fst hG).symm, by show MH D cy o ad _ _ t9.heap; rw [ht9, hG]; exact hI.1⟩, hI.2.F ht9⟩) hI.2.2.2 dX8_plan_66
      · have hG := hG.trans (if_pos c_3)
        refine lv_iconst (v := 1) hx hb dX8_plan_47 (by decide) ?_
        refine lv_goto (tgt := 52) hx hb dX8_plan_48 (by decide) ?_
        refine lv_istore_n (lv' := [(3, .int 1), (0, .ref o), (1, .int t), (2, .int s_)]) hx hb dX8_plan_52 rfl hl (by decide) rfl (fun ls hl => ?_)
        refine lv_aload_n hx hb dX8_plan_53 rfl (lv_at hl 1 rfl) ?_
        refine mr_ga hC hin hI 22 (by decide) k_62 dX8_plan_54 ?_
        refine lv_iload_n hx hb dX8_plan_57 rfl (lv_at hl 2 rfl) ?_
        refine lv_dup2_11 hx hb dX8_plan_58 rfl rfl ?_
        refine mr_ld hC hI 22 (by decide) (by decide) (isTeller_in (by assumption)) (v := (S 22 (ix t))) rfl dX8_plan_59 ?_
        refine lv_iconst (v := 1) hx hb dX8_plan_60 (by decide) ?_
        refine lv_iload_n hx hb dX8_plan_61 rfl (lv_at hl 3 rfl) ?_
        refine lv_ishl hx hb dX8_plan_62 ?_
        refine lv_ior hx hb dX8_plan_63 ?_
        refine mr_st hC hL hI 22 (by decide) (by decide) (isTeller_in (by assumption)) (n := (ix t)) rfl dX8_plan_64 (fun H locs hI => ?_)
        refine lv_iload_n hx hb dX8_plan_65 rfl (lv_at hl 0 rfl) ?_
        exact W.zret (v := 1) (ty := .boolean) hx hb hr rfl (fun t9 ht9 hW9 => ⟨⟨1, (), rfl, (congrArg Prod.fst hG).symm, by show MH D cy o ad _ _ t9.heap; rw [ht9, hG]; exact hI.1⟩, hI.2.F ht9⟩) hI.2.2.2 dX8_plan_66
set_option maxHeartbeats 4000000 in
set_option maxRecDepth 100000 in
theorem qX8_know (l : Launch) (A : Nat → Prop) (D : va_G) (cy : Nat → ClassId) (o : Nat) (ad : Nat → Nat) (hL : ML A o ad) (S : St) (th : Int32) (hN : MInv S) (s_ : Int32) : MMut l A D cy o ad S th yX8_know wsX8_know ({ frames := 2, cells := 0, slots := 0, locals := 43 } : Room) [.int s_] (fX8_know S s_).1 (fX8_know S s_).2.2 (fX8_know S s_).2.1 := by
  refine Met.ofW (cc := cX8_know) (maxL := 3) (ret := (some .boolean)) (by decide) rfl ?_
  intro p e s m args below meth c s₁ B hml hv
  obtain ⟨rfl, hM, hK⟩ := hv
  have hx := B.exec
  have hb := B.bytes
  have hr := B.returns
  have hts := atoms_spec (ws := wsX8_know) B.pre
  have hown : s.vm.findClass RX8 = some m.cls := findClass_of_methodNamed B.named
  have hlocks := B.notSynchronized
  have hC : MC p s m _ c cX8_know 3 D cy wsX8_know := ⟨⟨hx, hb, hml, hown, hts⟩, hK⟩
  have hin : ∀ w ∈ wsX80, w ∈ wsX8_know := fun _ h => List.mem_cons_of_mem _ (List.mem_append_right _ (h))
  have hI : MI A D cy o ad s S th s.heap [] := ⟨hM, va_S.rf⟩
  have hb7 := hN.b7
  have hb15 := hN.b15
  have hb23 := hN.b23
  have hb28 := hN.b28
  have hb42 := hN.b42
  have k_152 := hts (.fieldLink RX8 152 "RelatorsBenchModel" "thrown" "I") (List.mem_cons_of_mem _ (List.mem_append_left _ (List.mem_of_getElem? (i := 0) rfl)))
  have k_37 := hts (.fieldLink RX8 37 "RelatorsBenchModel" "knownFrom" "[I") (List.mem_cons_of_mem _ (List.mem_append_left _ (List.mem_of_getElem? (i := 1) rfl)))
  have k_179 := hts (.fieldLink RX8 179 "RelatorsBenchModel" "today" "I") (List.mem_cons_of_mem _ (List.mem_append_left _ (List.mem_of_getElem? (i := 2) rfl)))
  have hl := lv_entry ([.ref o, .int s_]) (n := 3) (Nat.le_of_ble_eq_true rfl)
  rw [lg_entry_eq]
  generalize (lg_sl ([.ref o, .int s_]) ++ List.replicate (3 - (lg_sl ([.ref o, .int s_])).length) Slot.unset).toArray = ls at hl ⊢
  have hl : lv_has ls 3 [(0, .ref o), (1, .int s_)] := hl
  have hG : fX8_know S s_ = fX8_know S s_ := rfl
  refine lv_aload_n hx hb dX8_know_0 rfl (lv_at hl 0 rfl) ?_
  refine lv_aload_n hx hb dX8_know_1 rfl (lv_at hl 0 rfl) ?_
  refine lv_iload_n hx hb dX8_know_2 rfl (lv_at hl 1 rfl) ?_
  refine mr_call (As := [.int s_]) (rest := [.ref o]) hC hI (qX8_isScheme l D cy o ad S th s_) (cwV 1 hts gX8_know_X8_isScheme rfl rfl rfl (by decide +kernel) ⟨Nat.le_of_ble_eq_true rfl, Nat.le_of_ble_eq_true rfl⟩) rfl hl.1 rfl (Nat.le_of_ble_eq_true rfl) dX8_know_3 ⟨Nat.zero_le _, Nat.zero_le _⟩ (fun H locs hI => ?_)
  refine lv_if_eq (tgt := 13) hx hb dX8_know_6 (by decide) (fun c_1 => ?_) (fun c_1 => ?_)
  · have hG := hG.trans (if_pos c_1)
    refine lv_iconst (v := 1) hx hb dX8_know_13 (by decide) ?_
    refine mr_pt hC hin hL hI k_152 dX8_know_14 (fun H locs hI => ?_)
    refine lv_aload_n hx hb dX8_know_17 rfl (lv_at hl 0 rfl) ?_
    refine mr_gt hC hin hI k_152 dX8_know_18 ?_
    refine lv_if_le (tgt := 26) hx hb dX8_know_21 (by decide) (fun c => absurd c (by decide : ¬ (1 : Int32) ≤ 0)) (fun _ => ?_)
    refine lv_iconst (v := 0) hx hb dX8_know_24 (by decide) ?_
    exact W.zret (v := 0) (ty := .boolean) hx hb hr rfl (fun t9 ht9 hW9 => ⟨⟨0, (), rfl, (congrArg Prod.fst hG).symm, by show MH D cy o ad _ _ t9.heap; rw [ht9, hG]; exact hI.1⟩, hI.2.F ht9⟩) hI.2.2.2 dX8_know_25
  · have hG := hG.trans (if_neg c_1)
    refine lv_iconst (v := 0) hx hb dX8_know_9 (by decide) ?_
    refine lv_goto (tgt := 14) hx hb dX8_know_10 (by decide) ?_
    refine mr_pt hC hin hL hI k_152 dX8_know_14 (fun H locs hI => ?_)
    refine lv_aload_n hx hb dX8_know_17 rfl (lv_at hl 0 rfl) ?_
    refine mr_gt hC hin hI k_152 dX8_know_18 ?_
    refine lv_if_le (tgt := 26) hx hb dX8_know_21 (by decide) (fun _ => ?_) (fun c => absurd (by decide : (0 : Int32) ≤ 0) c)
    refine lv_aload_n hx hb dX8_know_26 rfl (lv_at hl 0 rfl) ?_
    refine mr_ga hC hin hI 13 (by decide) k_37 dX8_know_27 ?_
    refine lv_iload_n hx hb dX8_know_30 rfl (lv_at hl 1 rfl) ?_
    refine mr_ld hC hI 13 (by decide) (by decide) (isScheme_in hN (by assumption)) (v := (S 13 (ix s_))) rfl dX8_know_31 ?_
    refine lv_iconst (v := (-1)) hx hb dX8_know_32 (by decide) ?_
    refine lv_icmp_eq (tgt := 40) hx hb dX8_know_33 (by decide) (fun c_2 => ?_) (fun c_2 => ?_)
    · have hG := hG.trans (if_pos c_2)
      refine lv_iconst (v := 0) hx hb dX8_know_40 (by decide) ?_
      refine lv_istore_n (lv' := [(2, .int 0), (0, .ref o), (1, .int s_)]) hx hb dX8_know_41 rfl hl (by decide) rfl (fun ls hl => ?_)
      refine lv_aload_n hx hb dX8_know_42 rfl (lv_at hl 1 rfl) ?_
      refine mr_ga hC hin hI 13 (by decide) k_37 dX8_know_43 ?_
      refine lv_iload_n hx hb dX8_know_46 rfl (lv_at hl 2 rfl) ?_
      refine lv_iload_n hx hb dX8_know_47 rfl (lv_at hl 0 rfl) ?_
      refine lv_if_eq (tgt := 60) hx hb dX8_know_48 (by decide) (fun _ => ?_) (fun c => absurd (by decide : (0 : Int32) = 0) c)
      refine lv_aload_n hx hb dX8_know_60 rfl (lv_at hl 1 rfl) ?_
      refine mr_gi hC hin hI 1 (by decide) (by decide) (by decide) k_179 (v := (S 1 0)) rfl dX8_know_61 ?_
      refine mr_st hC hL hI 13 (by decide) (by decide) (isScheme_in hN (by assumption)) (n := (ix s_)) rfl dX8_know_64 (fun H locs hI => ?_)
      refine lv_iload_n hx hb dX8_know_65 rfl (lv_at hl 0 rfl) ?_
      exact W.zret (v := 0) (ty := .boolean) hx hb hr rfl (fun t9 ht9 hW9 => ⟨⟨0, (), rfl, (congrArg Prod.fst hG).symm, by show MH D cy o ad _ _ t9.heap; rw [ht9, hG]; exact hI.1⟩, hI.2.F ht9⟩) hI.2.2.2 dX8_know_66
    · have hG := hG.trans (if_neg c_2)
      refine lv_iconst (v := 1) hx hb dX8_know_36 (by decide) ?_
      refine lv_goto (tgt := 41) hx hb dX8_know_37 (by decide) ?_
      refine lv_istore_n (lv' := [(2, .int 1), (0, .ref o), (1, .int s_)]) hx hb dX8_know_41 rfl hl (by decide) rfl (fun ls hl => ?_)
      refine lv_aload_n hx hb dX8_know_42 rfl (lv_at hl 1 rfl) ?_
      refine mr_ga hC hin hI 13 (by decide) k_37 dX8_know_43 ?_
      refine lv_iload_n hx hb dX8_know_46 rfl (lv_at hl 2 rfl) ?_
      refine lv_iload_n hx hb dX8_know_47 rfl (lv_at hl 0 rfl) ?_
      refine lv_if_eq (tgt := 60) hx hb dX8_know_48 (by decide) (fun c => absurd c (by decide : ¬ (1 : Int32) = 0)) (fun _ => ?_)
      refine lv_aload_n hx hb dX8_know_51 rfl (lv_at hl 1 rfl) ?_
      refine mr_ga hC hin hI 13 (by decide) k_37 dX8_know_52 ?_
      refine lv_iload_n hx hb dX8_know_55 rfl (lv_at hl 2 rfl) ?_
      refine mr_ld hC hI 13 (by decide) (by decide) (isScheme_in hN (by assumption)) (v := (S 13 (ix s_))) rfl dX8_know_56 ?_
      refine lv_goto (tgt := 64) hx hb dX8_know_57 (by decide) ?_
      refine mr_st hC hL hI 13 (by decide) (by decide) (isScheme_in hN (by assumption)) (n := (ix s_)) rfl dX8_know_64 (fun H locs hI => ?_)
      refine lv_iload_n hx hb dX8_know_65 rfl (lv_at hl 0 rfl) ?_
      exact W.zret (v := 1) (ty := .boolean) hx hb hr rfl (fun t9 ht9 hW9 => ⟨⟨1, (), rfl, (congrArg Prod.fst hG).symm, by show MH D cy o ad _ _ t9.heap; rw [ht9, hG]; exact hI.1⟩, hI.2.F ht9⟩) hI.2.2.2 dX8_know_66
set_option maxHeartbeats 4000000 in
set_option maxRecDepth 100000 in
theorem qX8_admit (l : Launch) (A : Nat → Prop) (D : va_G) (cy : Nat → ClassId) (o : Nat) (ad : Nat → Nat) (hL : ML A o ad) (S : St) (th : Int32) (hN : MInv S) (s_ : Int32) : MMut l A D cy o ad S th yX8_admit wsX8_admit ({ frames := 3, cells := 0, slots := 0, locals := 67 } : Room) [.int s_] (fX8_admit S s_).1 (fX8_admit S s_).2.2 (fX8_admit S s_).2.1 := by
  refine Met.ofW (cc := cX8_admit) (maxL := 3) (ret := (some .boolean)) (by decide) rfl ?_
  intro p e s m args below meth c s₁ B hml hv
  obtain ⟨rfl, hM, hK⟩ := hv
  have hx := B.exec
  have hb := B.bytes
  have hr := B.returns
  have hts := atoms_spec (ws := wsX8_admit) B.pre
  have hown : s.vm.findClass RX8 = some m.cls := findClass_of_methodNamed B.named
  have hlocks := B.notSynchronized
  have hC : MC p s m _ c cX8_admit 3 D cy wsX8_admit := ⟨⟨hx, hb, hml, hown, hts⟩, hK⟩
  have hin : ∀ w ∈ wsX80, w ∈ wsX8_admit := fun _ h => List.mem_cons_of_mem _ (List.mem_append_right _ (h))
  have hI : MI A D cy o ad s S th s.heap [] := ⟨hM, va_S.rf⟩
  have hb7 := hN.b7
  have hb15 := hN.b15
  have hb23 := hN.b23
  have hb28 := hN.b28
  have hb42 := hN.b42
  have k_152 := hts (.fieldLink RX8 152 "RelatorsBenchModel" "thrown" "I") (List.mem_cons_of_mem _ (List.mem_append_left _ (List.mem_append_left _ (List.mem_of_getElem? (i := 0) rfl))))
  have k_163 := hts (.fieldLink RX8 163 "RelatorsBenchModel" "suits" "I") (List.mem_cons_of_mem _ (List.mem_append_left _ (List.mem_append_left _ (List.mem_of_getElem? (i := 1) rfl))))
  have k_40 := hts (.fieldLink RX8 40 "RelatorsBenchModel" "isAdmitted" "[Z") (List.mem_cons_of_mem _ (List.mem_append_left _ (List.mem_append_left _ (List.mem_of_getElem? (i := 3) rfl))))
  have k_92 := hts (.fieldLink RX8 92 "RelatorsBenchModel" "how" "[I") (List.mem_cons_of_mem _ (List.mem_append_left _ (List.mem_append_left _ (List.mem_of_getElem? (i := 2) rfl))))
  have hl := lv_entry ([.ref o, .int s_]) (n := 3) (Nat.le_of_ble_eq_true rfl)
  rw [lg_entry_eq]
  generalize (lg_sl ([.ref o, .int s_]) ++ List.replicate (3 - (lg_sl ([.ref o, .int s_])).length) Slot.unset).toArray = ls at hl ⊢
  have hl : lv_has ls 3 [(0, .ref o), (1, .int s_)] := hl
  have hG : fX8_admit S s_ = fX8_admit S s_ := rfl
  refine lv_aload_n hx hb dX8_admit_0 rfl (lv_at hl 0 rfl) ?_
  refine lv_aload_n hx hb dX8_admit_1 rfl (lv_at hl 0 rfl) ?_
  refine lv_iload_n hx hb dX8_admit_2 rfl (lv_at hl 1 rfl) ?_
  refine mr_call (As := [.int s_]) (rest := [.ref o]) hC hI (qX8_isScheme l D cy o ad S th s_) (cwV 1 hts gX8_admit_X8_isScheme rfl rfl rfl (by decide +kernel) ⟨Nat.le_of_ble_eq_true rfl, Nat.le_of_ble_eq_true rfl⟩) rfl hl.1 rfl (Nat.le_of_ble_eq_true rfl) dX8_admit_3 ⟨Nat.zero_le _, Nat.zero_le _⟩ (fun H locs hI => ?_)
  refine lv_if_eq (tgt := 13) hx hb dX8_admit_6 (by decide) (fun c_1 => ?_) (fun c_1 => ?_)
  · have hG := hG.trans (if_pos c_1)
    refine lv_iconst (v := 1) hx hb dX8_admit_13 (by decide) ?_
    refine mr_pt hC hin hL hI k_152 dX8_admit_14 (fun H locs hI => ?_)
    refine lv_iconst (v := 0) hx hb dX8_admit_17 (by decide) ?_
    refine lv_istore_n (lv' := [(2, .int 0), (0, .ref o), (1, .int s_)]) hx hb dX8_admit_18 rfl hl (by decide) rfl (fun ls hl => ?_)
    refine lv_iload_n hx hb dX8_admit_19 rfl (lv_at hl 0 rfl) ?_
    refine lv_aload_n hx hb dX8_admit_20 rfl (lv_at hl 1 rfl) ?_
    refine mr_gi hC hin hI 28 (by decide) (by decide) (by decide) k_163 (v := (S 28 0)) rfl dX8_admit_21 ?_
    refine lv_icmp_ge (tgt := 77) hx hb dX8_admit_24 (by decide) (fun c_2 => ?_) (fun c_2 => ?_)
    · have hG := hG.trans (if_pos c_2)
      refine lv_aload_n hx hb dX8_admit_77 rfl (lv_at hl 1 rfl) ?_
      refine mr_gt hC hin hI k_152 dX8_admit_78 ?_
      refine lv_if_le (tgt := 86) hx hb dX8_admit_81 (by decide) (fun c => absurd c (by decide : ¬ (1 : Int32) ≤ 0)) (fun _ => ?_)
      refine lv_iconst (v := 0) hx hb dX8_admit_84 (by decide) ?_
      exact W.zret (v := 0) (ty := .boolean) hx hb hr rfl (fun t9 ht9 hW9 => ⟨⟨0, (), rfl, (congrArg Prod.fst hG).symm, by show MH D cy o ad _ _ t9.heap; rw [ht9, hG]; exact hI.1⟩, hI.2.F ht9⟩) hI.2.2.2 dX8_admit_85
    · have hG := hG.trans (if_neg c_2)
      refine lv_aload_n hx hb dX8_admit_27 rfl (lv_at hl 1 rfl) ?_
      refine mr_gt hC hin hI k_152 dX8_admit_28 ?_
      refine lv_if_ne (tgt := 77) hx hb dX8_admit_31 (by decide) (fun _ => ?_) (fun c => absurd c (by decide : ¬ (1 : Int32) = 0))
      refine lv_aload_n hx hb dX8_admit_77 rfl (lv_at hl 1 rfl) ?_
      refine mr_gt hC hin hI k_152 dX8_admit_78 ?_
      refine lv_if_le (tgt := 86) hx hb dX8_admit_81 (by decide) (fun c => absurd c (by decide : ¬ (1 : Int32) ≤ 0)) (fun _ => ?_)
      refine lv_iconst (v := 0) hx hb dX8_admit_84 (by decide) ?_
      exact W.zret (v := 0) (ty := .boolean) hx hb hr rfl (fun t9 ht9 hW9 => ⟨⟨0, (), rfl, (congrArg Prod.fst hG).symm, by show MH D cy o ad _ _ t9.heap; rw [ht9, hG]; exact hI.1⟩, hI.2.F ht9⟩) hI.2.2.2 dX8_admit_85
  · have hG := hG.trans (if_neg c_1)
    refine lv_iconst (v := 0) hx hb dX8_admit_9 (by decide) ?_
    refine lv_goto (tgt := 14) hx hb dX8_admit_10 (by decide) ?_
    refine mr_pt hC hin hL hI k_152 dX8_admit_14 (fun H locs hI => ?_)
    refine lv_iconst (v := 0) hx hb dX8_admit_17 (by decide) ?_
    refine lv_istore_n (lv' := [(2, .int 0), (0, .ref o), (1, .int s_)]) hx hb dX8_admit_18 rfl hl (by decide) rfl (fun ls hl => ?_)
    refine w_loop (σ := Int32) (nsu S) 19 (fun i19 z H locs ls => fX8_admit S s_ = rX8_admit_19 S s_ ((nsu S) - i19) i19 z ∧ MI A D cy o ad s S z H locs ∧ lv_has ls 3 [(2, .int (nI i19)), (0, .ref o), (1, .int s_)]) ?_ 0 ⟨hG, hI, lv_sub hl [0, 1, 2] rfl⟩
    intro i19 z H locs ls ⟨hG, hI, hl⟩ hi19 ih19
    obtain ⟨t19, rfl⟩ : ∃ x, x = z := ⟨_, rfl⟩
    refine lv_iload_n hx hb dX8_admit_19 rfl (lv_at hl 0 rfl) ?_
    refine lv_aload_n hx hb dX8_admit_20 rfl (lv_at hl 1 rfl) ?_
    refine mr_gi hC hin hI 28 (by decide) (by decide) (by decide) k_163 (v := (S 28 0)) rfl dX8_admit_21 ?_
    refine lv_icmp_ge (tgt := 77) hx hb dX8_admit_24 (by decide) (fun c_3 => ?_) (fun c_3 => ?_)
    · have hxN : i19 = nsu S := w_exit hN.n28 hi19 (by have := hN.b28; omega) c_3
      rw [show (nsu S) - i19 = 0 by omega] at hG
      have hG := hG.trans (rX8_admit_19_0 S s_ i19 t19)
      refine lv_aload_n hx hb dX8_admit_77 rfl (lv_at hl 1 rfl) ?_
      refine mr_gt hC hin hI k_152 dX8_admit_78 ?_
      refine lv_if_le (tgt := 86) hx hb dX8_admit_81 (by decide) (fun c_4 => ?_) (fun c_4 => ?_)
      · have hG := hG.trans (if_pos c_4)
        refine lv_aload_n hx hb dX8_admit_86 rfl (lv_at hl 1 rfl) ?_
        refine mr_ga hC hin hI 14 (by decide) k_40 dX8_admit_87 ?_
        refine lv_iload_n hx hb dX8_admit_90 rfl (lv_at hl 2 rfl) ?_
        refine mr_ldz hC hI 14 (by decide) (by decide) (isScheme_in hN (by assumption)) (v := (S 14 (ix s_))) rfl dX8_admit_91 ?_
        refine lv_istore_n (lv' := [(2, .int (S 14 (ix s_))), (0, .ref o), (1, .int s_)]) hx hb dX8_admit_92 rfl hl (by decide) rfl (fun ls hl => ?_)
        refine lv_aload_n hx hb dX8_admit_93 rfl (lv_at hl 1 rfl) ?_
        refine mr_ga hC hin hI 14 (by decide) k_40 dX8_admit_94 ?_
        refine lv_iload_n hx hb dX8_admit_97 rfl (lv_at hl 2 rfl) ?_
        refine lv_iconst (v := 1) hx hb dX8_admit_98 (by decide) ?_
        refine mr_stz hC hL hI 14 (by decide) (by decide) (isScheme_in hN (by assumption)) (n := (ix s_)) rfl (by decide) dX8_admit_99 (fun H locs hI => ?_)
        refine lv_iload_n hx hb dX8_admit_100 rfl (lv_at hl 0 rfl) ?_
        exact W.zret (v := (S 14 (ix s_))) (ty := .boolean) hx hb hr (bz_nar (hN.z14 _)) (fun t9 ht9 hW9 => ⟨⟨S 14 (ix s_), (), rfl, (congrArg Prod.fst hG).symm, by show MH D cy o ad _ _ t9.heap; rw [ht9, hG]; exact hI.1⟩, hI.2.F ht9⟩) hI.2.2.2 dX8_admit_101
      · have hG := hG.trans (if_neg c_4)
        refine lv_iconst (v := 0) hx hb dX8_admit_84 (by decide) ?_
        exact W.zret (v := 0) (ty := .boolean) hx hb hr rfl (fun t9 ht9 hW9 => ⟨⟨0, (), rfl, (congrArg Prod.fst hG).symm, by show MH D cy o ad _ _ t9.heap; rw [ht9, hG]; exact hI.1⟩, hI.2.F ht9⟩) hI.2.2.2 dX8_admit_85
    · have hlt19 : i19 < nsu S := w_in hN.n28 hi19 (by have := hN.b28; omega) c_3
      rw [show (nsu S) - i19 = ((nsu S) - (i19 + 1)) + 1 by omega] at hG
      have hG := hG.trans (rX8_admit_19_s S s_ i19 t19 ((nsu S) - (i19 + 1)))
      refine lv_aload_n hx hb dX8_admit_27 rfl (lv_at hl 1 rfl) ?_
      refine mr_gt hC hin hI k_152 dX8_admit_28 ?_
      refine lv_if_ne (tgt := 77) hx hb dX8_admit_31 (by decide) (fun c_5 => ?_) (fun c_5 => ?_)
      · have hG := hG.trans (if_neg c_5)
        refine lv_aload_n hx hb dX8_admit_77 rfl (lv_at hl 1 rfl) ?_
        refine mr_gt hC hin hI k_152 dX8_admit_78 ?_
        refine lv_if_le (tgt := 86) hx hb dX8_admit_81 (by decide) (fun c_6 => ?_) (fun c_6 => ?_)
        · have hG := hG.trans (if_pos c_6)
          refine lv_aload_n hx hb dX8_admit_86 rfl (lv_at hl 1 rfl) ?_
          refine mr_ga hC hin hI 14 (by decide) k_40 dX8_admit_87 ?_
          refine lv_iload_n hx hb dX8_admit_90 rfl (lv_at hl 2 rfl) ?_
          refine mr_ldz hC hI 14 (by decide) (by decide) (isScheme_in hN (by assumption)) (v := (S 14 (ix s_))) rfl dX8_admit_91 ?_
          refine lv_istore_n (lv' := [(2, .int (S 14 (ix s_))), (0, .ref o), (1, .int s_)]) hx hb dX8_admit_92 rfl hl (by decide) rfl (fun ls hl => ?_)
          refine lv_aload_n hx hb dX8_admit_93 rfl (lv_at hl 1 rfl) ?_
          refine mr_ga hC hin hI 14 (by decide) k_40 dX8_admit_94 ?_
          refine lv_iload_n hx hb dX8_admit_97 rfl (lv_at hl 2 rfl) ?_
          refine lv_iconst (v := 1) hx hb dX8_admit_98 (by decide) ?_
          refine mr_stz hC hL hI 14 (by decide) (by decide) (isScheme_in hN (by assumption)) (n := (ix s_)) rfl (by decide) dX8_admit_99 (fun H locs hI => ?_)
          refine lv_iload_n hx hb dX8_admit_100 rfl (lv_at hl 0 rfl) ?_
          exact W.zret (v := (S 14 (ix s_))) (ty := .boolean) hx hb hr (bz_nar (hN.z14 _)) (fun t9 ht9 hW9 => ⟨⟨S 14 (ix s_), (), rfl, (congrArg Prod.fst hG).symm, by show MH D cy o ad _ _ t9.heap; rw [ht9, hG]; exact hI.1⟩, hI.2.F ht9⟩) hI.2.2.2 dX8_admit_101
        · have hG := hG.trans (if_neg c_6)
          refine lv_iconst (v := 0) hx hb dX8_admit_84 (by decide) ?_
          exact W.zret (v := 0) (ty := .boolean) hx hb hr rfl (fun t9 ht9 hW9 => ⟨⟨0, (), rfl, (congrArg Prod.fst hG).symm, by show MH D cy o ad _ _ t9.heap; rw [ht9, hG]; exact hI.1⟩, hI.2.F ht9⟩) hI.2.2.2 dX8_admit_85
      · have hG := hG.trans (if_pos c_5)
        refine lv_aload_n hx hb dX8_admit_34 rfl (lv_at hl 1 rfl) ?_
        refine lv_aload_n hx hb dX8_admit_35 rfl (lv_at hl 1 rfl) ?_
        refine lv_iload_n hx hb dX8_admit_36 rfl (lv_at hl 0 rfl) ?_
        refine lv_iload_n hx hb dX8_admit_37 rfl (lv_at hl 2 rfl) ?_
        refine mr_call (As := [.int (nI i19), .int s_]) (rest := [.ref o]) hC hI (qX8_dayOf l D cy o ad S t19 hN i19 (by omega) rfl (ix s_) (vp_ixl (isScheme_in hN (by assumption))) (vp_ixe (isScheme_in hN (by assumption)))) (cwV 2 hts gX8_admit_X8_dayOf rfl rfl rfl (by decide +kernel) ⟨Nat.le_of_ble_eq_true rfl, Nat.le_of_ble_eq_true rfl⟩) rfl hl.1 rfl (Nat.le_of_ble_eq_true rfl) dX8_admit_38 ⟨Nat.zero_le _, Nat.zero_le _⟩ (fun H locs hI => ?_)
        refine lv_iconst (v := (-1)) hx hb dX8_admit_41 (by decide) ?_
        refine lv_icmp_eq (tgt := 67) hx hb dX8_admit_42 (by decide) (fun c_7 => ?_) (fun c_7 => ?_)
        · have hG := hG.trans (if_pos c_7)
          refine lv_iconst (v := 0) hx hb dX8_admit_67 (by decide) ?_
          refine mr_pt hC hin hL hI k_152 dX8_admit_68 (fun H locs hI => ?_)
          refine lv_iinc (v := (nI (i19 + 1))) (lv' := [(2, .int (nI (i19 + 1))), (0, .ref o), (1, .int s_)]) hx hb dX8_admit_71 hl (k := 0) rfl (nI_1 i19) (by decide) rfl (fun ls hl => ?_)
          refine lv_goto (tgt := 19) hx hb dX8_admit_74 (by decide) ?_
          exact ih19 0 _ _ ls hlt19 ⟨hG, hI, lv_sub hl [0, 1, 2] rfl⟩
        · have hG := hG.trans (if_neg c_7)
          refine lv_aload_n hx hb dX8_admit_45 rfl (lv_at hl 1 rfl) ?_
          refine lv_iload_n hx hb dX8_admit_46 rfl (lv_at hl 0 rfl) ?_
          refine mr_call (As := [.int (nI i19)]) (rest := [.ref o]) hC hI (qX8_isSealed l D cy o ad S t19 i19 (by omega) rfl) (cwV 1 hts gX8_admit_X8_isSealed rfl rfl rfl (by decide +kernel) ⟨Nat.le_of_ble_eq_true rfl, Nat.le_of_ble_eq_true rfl⟩) rfl hl.1 rfl (Nat.le_of_ble_eq_true rfl) dX8_admit_47 ⟨Nat.zero_le _, Nat.zero_le _⟩ (fun H locs hI => ?_)
          refine lv_if_ne (tgt := 67) hx hb dX8_admit_50 (by decide) (fun c_8 => ?_) (fun c_8 => ?_)
          · have hG := hG.trans (if_neg c_8)
            refine lv_iconst (v := 0) hx hb dX8_admit_67 (by decide) ?_
            refine mr_pt hC hin hL hI k_152 dX8_admit_68 (fun H locs hI => ?_)
            refine lv_iinc (v := (nI (i19 + 1))) (lv' := [(2, .int (nI (i19 + 1))), (0, .ref o), (1, .int s_)]) hx hb dX8_admit_71 hl (k := 0) rfl (nI_1 i19) (by decide) rfl (fun ls hl => ?_)
            refine lv_goto (tgt := 19) hx hb dX8_admit_74 (by decide) ?_
            exact ih19 0 _ _ ls hlt19 ⟨hG, hI, lv_sub hl [0, 1, 2] rfl⟩
          · have hG := hG.trans (if_pos c_8)
            refine lv_aload_n hx hb dX8_admit_53 rfl (lv_at hl 1 rfl) ?_
            refine mr_ga hC hin hI 34 (by decide) k_92 dX8_admit_54 ?_
            refine lv_iload_n hx hb dX8_admit_57 rfl (lv_at hl 0 rfl) ?_
            refine mr_ld hC hI 34 (by decide) (by decide) (show vp_in (nI i19) 12 from vp_in_nI (by omega) (by decide)) (v := (S 34 i19)) ((congrArg (S 34) (nI_clamp (by omega))).trans rfl) dX8_admit_58 ?_
            refine lv_iconst (v := 3) hx hb dX8_admit_59 (by decide) ?_
            refine lv_icmp_eq (tgt := 67) hx hb dX8_admit_60 (by decide) (fun c_9 => ?_) (fun c_9 => ?_)
            · have hG := hG.trans (if_pos c_9)
              refine lv_iconst (v := 0) hx hb dX8_admit_67 (by decide) ?_
              refine mr_pt hC hin hL hI k_152 dX8_admit_68 (fun H locs hI => ?_)
              refine lv_iinc (v := (nI (i19 + 1))) (lv' := [(2, .int (nI (i19 + 1))), (0, .ref o), (1, .int s_)]) hx hb dX8_admit_71 hl (k := 0) rfl (nI_1 i19) (by decide) rfl (fun ls hl => ?_)
              refine lv_goto (tgt := 19) hx hb dX8_admit_74 (by decide) ?_
              exact ih19 0 _ _ ls hlt19 ⟨hG, hI, lv_sub hl [0, 1, 2] rfl⟩
            · have hG := hG.trans (if_neg c_9)
              refine lv_iconst (v := 2) hx hb dX8_admit_63 (by decide) ?_
              refine lv_goto (tgt := 68) hx hb dX8_admit_64 (by decide) ?_
              refine mr_pt hC hin hL hI k_152 dX8_admit_68 (fun H locs hI => ?_)
              refine lv_iinc (v := (nI (i19 + 1))) (lv' := [(2, .int (nI (i19 + 1))), (0, .ref o), (1, .int s_)]) hx hb dX8_admit_71 hl (k := 0) rfl (nI_1 i19) (by decide) rfl (fun ls hl => ?_)
              refine lv_goto (tgt := 19) hx hb dX8_admit_74 (by decide) ?_
              exact ih19 2 _ _ ls hlt19 ⟨hG, hI, lv_sub hl [0, 1, 2] rfl⟩
set_option maxHeartbeats 4000000 in
set_option maxRecDepth 100000 in
theorem qX8_deal (l : Launch) (A : Nat → Prop) (D : va_G) (cy : Nat → ClassId) (o : Nat) (ad : Nat → Nat) (hL : ML A o ad) (S : St) (th : Int32) (hN : MInv S) (t : Int32) (o_ : Int32) (much : Int32) : MMut l A D cy o ad S th yX8_deal wsX8_deal ({ frames := 2, cells := 0, slots := 0, locals := 42 } : Room) [.int t, .int o_, .int much] (fX8_deal S t o_ much).1 (fX8_deal S t o_ much).2.2 (fX8_deal S t o_ much).2.1 := by
  refine Met.ofW (cc := cX8_deal) (maxL := 6) (ret := (some .int)) (by decide) rfl ?_
  intro p e s m args below meth c s₁ B hml hv
  obtain ⟨rfl, hM, hK⟩ := hv
  have hx := B.exec
  have hb := B.bytes
  have hr := B.returns
  have hts := atoms_spec (ws := wsX8_deal) B.pre
  have hown : s.vm.findClass RX8 = some m.cls := findClass_of_methodNamed B.named
  have hlocks := B.notSynchronized
  have hC : MC p s m _ c cX8_deal 6 D cy wsX8_deal := ⟨⟨hx, hb, hml, hown, hts⟩, hK⟩
  have hin : ∀ w ∈ wsX80, w ∈ wsX8_deal := fun _ h => List.mem_cons_of_mem _ (List.mem_append_right _ (h))
  have hI : MI A D cy o ad s S th s.heap [] := ⟨hM, va_S.rf⟩
  have hb7 := hN.b7
  have hb15 := hN.b15
  have hb23 := hN.b23
  have hb28 := hN.b28
  have hb42 := hN.b42
  have k_152 := hts (.fieldLink RX8 152 "RelatorsBenchModel" "thrown" "I") (List.mem_cons_of_mem _ (List.mem_append_left _ (List.mem_of_getElem? (i := 0) rfl)))
  have k_215 := hts (.fieldLink RX8 215 "RelatorsBenchModel" "deals" "I") (List.mem_cons_of_mem _ (List.mem_append_left _ (List.mem_of_getElem? (i := 1) rfl)))
  have k_65 := hts (.fieldLink RX8 65 "RelatorsBenchModel" "giver" "[I") (List.mem_cons_of_mem _ (List.mem_append_left _ (List.mem_of_getElem? (i := 2) rfl)))
  have k_68 := hts (.fieldLink RX8 68 "RelatorsBenchModel" "taker" "[I") (List.mem_cons_of_mem _ (List.mem_append_left _ (List.mem_of_getElem? (i := 4) rfl)))
  have k_71 := hts (.fieldLink RX8 71 "RelatorsBenchModel" "part" "[I") (List.mem_cons_of_mem _ (List.mem_append_left _ (List.mem_of_getElem? (i := 3) rfl)))
  have k_74 := hts (.fieldLink RX8 74 "RelatorsBenchModel" "dealt" "[I") (List.mem_cons_of_mem _ (List.mem_append_left _ (List.mem_of_getElem? (i := 5) rfl)))
  have k_179 := hts (.fieldLink RX8 179 "RelatorsBenchModel" "today" "I") (List.mem_cons_of_mem _ (List.mem_append_left _ (List.mem_of_getElem? (i := 6) rfl)))
  have hl := lv_entry ([.ref o, .int t, .int o_, .int much]) (n := 6) (Nat.le_of_ble_eq_true rfl)
  rw [lg_entry_eq]
  generalize (lg_sl ([.ref o, .int t, .int o_, .int much]) ++ List.replicate (6 - (lg_sl ([.ref o, .int t, .int o_, .int much])).length) Slot.unset).toArray = ls at hl ⊢
  have hl : lv_has ls 6 [(0, .ref o), (1, .int t), (2, .int o_), (3, .int much)] := hl
  have hG : fX8_deal S t o_ much = fX8_deal S t o_ much := rfl
  refine lv_aload_n hx hb dX8_deal_0 rfl (lv_at hl 0 rfl) ?_
  refine lv_iload_n hx hb dX8_deal_1 rfl (lv_at hl 1 rfl) ?_
  refine mr_callS (As := [.int t]) (rest := [.ref o]) hC hI (qX8_isTeller l t) (va_cwS 1 hts gX8_deal_X8_isTeller rfl rfl rfl (by decide +kernel) ⟨Nat.le_of_ble_eq_true rfl, Nat.le_of_ble_eq_true rfl⟩) rfl hl.1 rfl (Nat.le_of_ble_eq_true rfl) dX8_deal_2 ⟨Nat.zero_le _, Nat.zero_le _⟩ (fun H locs hI => ?_)
  refine lv_if_eq (tgt := 15) hx hb dX8_deal_5 (by decide) (fun c_1 => ?_) (fun c_1 => ?_)
  · have hG := hG.trans (if_pos c_1)
    refine lv_iconst (v := 1) hx hb dX8_deal_15 (by decide) ?_
    refine lv_goto (tgt := 39) hx hb dX8_deal_16 (by decide) ?_
    refine mr_pt hC hin hL hI k_152 dX8_deal_39 (fun H locs hI => ?_)
    refine lv_aload_n hx hb dX8_deal_42 rfl (lv_at hl 0 rfl) ?_
    refine mr_gt hC hin hI k_152 dX8_deal_43 ?_
    refine lv_if_le (tgt := 51) hx hb dX8_deal_46 (by decide) (fun c => absurd c (by decide : ¬ (1 : Int32) ≤ 0)) (fun _ => ?_)
    refine lv_iconst (v := 0) hx hb dX8_deal_49 (by decide) ?_
    exact W.iret (v := 0) hx hb hr (fun t9 ht9 hW9 => ⟨⟨0, (), rfl, (congrArg Prod.fst hG).symm, by show MH D cy o ad _ _ t9.heap; rw [ht9, hG]; exact hI.1⟩, hI.2.F ht9⟩) hI.2.2.2 dX8_deal_50
  · have hG := hG.trans (if_neg c_1)
    refine lv_iload_n hx hb dX8_deal_8 rfl (lv_at hl 2 rfl) ?_
    refine mr_callS (As := [.int o_]) (rest := [.ref o]) hC hI (qX8_isTeller l o_) (va_cwS 1 hts gX8_deal_X8_isTeller rfl rfl rfl (by decide +kernel) ⟨Nat.le_of_ble_eq_true rfl, Nat.le_of_ble_eq_true rfl⟩) rfl hl.1 rfl (Nat.le_of_ble_eq_true rfl) dX8_deal_9 ⟨Nat.zero_le _, Nat.zero_le _⟩ (fun H locs hI => ?_)
    refine lv_if_ne (tgt := 19) hx hb dX8_deal_12 (by decide) (fun c_2 => ?_) (fun c_2 => ?_)
    · have hG := hG.trans (if_neg c_2)
      refine lv_iload_n hx hb dX8_deal_19 rfl (lv_at hl 1 rfl) ?_
      refine lv_iload_n hx hb dX8_deal_20 rfl (lv_at hl 2 rfl) ?_
      refine lv_icmp_eq (tgt := 34) hx hb dX8_deal_21 (by decide) (fun c_3 => ?_) (fun c_3 => ?_)
      · have hG := hG.trans (if_pos c_3)
        refine lv_iconst (v := 2) hx hb dX8_deal_34 (by decide) ?_
        refine lv_goto (tgt := 39) hx hb dX8_deal_35 (by decide) ?_
        refine mr_pt hC hin hL hI k_152 dX8_deal_39 (fun H locs hI => ?_)
        refine lv_aload_n hx hb dX8_deal_42 rfl (lv_at hl 0 rfl) ?_
        refine mr_gt hC hin hI k_152 dX8_deal_43 ?_
        refine lv_if_le (tgt := 51) hx hb dX8_deal_46 (by decide) (fun c => absurd c (by decide : ¬ (2 : Int32) ≤ 0)) (fun _ => ?_)
        refine lv_iconst (v := 0) hx hb dX8_deal_49 (by decide) ?_
        exact W.iret (v := 0) hx hb hr (fun t9 ht9 hW9 => ⟨⟨0, (), rfl, (congrArg Prod.fst hG).symm, by show MH D cy o ad _ _ t9.heap; rw [ht9, hG]; exact hI.1⟩, hI.2.F ht9⟩) hI.2.2.2 dX8_deal_50
      · have hG := hG.trans (if_neg c_3)
        refine lv_iload_n hx hb dX8_deal_24 rfl (lv_at hl 3 rfl) ?_
        refine lv_iconst (v := 1) hx hb dX8_deal_25 (by decide) ?_
        refine lv_bipush (v := 100) hx hb dX8_deal_26 (by decide) ?_
        refine mr_callS (As := [.int much, .int 1, .int 100]) (rest := [.ref o]) hC hI (qX8_in l much 1 100) (va_cwS 3 hts gX8_deal_X8_in rfl rfl rfl (by decide +kernel) ⟨Nat.le_of_ble_eq_true rfl, Nat.le_of_ble_eq_true rfl⟩) rfl hl.1 rfl (Nat.le_of_ble_eq_true rfl) dX8_deal_28 ⟨Nat.zero_le _, Nat.zero_le _⟩ (fun H locs hI => ?_)
        refine lv_if_ne (tgt := 38) hx hb dX8_deal_31 (by decide) (fun c_4 => ?_) (fun c_4 => ?_)
        · have hG := hG.trans (if_neg c_4)
          refine lv_iconst (v := 0) hx hb dX8_deal_38 (by decide) ?_
          refine mr_pt hC hin hL hI k_152 dX8_deal_39 (fun H locs hI => ?_)
          refine lv_aload_n hx hb dX8_deal_42 rfl (lv_at hl 0 rfl) ?_
          refine mr_gt hC hin hI k_152 dX8_deal_43 ?_
          refine lv_if_le (tgt := 51) hx hb dX8_deal_46 (by decide) (fun _ => ?_) (fun c => absurd (by decide : (0 : Int32) ≤ 0) c)
          refine lv_iload_n hx hb dX8_deal_51 rfl (lv_at hl 3 rfl) ?_
          refine lv_istore (lv' := [(4, .int much), (0, .ref o), (1, .int t), (2, .int o_), (3, .int much)]) hx hb dX8_deal_52 hl (by decide) rfl (fun ls hl => ?_)
          refine lv_iconst (v := 0) hx hb dX8_deal_54 (by decide) ?_
          refine lv_istore (lv' := [(5, .int 0), (4, .int much), (0, .ref o), (1, .int t), (2, .int o_), (3, .int much)]) hx hb dX8_deal_55 hl (by decide) rfl (fun ls hl => ?_)
          refine w_loop (σ := Int32) (ndl S) 57 (fun i57 z H locs ls => z = lX8_deal_57 S t much i57 ∧ MI A D cy o ad s S 0 H locs ∧ lv_has ls 6 [(5, .int (nI i57)), (4, .int z), (0, .ref o), (1, .int t), (2, .int o_), (3, .int much)]) ?_ much ⟨rfl, hI, lv_sub hl [0, 1, 2, 3, 4, 5] rfl⟩
          intro i57 z H locs ls ⟨hz57, hI, hl⟩ hi57 ih57
          obtain ⟨x57_4, rfl⟩ : ∃ x, x = z := ⟨_, rfl⟩
          refine lv_iload hx hb dX8_deal_57 (lv_at hl 0 rfl) ?_
          refine lv_aload_n hx hb dX8_deal_59 rfl (lv_at hl 2 rfl) ?_
          refine mr_gi hC hin hI 23 (by decide) (by decide) (by decide) k_215 (v := (S 23 0)) rfl dX8_deal_60 ?_
          refine lv_icmp_ge (tgt := 99) hx hb dX8_deal_63 (by decide) (fun c_5 => ?_) (fun c_5 => ?_)
          · obtain rfl : i57 = ndl S := w_exit hN.n23 hi57 (by have := hN.b23; omega) c_5
            obtain rfl : x57_4 = (lX8_deal_57 S t much (ndl S)) := by rw [← hz57]
            refine lv_aload_n hx hb dX8_deal_99 rfl (lv_at hl 2 rfl) ?_
            refine lv_aload_n hx hb dX8_deal_100 rfl (lv_at hl 2 rfl) ?_
            refine mr_gi hC hin hI 23 (by decide) (by decide) (by decide) k_215 (v := (S 23 0)) rfl dX8_deal_101 ?_
            refine lv_bipush (v := 20) hx hb dX8_deal_104 (by decide) ?_
            refine lv_icmp_eq (tgt := 116) hx hb dX8_deal_106 (by decide) (fun c_9 => ?_) (fun c_9 => ?_)
            · have hG := hG.trans (if_pos c_9)
              refine lv_iconst (v := 3) hx hb dX8_deal_116 (by decide) ?_
              refine lv_goto (tgt := 121) hx hb dX8_deal_117 (by decide) ?_
              refine mr_pt hC hin hL hI k_152 dX8_deal_121 (fun H locs hI => ?_)
              refine lv_aload_n hx hb dX8_deal_124 rfl (lv_at hl 2 rfl) ?_
              refine mr_gt hC hin hI k_152 dX8_deal_125 ?_
              refine lv_if_le (tgt := 133) hx hb dX8_deal_128 (by decide) (fun c => absurd c (by decide : ¬ (3 : Int32) ≤ 0)) (fun _ => ?_)
              refine lv_iconst (v := 0) hx hb dX8_deal_131 (by decide) ?_
              exact W.iret (v := 0) hx hb hr (fun t9 ht9 hW9 => ⟨⟨0, (), rfl, (congrArg Prod.fst hG).symm, by show MH D cy o ad _ _ t9.heap; rw [ht9, hG]; exact hI.1⟩, hI.2.F ht9⟩) hI.2.2.2 dX8_deal_132
            · have hG := hG.trans (if_neg c_9)
              refine lv_iload hx hb dX8_deal_109 (lv_at hl 1 rfl) ?_
              refine lv_bipush (v := 100) hx hb dX8_deal_111 (by decide) ?_
              refine lv_icmp_le (tgt := 120) hx hb dX8_deal_113 (by decide) (fun c_10 => ?_) (fun c_10 => ?_)
              · have hG := hG.trans (if_pos c_10)
                refine lv_iconst (v := 0) hx hb dX8_deal_120 (by decide) ?_
                refine mr_pt hC hin hL hI k_152 dX8_deal_121 (fun H locs hI => ?_)
                refine lv_aload_n hx hb dX8_deal_124 rfl (lv_at hl 2 rfl) ?_
                refine mr_gt hC hin hI k_152 dX8_deal_125 ?_
                refine lv_if_le (tgt := 133) hx hb dX8_deal_128 (by decide) (fun _ => ?_) (fun c => absurd (by decide : (0 : Int32) ≤ 0) c)
                refine lv_aload_n hx hb dX8_deal_133 rfl (lv_at hl 2 rfl) ?_
                refine mr_ga hC hin hI 24 (by decide) k_65 dX8_deal_134 ?_
                refine lv_aload_n hx hb dX8_deal_137 rfl (lv_at hl 2 rfl) ?_
                refine mr_gi hC hin hI 23 (by decide) (by decide) (by decide) k_215 (v := (S 23 0)) rfl dX8_deal_138 ?_
                refine lv_iload_n hx hb dX8_deal_141 rfl (lv_at hl 3 rfl) ?_
                refine mr_st hC hL hI 24 (by decide) (by decide) (cnt_in hN.n23 hN.b23 (by assumption)) (n := (ix (S 23 0))) rfl dX8_deal_142 (fun H locs hI => ?_)
                refine lv_aload_n hx hb dX8_deal_143 rfl (lv_at hl 2 rfl) ?_
                refine mr_ga hC hin hI 25 (by decide) k_68 dX8_deal_144 ?_
                refine lv_aload_n hx hb dX8_deal_147 rfl (lv_at hl 2 rfl) ?_
                refine mr_gi hC hin hI 23 (by decide) (by decide) (by decide) k_215 (v := (S 23 0)) (congrFun (up_ne (by decide)) _) dX8_deal_148 ?_
                refine lv_iload_n hx hb dX8_deal_151 rfl (lv_at hl 4 rfl) ?_
                refine mr_st hC hL hI 25 (by decide) (by decide) (cnt_in hN.n23 hN.b23 (by assumption)) (n := (ix (S 23 0))) rfl dX8_deal_152 (fun H locs hI => ?_)
                refine lv_aload_n hx hb dX8_deal_153 rfl (lv_at hl 2 rfl) ?_
                refine mr_ga hC hin hI 26 (by decide) k_71 dX8_deal_154 ?_
                refine lv_aload_n hx hb dX8_deal_157 rfl (lv_at hl 2 rfl) ?_
                refine mr_gi hC hin hI 23 (by decide) (by decide) (by decide) k_215 (v := (S 23 0)) ((congrFun (up_ne (by decide)) _).trans (congrFun (up_ne (by decide)) _)) dX8_deal_158 ?_
                refine lv_iload_n hx hb dX8_deal_161 rfl (lv_at hl 5 rfl) ?_
                refine mr_st hC hL hI 26 (by decide) (by decide) (cnt_in hN.n23 hN.b23 (by assumption)) (n := (ix (S 23 0))) rfl dX8_deal_162 (fun H locs hI => ?_)
                refine lv_aload_n hx hb dX8_deal_163 rfl (lv_at hl 2 rfl) ?_
                refine mr_ga hC hin hI 27 (by decide) k_74 dX8_deal_164 ?_
                refine lv_aload_n hx hb dX8_deal_167 rfl (lv_at hl 2 rfl) ?_
                refine mr_gi hC hin hI 23 (by decide) (by decide) (by decide) k_215 (v := (S 23 0)) ((congrFun (up_ne (by decide)) _).trans ((congrFun (up_ne (by decide)) _).trans (congrFun (up_ne (by decide)) _))) dX8_deal_168 ?_
                refine lv_aload_n hx hb dX8_deal_171 rfl (lv_at hl 2 rfl) ?_
                refine mr_gi hC hin hI 1 (by decide) (by decide) (by decide) k_179 (v := (S 1 0)) ((congrFun (up_ne (by decide)) _).trans ((congrFun (up_ne (by decide)) _).trans (congrFun (up_ne (by decide)) _))) dX8_deal_172 ?_
                refine mr_st hC hL hI 27 (by decide) (by decide) (cnt_in hN.n23 hN.b23 (by assumption)) (n := (ix (S 23 0))) rfl dX8_deal_175 (fun H locs hI => ?_)
                refine lv_aload_n hx hb dX8_deal_176 rfl (lv_at hl 2 rfl) ?_
                refine lv_dup hx hb dX8_deal_177 rfl ?_
                refine mr_gi hC hin hI 23 (by decide) (by decide) (by decide) k_215 (v := (S 23 0)) ((congrFun (up_ne (by decide)) _).trans ((congrFun (up_ne (by decide)) _).trans ((congrFun (up_ne (by decide)) _).trans (congrFun (up_ne (by decide)) _)))) dX8_deal_178 ?_
                refine lv_iconst (v := 1) hx hb dX8_deal_181 (by decide) ?_
                refine lv_iadd hx hb dX8_deal_182 ?_
                refine mr_pi hC hin hL hI 23 (by decide) (by decide) (by decide) k_215 dX8_deal_183 (fun H locs hI => ?_)
                refine lv_iload hx hb dX8_deal_186 (lv_at hl 1 rfl) ?_
                exact W.iret (v := (lX8_deal_57 S t much (ndl S))) hx hb hr (fun t9 ht9 hW9 => ⟨⟨(lX8_deal_57 S t much (ndl S)), (), rfl, (congrArg Prod.fst hG).symm, by show MH D cy o ad _ _ t9.heap; rw [ht9, hG]; exact hI.1⟩, hI.2.F ht9⟩) hI.2.2.2 dX8_deal_188
              · have hG := hG.trans (if_neg c_10)
                refine lv_iconst (v := 3) hx hb dX8_deal_116 (by decide) ?_
                refine lv_goto (tgt := 121) hx hb dX8_deal_117 (by decide) ?_
                refine mr_pt hC hin hL hI k_152 dX8_deal_121 (fun H locs hI => ?_)
                refine lv_aload_n hx hb dX8_deal_124 rfl (lv_at hl 2 rfl) ?_
                refine mr_gt hC hin hI k_152 dX8_deal_125 ?_
                refine lv_if_le (tgt := 133) hx hb dX8_deal_128 (by decide) (fun c => absurd c (by decide : ¬ (3 : Int32) ≤ 0)) (fun _ => ?_)
                refine lv_iconst (v := 0) hx hb dX8_deal_131 (by decide) ?_
                exact W.iret (v := 0) hx hb hr (fun t9 ht9 hW9 => ⟨⟨0, (), rfl, (congrArg Prod.fst hG).symm, by show MH D cy o ad _ _ t9.heap; rw [ht9, hG]; exact hI.1⟩, hI.2.F ht9⟩) hI.2.2.2 dX8_deal_132
          · have hlt57 : i57 < ndl S := w_in hN.n23 hi57 (by have := hN.b23; omega) c_5
            have hB57 : iX8_deal_57 S t i57 x57_4 = iX8_deal_57 S t i57 x57_4 := rfl
            refine lv_iload hx hb dX8_deal_66 (lv_at hl 1 rfl) ?_
            refine lv_aload_n hx hb dX8_deal_68 rfl (lv_at hl 2 rfl) ?_
            refine mr_ga hC hin hI 24 (by decide) k_65 dX8_deal_69 ?_
            refine lv_iload hx hb dX8_deal_72 (lv_at hl 0 rfl) ?_
            refine mr_ld hC hI 24 (by decide) (by decide) (show vp_in (nI i57) 20 from vp_in_nI (by omega) (by decide)) (v := (S 24 i57)) ((congrArg (S 24) (nI_clamp (by omega))).trans rfl) dX8_deal_74 ?_
            refine lv_iload_n hx hb dX8_deal_75 rfl (lv_at hl 3 rfl) ?_
            refine lv_icmp_ne (tgt := 89) hx hb dX8_deal_76 (by decide) (fun c_8 => ?_) (fun c_8 => ?_)
            · have hB57 := hB57.trans (if_neg c_8)
              refine lv_iconst (v := 0) hx hb dX8_deal_89 (by decide) ?_
              refine lv_iadd hx hb dX8_deal_90 ?_
              refine lv_istore (lv' := [(4, .int (x57_4 + 0)), (5, .int (nI i57)), (0, .ref o), (1, .int t), (2, .int o_), (3, .int much)]) hx hb dX8_deal_91 hl (by decide) rfl (fun ls hl => ?_)
              refine lv_iinc (v := (nI (i57 + 1))) (lv' := [(5, .int (nI (i57 + 1))), (4, .int (x57_4 + 0)), (0, .ref o), (1, .int t), (2, .int o_), (3, .int much)]) hx hb dX8_deal_93 hl (k := 1) rfl (nI_1 i57) (by decide) rfl (fun ls hl => ?_)
              refine lv_goto (tgt := 57) hx hb dX8_deal_96 (by decide) ?_
              exact ih57 (x57_4 + 0) _ _ ls hlt57 ⟨(by show _ = iX8_deal_57 S t i57 (lX8_deal_57 S t much i57); rw [← hz57]; exact hB57.symm), hI, lv_sub hl [0, 1, 2, 3, 4, 5] rfl⟩
            · have hB57 := hB57.trans (if_pos c_8)
              refine lv_aload_n hx hb dX8_deal_79 rfl (lv_at hl 2 rfl) ?_
              refine mr_ga hC hin hI 26 (by decide) k_71 dX8_deal_80 ?_
              refine lv_iload hx hb dX8_deal_83 (lv_at hl 0 rfl) ?_
              refine mr_ld hC hI 26 (by decide) (by decide) (show vp_in (nI i57) 20 from vp_in_nI (by omega) (by decide)) (v := (S 26 i57)) ((congrArg (S 26) (nI_clamp (by omega))).trans rfl) dX8_deal_85 ?_
              refine lv_goto (tgt := 90) hx hb dX8_deal_86 (by decide) ?_
              refine lv_iadd hx hb dX8_deal_90 ?_
              refine lv_istore (lv' := [(4, .int (x57_4 + (S 26 i57))), (5, .int (nI i57)), (0, .ref o), (1, .int t), (2, .int o_), (3, .int much)]) hx hb dX8_deal_91 hl (by decide) rfl (fun ls hl => ?_)
              refine lv_iinc (v := (nI (i57 + 1))) (lv' := [(5, .int (nI (i57 + 1))), (4, .int (x57_4 + (S 26 i57))), (0, .ref o), (1, .int t), (2, .int o_), (3, .int much)]) hx hb dX8_deal_93 hl (k := 1) rfl (nI_1 i57) (by decide) rfl (fun ls hl => ?_)
              refine lv_goto (tgt := 57) hx hb dX8_deal_96 (by decide) ?_
              exact ih57 (x57_4 + (S 26 i57)) _ _ ls hlt57 ⟨(by show _ = iX8_deal_57 S t i57 (lX8_deal_57 S t much i57); rw [← hz57]; exact hB57.symm), hI, lv_sub hl [0, 1, 2, 3, 4, 5] rfl⟩
        · have hG := hG.trans (if_pos c_4)
          refine lv_iconst (v := 2) hx hb dX8_deal_34 (by decide) ?_
          refine lv_goto (tgt := 39) hx hb dX8_deal_35 (by decide) ?_
          refine mr_pt hC hin hL hI k_152 dX8_deal_39 (fun H locs hI => ?_)
          refine lv_aload_n hx hb dX8_deal_42 rfl (lv_at hl 0 rfl) ?_
          refine mr_gt hC hin hI k_152 dX8_deal_43 ?_
          refine lv_if_le (tgt := 51) hx hb dX8_deal_46 (by decide) (fun c => absurd c (by decide : ¬ (2 : Int32) ≤ 0)) (fun _ => ?_)
          refine lv_iconst (v := 0) hx hb dX8_deal_49 (by decide) ?_
          exact W.iret (v := 0) hx hb hr (fun t9 ht9 hW9 => ⟨⟨0, (), rfl, (congrArg Prod.fst hG).symm, by show MH D cy o ad _ _ t9.heap; rw [ht9, hG]; exact hI.1⟩, hI.2.F ht9⟩) hI.2.2.2 dX8_deal_50
    · have hG := hG.trans (if_pos c_2)
      refine lv_iconst (v := 1) hx hb dX8_deal_15 (by decide) ?_
      refine lv_goto (tgt := 39) hx hb dX8_deal_16 (by decide) ?_
      refine mr_pt hC hin hL hI k_152 dX8_deal_39 (fun H locs hI => ?_)
      refine lv_aload_n hx hb dX8_deal_42 rfl (lv_at hl 0 rfl) ?_
      refine mr_gt hC hin hI k_152 dX8_deal_43 ?_
      refine lv_if_le (tgt := 51) hx hb dX8_deal_46 (by decide) (fun c => absurd c (by decide : ¬ (1 : Int32) ≤ 0)) (fun _ => ?_)
      refine lv_iconst (v := 0) hx hb dX8_deal_49 (by decide) ?_
      exact W.iret (v := 0) hx hb hr (fun t9 ht9 hW9 => ⟨⟨0, (), rfl, (congrArg Prod.fst hG).symm, by show MH D cy o ad _ _ t9.heap; rw [ht9, hG]; exact hI.1⟩, hI.2.F ht9⟩) hI.2.2.2 dX8_deal_50
set_option maxHeartbeats 4000000 in
set_option maxRecDepth 100000 in
theorem qX8_file (l : Launch) (A : Nat → Prop) (D : va_G) (cy : Nat → ClassId) (o : Nat) (ad : Nat → Nat) (hL : ML A o ad) (S : St) (th : Int32) (hN : MInv S) (t : Int32) (f : Int32) (set : Int32) : MMut l A D cy o ad S th yX8_file wsX8_file ({ frames := 2, cells := 0, slots := 0, locals := 42 } : Room) [.int t, .int f, .int set] (fX8_file S t f set).1 (fX8_file S t f set).2.2 (fX8_file S t f set).2.1 := by
  refine Met.ofW (cc := cX8_file) (maxL := 4) (ret := (some .int)) (by decide) rfl ?_
  intro p e s m args below meth c s₁ B hml hv
  obtain ⟨rfl, hM, hK⟩ := hv
  have hx := B.exec
  have hb := B.bytes
  have hr := B.returns
  have hts := atoms_spec (ws := wsX8_file) B.pre
  have hown : s.vm.findClass RX8 = some m.cls := findClass_of_methodNamed B.named
  have hlocks := B.notSynchronized
  have hC : MC p s m _ c cX8_file 4 D cy wsX8_file := ⟨⟨hx, hb, hml, hown, hts⟩, hK⟩
  have hin : ∀ w ∈ wsX80, w ∈ wsX8_file := fun _ h => List.mem_cons_of_mem _ (List.mem_append_right _ (h))
  have hI : MI A D cy o ad s S th s.heap [] := ⟨hM, va_S.rf⟩
  have hb7 := hN.b7
  have hb15 := hN.b15
  have hb23 := hN.b23
  have hb28 := hN.b28
  have hb42 := hN.b42
  have k_152 := hts (.fieldLink RX8 152 "RelatorsBenchModel" "thrown" "I") (List.mem_cons_of_mem _ (List.mem_append_left _ (List.mem_of_getElem? (i := 3) rfl)))
  have k_172 := hts (.constant RX8 172 (65535)) (List.mem_cons_of_mem _ (List.mem_append_left _ (List.mem_of_getElem? (i := 0) rfl)))
  have k_59 := hts (.fieldLink RX8 59 "RelatorsBenchModel" "learned" "[I") (List.mem_cons_of_mem _ (List.mem_append_left _ (List.mem_of_getElem? (i := 1) rfl)))
  have k_163 := hts (.fieldLink RX8 163 "RelatorsBenchModel" "suits" "I") (List.mem_cons_of_mem _ (List.mem_append_left _ (List.mem_of_getElem? (i := 2) rfl)))
  have k_77 := hts (.fieldLink RX8 77 "RelatorsBenchModel" "teller" "[I") (List.mem_cons_of_mem _ (List.mem_append_left _ (List.mem_of_getElem? (i := 4) rfl)))
  have k_80 := hts (.fieldLink RX8 80 "RelatorsBenchModel" "against" "[I") (List.mem_cons_of_mem _ (List.mem_append_left _ (List.mem_of_getElem? (i := 5) rfl)))
  have k_83 := hts (.fieldLink RX8 83 "RelatorsBenchModel" "firstFacts" "[I") (List.mem_cons_of_mem _ (List.mem_append_left _ (List.mem_of_getElem? (i := 6) rfl)))
  have k_86 := hts (.fieldLink RX8 86 "RelatorsBenchModel" "facts" "[I") (List.mem_cons_of_mem _ (List.mem_append_left _ (List.mem_of_getElem? (i := 7) rfl)))
  have k_89 := hts (.fieldLink RX8 89 "RelatorsBenchModel" "filed" "[I") (List.mem_cons_of_mem _ (List.mem_append_left _ (List.mem_of_getElem? (i := 8) rfl)))
  have k_179 := hts (.fieldLink RX8 179 "RelatorsBenchModel" "today" "I") (List.mem_cons_of_mem _ (List.mem_append_left _ (List.mem_of_getElem? (i := 9) rfl)))
  have k_98 := hts (.fieldLink RX8 98 "RelatorsBenchModel" "opens" "[I") (List.mem_cons_of_mem _ (List.mem_append_left _ (List.mem_of_getElem? (i := 10) rfl)))
  have hl := lv_entry ([.ref o, .int t, .int f, .int set]) (n := 4) (Nat.le_of_ble_eq_true rfl)
  rw [lg_entry_eq]
  generalize (lg_sl ([.ref o, .int t, .int f, .int set]) ++ List.replicate (4 - (lg_sl ([.ref o, .int t, .int f, .int set])).length) Slot.unset).toArray = ls at hl ⊢
  have hl : lv_has ls 4 [(0, .ref o), (1, .int t), (2, .int f), (3, .int set)] := hl
  have hG : fX8_file S t f set = fX8_file S t f set := rfl
  refine lv_aload_n hx hb dX8_file_0 rfl (lv_at hl 0 rfl) ?_
  refine lv_iload_n hx hb dX8_file_1 rfl (lv_at hl 1 rfl) ?_
  refine mr_callS (As := [.int t]) (rest := [.ref o]) hC hI (qX8_isTeller l t) (va_cwS 1 hts gX8_file_X8_isTeller rfl rfl rfl (by decide +kernel) ⟨Nat.le_of_ble_eq_true rfl, Nat.le_of_ble_eq_true rfl⟩) rfl hl.1 rfl (Nat.le_of_ble_eq_true rfl) dX8_file_2 ⟨Nat.zero_le _, Nat.zero_le _⟩ (fun H locs hI => ?_)
  refine lv_if_eq (tgt := 15) hx hb dX8_file_5 (by decide) (fun c_1 => ?_) (fun c_1 => ?_)
  · have hG := hG.trans (if_pos c_1)
    refine lv_iconst (v := 1) hx hb dX8_file_15 (by decide) ?_
    refine lv_goto (tgt := 60) hx hb dX8_file_16 (by decide) ?_
    refine mr_pt hC hin hL hI k_152 dX8_file_60 (fun H locs hI => ?_)
    refine lv_aload_n hx hb dX8_file_63 rfl (lv_at hl 0 rfl) ?_
    refine mr_gt hC hin hI k_152 dX8_file_64 ?_
    refine lv_if_le (tgt := 72) hx hb dX8_file_67 (by decide) (fun c => absurd c (by decide : ¬ (1 : Int32) ≤ 0)) (fun _ => ?_)
    refine lv_iconst (v := 0) hx hb dX8_file_70 (by decide) ?_
    exact W.iret (v := 0) hx hb hr (fun t9 ht9 hW9 => ⟨⟨0, (), rfl, (congrArg Prod.fst hG).symm, by show MH D cy o ad _ _ t9.heap; rw [ht9, hG]; exact hI.1⟩, hI.2.F ht9⟩) hI.2.2.2 dX8_file_71
  · have hG := hG.trans (if_neg c_1)
    refine lv_iload_n hx hb dX8_file_8 rfl (lv_at hl 2 rfl) ?_
    refine mr_callS (As := [.int f]) (rest := [.ref o]) hC hI (qX8_isFirm l f) (va_cwS 1 hts gX8_file_X8_isFirm rfl rfl rfl (by decide +kernel) ⟨Nat.le_of_ble_eq_true rfl, Nat.le_of_ble_eq_true rfl⟩) rfl hl.1 rfl (Nat.le_of_ble_eq_true rfl) dX8_file_9 ⟨Nat.zero_le _, Nat.zero_le _⟩ (fun H locs hI => ?_)
    refine lv_if_ne (tgt := 19) hx hb dX8_file_12 (by decide) (fun c_2 => ?_) (fun c_2 => ?_)
    · have hG := hG.trans (if_neg c_2)
      refine lv_iload_n hx hb dX8_file_19 rfl (lv_at hl 3 rfl) ?_
      refine lv_iconst (v := 1) hx hb dX8_file_20 (by decide) ?_
      refine lv_ldc hx hb hown k_172 dX8_file_21 ?_
      refine mr_callS (As := [.int set, .int 1, .int 65535]) (rest := [.ref o]) hC hI (qX8_in l set 1 65535) (va_cwS 3 hts gX8_file_X8_in rfl rfl rfl (by decide +kernel) ⟨Nat.le_of_ble_eq_true rfl, Nat.le_of_ble_eq_true rfl⟩) rfl hl.1 rfl (Nat.le_of_ble_eq_true rfl) dX8_file_23 ⟨Nat.zero_le _, Nat.zero_le _⟩ (fun H locs hI => ?_)
      refine lv_if_ne (tgt := 33) hx hb dX8_file_26 (by decide) (fun c_3 => ?_) (fun c_3 => ?_)
      · have hG := hG.trans (if_neg c_3)
        refine lv_iload_n hx hb dX8_file_33 rfl (lv_at hl 3 rfl) ?_
        refine lv_aload_n hx hb dX8_file_34 rfl (lv_at hl 0 rfl) ?_
        refine mr_ga hC hin hI 21 (by decide) k_59 dX8_file_35 ?_
        refine lv_iload_n hx hb dX8_file_38 rfl (lv_at hl 1 rfl) ?_
        refine mr_ld hC hI 21 (by decide) (by decide) (isTeller_in (by assumption)) (v := (S 21 (ix t))) rfl dX8_file_39 ?_
        refine lv_iconst (v := (-1)) hx hb dX8_file_40 (by decide) ?_
        refine lv_ixor hx hb dX8_file_41 ?_
        refine lv_iand hx hb dX8_file_42 ?_
        refine lv_if_ne (tgt := 55) hx hb dX8_file_43 (by decide) (fun c_4 => ?_) (fun c_4 => ?_)
        · have hG := hG.trans (if_neg c_4)
          refine lv_iconst (v := 3) hx hb dX8_file_55 (by decide) ?_
          refine lv_goto (tgt := 60) hx hb dX8_file_56 (by decide) ?_
          refine mr_pt hC hin hL hI k_152 dX8_file_60 (fun H locs hI => ?_)
          refine lv_aload_n hx hb dX8_file_63 rfl (lv_at hl 0 rfl) ?_
          refine mr_gt hC hin hI k_152 dX8_file_64 ?_
          refine lv_if_le (tgt := 72) hx hb dX8_file_67 (by decide) (fun c => absurd c (by decide : ¬ (3 : Int32) ≤ 0)) (fun _ => ?_)
          refine lv_iconst (v := 0) hx hb dX8_file_70 (by decide) ?_
          exact W.iret (v := 0) hx hb hr (fun t9 ht9 hW9 => ⟨⟨0, (), rfl, (congrArg Prod.fst hG).symm, by show MH D cy o ad _ _ t9.heap; rw [ht9, hG]; exact hI.1⟩, hI.2.F ht9⟩) hI.2.2.2 dX8_file_71
        · have hG := hG.trans (if_pos c_4)
          refine lv_aload_n hx hb dX8_file_46 rfl (lv_at hl 0 rfl) ?_
          refine mr_gi hC hin hI 28 (by decide) (by decide) (by decide) k_163 (v := (S 28 0)) rfl dX8_file_47 ?_
          refine lv_bipush (v := 12) hx hb dX8_file_50 (by decide) ?_
          refine lv_icmp_ne (tgt := 59) hx hb dX8_file_52 (by decide) (fun c_5 => ?_) (fun c_5 => ?_)
          · have hG := hG.trans (if_neg c_5)
            refine lv_iconst (v := 0) hx hb dX8_file_59 (by decide) ?_
            refine mr_pt hC hin hL hI k_152 dX8_file_60 (fun H locs hI => ?_)
            refine lv_aload_n hx hb dX8_file_63 rfl (lv_at hl 0 rfl) ?_
            refine mr_gt hC hin hI k_152 dX8_file_64 ?_
            refine lv_if_le (tgt := 72) hx hb dX8_file_67 (by decide) (fun _ => ?_) (fun c => absurd (by decide : (0 : Int32) ≤ 0) c)
            refine lv_aload_n hx hb dX8_file_72 rfl (lv_at hl 0 rfl) ?_
            refine mr_ga hC hin hI 29 (by decide) k_77 dX8_file_73 ?_
            refine lv_aload_n hx hb dX8_file_76 rfl (lv_at hl 0 rfl) ?_
            refine mr_gi hC hin hI 28 (by decide) (by decide) (by decide) k_163 (v := (S 28 0)) rfl dX8_file_77 ?_
            refine lv_iload_n hx hb dX8_file_80 rfl (lv_at hl 1 rfl) ?_
            refine mr_st hC hL hI 29 (by decide) (by decide) (cnt_in hN.n28 hN.b28 (by assumption)) (n := (ix (S 28 0))) rfl dX8_file_81 (fun H locs hI => ?_)
            refine lv_aload_n hx hb dX8_file_82 rfl (lv_at hl 0 rfl) ?_
            refine mr_ga hC hin hI 30 (by decide) k_80 dX8_file_83 ?_
            refine lv_aload_n hx hb dX8_file_86 rfl (lv_at hl 0 rfl) ?_
            refine mr_gi hC hin hI 28 (by decide) (by decide) (by decide) k_163 (v := (S 28 0)) (congrFun (up_ne (by decide)) _) dX8_file_87 ?_
            refine lv_iload_n hx hb dX8_file_90 rfl (lv_at hl 2 rfl) ?_
            refine mr_st hC hL hI 30 (by decide) (by decide) (cnt_in hN.n28 hN.b28 (by assumption)) (n := (ix (S 28 0))) rfl dX8_file_91 (fun H locs hI => ?_)
            refine lv_aload_n hx hb dX8_file_92 rfl (lv_at hl 0 rfl) ?_
            refine mr_ga hC hin hI 31 (by decide) k_83 dX8_file_93 ?_
            refine lv_aload_n hx hb dX8_file_96 rfl (lv_at hl 0 rfl) ?_
            refine mr_gi hC hin hI 28 (by decide) (by decide) (by decide) k_163 (v := (S 28 0)) ((congrFun (up_ne (by decide)) _).trans (congrFun (up_ne (by decide)) _)) dX8_file_97 ?_
            refine lv_iload_n hx hb dX8_file_100 rfl (lv_at hl 3 rfl) ?_
            refine mr_st hC hL hI 31 (by decide) (by decide) (cnt_in hN.n28 hN.b28 (by assumption)) (n := (ix (S 28 0))) rfl dX8_file_101 (fun H locs hI => ?_)
            refine lv_aload_n hx hb dX8_file_102 rfl (lv_at hl 0 rfl) ?_
            refine mr_ga hC hin hI 32 (by decide) k_86 dX8_file_103 ?_
            refine lv_aload_n hx hb dX8_file_106 rfl (lv_at hl 0 rfl) ?_
            refine mr_gi hC hin hI 28 (by decide) (by decide) (by decide) k_163 (v := (S 28 0)) ((congrFun (up_ne (by decide)) _).trans ((congrFun (up_ne (by decide)) _).trans (congrFun (up_ne (by decide)) _))) dX8_file_107 ?_
            refine lv_iload_n hx hb dX8_file_110 rfl (lv_at hl 3 rfl) ?_
            refine mr_st hC hL hI 32 (by decide) (by decide) (cnt_in hN.n28 hN.b28 (by assumption)) (n := (ix (S 28 0))) rfl dX8_file_111 (fun H locs hI => ?_)
            refine lv_aload_n hx hb dX8_file_112 rfl (lv_at hl 0 rfl) ?_
            refine mr_ga hC hin hI 33 (by decide) k_89 dX8_file_113 ?_
            refine lv_aload_n hx hb dX8_file_116 rfl (lv_at hl 0 rfl) ?_
            refine mr_gi hC hin hI 28 (by decide) (by decide) (by decide) k_163 (v := (S 28 0)) ((congrFun (up_ne (by decide)) _).trans ((congrFun (up_ne (by decide)) _).trans ((congrFun (up_ne (by decide)) _).trans (congrFun (up_ne (by decide)) _)))) dX8_file_117 ?_
            refine lv_aload_n hx hb dX8_file_120 rfl (lv_at hl 0 rfl) ?_
            refine mr_gi hC hin hI 1 (by decide) (by decide) (by decide) k_179 (v := (S 1 0)) ((congrFun (up_ne (by decide)) _).trans ((congrFun (up_ne (by decide)) _).trans ((congrFun (up_ne (by decide)) _).trans (congrFun (up_ne (by decide)) _)))) dX8_file_121 ?_
            refine mr_st hC hL hI 33 (by decide) (by decide) (cnt_in hN.n28 hN.b28 (by assumption)) (n := (ix (S 28 0))) rfl dX8_file_124 (fun H locs hI => ?_)
            refine lv_aload_n hx hb dX8_file_125 rfl (lv_at hl 0 rfl) ?_
            refine mr_ga hC hin hI 36 (by decide) k_98 dX8_file_126 ?_
            refine lv_aload_n hx hb dX8_file_129 rfl (lv_at hl 0 rfl) ?_
            refine mr_gi hC hin hI 28 (by decide) (by decide) (by decide) k_163 (v := (S 28 0)) ((congrFun (up_ne (by decide)) _).trans ((congrFun (up_ne (by decide)) _).trans ((congrFun (up_ne (by decide)) _).trans ((congrFun (up_ne (by decide)) _).trans (congrFun (up_ne (by decide)) _))))) dX8_file_130 ?_
            refine lv_aload_n hx hb dX8_file_133 rfl (lv_at hl 0 rfl) ?_
            refine mr_gi hC hin hI 1 (by decide) (by decide) (by decide) k_179 (v := (S 1 0)) ((congrFun (up_ne (by decide)) _).trans ((congrFun (up_ne (by decide)) _).trans ((congrFun (up_ne (by decide)) _).trans ((congrFun (up_ne (by decide)) _).trans (congrFun (up_ne (by decide)) _))))) dX8_file_134 ?_
            refine lv_bipush (v := 60) hx hb dX8_file_137 (by decide) ?_
            refine lv_iadd hx hb dX8_file_139 ?_
            refine mr_st hC hL hI 36 (by decide) (by decide) (cnt_in hN.n28 hN.b28 (by assumption)) (n := (ix (S 28 0))) rfl dX8_file_140 (fun H locs hI => ?_)
            refine lv_aload_n hx hb dX8_file_141 rfl (lv_at hl 0 rfl) ?_
            refine lv_dup hx hb dX8_file_142 rfl ?_
            refine mr_gi hC hin hI 28 (by decide) (by decide) (by decide) k_163 (v := (S 28 0)) ((congrFun (up_ne (by decide)) _).trans ((congrFun (up_ne (by decide)) _).trans ((congrFun (up_ne (by decide)) _).trans ((congrFun (up_ne (by decide)) _).trans ((congrFun (up_ne (by decide)) _).trans (congrFun (up_ne (by decide)) _)))))) dX8_file_143 ?_
            refine lv_iconst (v := 1) hx hb dX8_file_146 (by decide) ?_
            refine lv_iadd hx hb dX8_file_147 ?_
            refine mr_pi hC hin hL hI 28 (by decide) (by decide) (by decide) k_163 dX8_file_148 (fun H locs hI => ?_)
            refine lv_aload_n hx hb dX8_file_151 rfl (lv_at hl 0 rfl) ?_
            refine mr_gi hC hin hI 28 (by decide) (by decide) (by decide) k_163 (v := ((S 28 0) + 1)) (up_at _ _ _ _) dX8_file_152 ?_
            refine lv_iconst (v := 1) hx hb dX8_file_155 (by decide) ?_
            refine lv_isub hx hb dX8_file_156 ?_
            exact W.iret (v := (((S 28 0) + 1) - 1)) hx hb hr (fun t9 ht9 hW9 => ⟨⟨(((S 28 0) + 1) - 1), (), rfl, (congrArg Prod.fst hG).symm, by show MH D cy o ad _ _ t9.heap; rw [ht9, hG]; exact hI.1⟩, hI.2.F ht9⟩) hI.2.2.2 dX8_file_157
          · have hG := hG.trans (if_pos c_5)
            refine lv_iconst (v := 3) hx hb dX8_file_55 (by decide) ?_
            refine lv_goto (tgt := 60) hx hb dX8_file_56 (by decide) ?_
            refine mr_pt hC hin hL hI k_152 dX8_file_60 (fun H locs hI => ?_)
            refine lv_aload_n hx hb dX8_file_63 rfl (lv_at hl 0 rfl) ?_
            refine mr_gt hC hin hI k_152 dX8_file_64 ?_
            refine lv_if_le (tgt := 72) hx hb dX8_file_67 (by decide) (fun c => absurd c (by decide : ¬ (3 : Int32) ≤ 0)) (fun _ => ?_)
            refine lv_iconst (v := 0) hx hb dX8_file_70 (by decide) ?_
            exact W.iret (v := 0) hx hb hr (fun t9 ht9 hW9 => ⟨⟨0, (), rfl, (congrArg Prod.fst hG).symm, by show MH D cy o ad _ _ t9.heap; rw [ht9, hG]; exact hI.1⟩, hI.2.F ht9⟩) hI.2.2.2 dX8_file_71
      · have hG := hG.trans (if_pos c_3)
        refine lv_iconst (v := 2) hx hb dX8_file_29 (by decide) ?_
        refine lv_goto (tgt := 60) hx hb dX8_file_30 (by decide) ?_
        refine mr_pt hC hin hL hI k_152 dX8_file_60 (fun H locs hI => ?_)
        refine lv_aload_n hx hb dX8_file_63 rfl (lv_at hl 0 rfl) ?_
        refine mr_gt hC hin hI k_152 dX8_file_64 ?_
        refine lv_if_le (tgt := 72) hx hb dX8_file_67 (by decide) (fun c => absurd c (by decide : ¬ (2 : Int32) ≤ 0)) (fun _ => ?_)
        refine lv_iconst (v := 0) hx hb dX8_file_70 (by decide) ?_
        exact W.iret (v := 0) hx hb hr (fun t9 ht9 hW9 => ⟨⟨0, (), rfl, (congrArg Prod.fst hG).symm, by show MH D cy o ad _ _ t9.heap; rw [ht9, hG]; exact hI.1⟩, hI.2.F ht9⟩) hI.2.2.2 dX8_file_71
    · have hG := hG.trans (if_pos c_2)
      refine lv_iconst (v := 1) hx hb dX8_file_15 (by decide) ?_
      refine lv_goto (tgt := 60) hx hb dX8_file_16 (by decide) ?_
      refine mr_pt hC hin hL hI k_152 dX8_file_60 (fun H locs hI => ?_)
      refine lv_aload_n hx hb dX8_file_63 rfl (lv_at hl 0 rfl) ?_
      refine mr_gt hC hin hI k_152 dX8_file_64 ?_
      refine lv_if_le (tgt := 72) hx hb dX8_file_67 (by decide) (fun c => absurd c (by decide : ¬ (1 : Int32) ≤ 0)) (fun _ => ?_)
      refine lv_iconst (v := 0) hx hb dX8_file_70 (by decide) ?_
      exact W.iret (v := 0) hx hb hr (fun t9 ht9 hW9 => ⟨⟨0, (), rfl, (congrArg Prod.fst hG).symm, by show MH D cy o ad _ _ t9.heap; rw [ht9, hG]; exact hI.1⟩, hI.2.F ht9⟩) hI.2.2.2 dX8_file_71
set_option maxHeartbeats 4000000 in
set_option maxRecDepth 100000 in
theorem qX8_amend (l : Launch) (A : Nat → Prop) (D : va_G) (cy : Nat → ClassId) (o : Nat) (ad : Nat → Nat) (hL : ML A o ad) (S : St) (th : Int32) (hN : MInv S) (k : Int32) (set : Int32) : MMut l A D cy o ad S th yX8_amend wsX8_amend ({ frames := 2, cells := 0, slots := 0, locals := 43 } : Room) [.int k, .int set] (fX8_amend S k set).1 (fX8_amend S k set).2.2 (fX8_amend S k set).2.1 := by
  refine Met.ofW (cc := cX8_amend) (maxL := 3) (ret := (some .int)) (by decide) rfl ?_
  intro p e s m args below meth c s₁ B hml hv
  obtain ⟨rfl, hM, hK⟩ := hv
  have hx := B.exec
  have hb := B.bytes
  have hr := B.returns
  have hts := atoms_spec (ws := wsX8_amend) B.pre
  have hown : s.vm.findClass RX8 = some m.cls := findClass_of_methodNamed B.named
  have hlocks := B.notSynchronized
  have hC : MC p s m _ c cX8_amend 3 D cy wsX8_amend := ⟨⟨hx, hb, hml, hown, hts⟩, hK⟩
  have hin : ∀ w ∈ wsX80, w ∈ wsX8_amend := fun _ h => List.mem_cons_of_mem _ (List.mem_append_right _ (h))
  have hI : MI A D cy o ad s S th s.heap [] := ⟨hM, va_S.rf⟩
  have hb7 := hN.b7
  have hb15 := hN.b15
  have hb23 := hN.b23
  have hb28 := hN.b28
  have hb42 := hN.b42
  have k_172 := hts (.constant RX8 172 (65535)) (List.mem_cons_of_mem _ (List.mem_append_left _ (List.mem_append_left _ (List.mem_of_getElem? (i := 0) rfl))))
  have k_152 := hts (.fieldLink RX8 152 "RelatorsBenchModel" "thrown" "I") (List.mem_cons_of_mem _ (List.mem_append_left _ (List.mem_append_left _ (List.mem_of_getElem? (i := 4) rfl))))
  have k_59 := hts (.fieldLink RX8 59 "RelatorsBenchModel" "learned" "[I") (List.mem_cons_of_mem _ (List.mem_append_left _ (List.mem_append_left _ (List.mem_of_getElem? (i := 1) rfl))))
  have k_77 := hts (.fieldLink RX8 77 "RelatorsBenchModel" "teller" "[I") (List.mem_cons_of_mem _ (List.mem_append_left _ (List.mem_append_left _ (List.mem_of_getElem? (i := 2) rfl))))
  have k_203 := hts (.fieldLink RX8 203 "RelatorsBenchModel" "amendments" "I") (List.mem_cons_of_mem _ (List.mem_append_left _ (List.mem_append_left _ (List.mem_of_getElem? (i := 3) rfl))))
  have k_86 := hts (.fieldLink RX8 86 "RelatorsBenchModel" "facts" "[I") (List.mem_cons_of_mem _ (List.mem_append_left _ (List.mem_append_left _ (List.mem_of_getElem? (i := 5) rfl))))
  have k_116 := hts (.fieldLink RX8 116 "RelatorsBenchModel" "amended" "[I") (List.mem_cons_of_mem _ (List.mem_append_left _ (List.mem_append_left _ (List.mem_of_getElem? (i := 6) rfl))))
  have k_119 := hts (.fieldLink RX8 119 "RelatorsBenchModel" "amendedTo" "[I") (List.mem_cons_of_mem _ (List.mem_append_left _ (List.mem_append_left _ (List.mem_of_getElem? (i := 7) rfl))))
  have k_122 := hts (.fieldLink RX8 122 "RelatorsBenchModel" "amendedOn" "[I") (List.mem_cons_of_mem _ (List.mem_append_left _ (List.mem_append_left _ (List.mem_of_getElem? (i := 8) rfl))))
  have k_179 := hts (.fieldLink RX8 179 "RelatorsBenchModel" "today" "I") (List.mem_cons_of_mem _ (List.mem_append_left _ (List.mem_append_left _ (List.mem_of_getElem? (i := 9) rfl))))
  have hl := lv_entry ([.ref o, .int k, .int set]) (n := 3) (Nat.le_of_ble_eq_true rfl)
  rw [lg_entry_eq]
  generalize (lg_sl ([.ref o, .int k, .int set]) ++ List.replicate (3 - (lg_sl ([.ref o, .int k, .int set])).length) Slot.unset).toArray = ls at hl ⊢
  have hl : lv_has ls 3 [(0, .ref o), (1, .int k), (2, .int set)] := hl
  have hG : fX8_amend S k set = fX8_amend S k set := rfl
  refine lv_aload_n hx hb dX8_amend_0 rfl (lv_at hl 0 rfl) ?_
  refine lv_aload_n hx hb dX8_amend_1 rfl (lv_at hl 0 rfl) ?_
  refine lv_iload_n hx hb dX8_amend_2 rfl (lv_at hl 1 rfl) ?_
  refine mr_call (As := [.int k]) (rest := [.ref o]) hC hI (qX8_isSuit l D cy o ad S th k) (cwV 1 hts gX8_amend_X8_isSuit rfl rfl rfl (by decide +kernel) ⟨Nat.le_of_ble_eq_true rfl, Nat.le_of_ble_eq_true rfl⟩) rfl hl.1 rfl (Nat.le_of_ble_eq_true rfl) dX8_amend_3 ⟨Nat.zero_le _, Nat.zero_le _⟩ (fun H locs hI => ?_)
  refine lv_if_ne (tgt := 13) hx hb dX8_amend_6 (by decide) (fun c_1 => ?_) (fun c_1 => ?_)
  · have hG := hG.trans (if_neg c_1)
    refine lv_iload_n hx hb dX8_amend_13 rfl (lv_at hl 2 rfl) ?_
    refine lv_iconst (v := 1) hx hb dX8_amend_14 (by decide) ?_
    refine lv_ldc hx hb hown k_172 dX8_amend_15 ?_
    refine mr_callS (As := [.int set, .int 1, .int 65535]) (rest := [.ref o]) hC hI (qX8_in l set 1 65535) (va_cwS 3 hts gX8_amend_X8_in rfl rfl rfl (by decide +kernel) ⟨Nat.le_of_ble_eq_true rfl, Nat.le_of_ble_eq_true rfl⟩) rfl hl.1 rfl (Nat.le_of_ble_eq_true rfl) dX8_amend_17 ⟨Nat.zero_le _, Nat.zero_le _⟩ (fun H locs hI => ?_)
    refine lv_if_ne (tgt := 27) hx hb dX8_amend_20 (by decide) (fun c_2 => ?_) (fun c_2 => ?_)
    · have hG := hG.trans (if_neg c_2)
      refine lv_aload_n hx hb dX8_amend_27 rfl (lv_at hl 0 rfl) ?_
      refine lv_iload_n hx hb dX8_amend_28 rfl (lv_at hl 1 rfl) ?_
      refine mr_call (As := [.int k]) (rest := [.ref o]) hC hI (qX8_isOver l D cy o ad S th (ix k) (vp_ixl (isSuit_in hN (by assumption))) (vp_ixe (isSuit_in hN (by assumption)))) (cwV 1 hts gX8_amend_X8_isOver rfl rfl rfl (by decide +kernel) ⟨Nat.le_of_ble_eq_true rfl, Nat.le_of_ble_eq_true rfl⟩) rfl hl.1 rfl (Nat.le_of_ble_eq_true rfl) dX8_amend_29 ⟨Nat.zero_le _, Nat.zero_le _⟩ (fun H locs hI => ?_)
      refine lv_if_ne (tgt := 62) hx hb dX8_amend_32 (by decide) (fun c_3 => ?_) (fun c_3 => ?_)
      · have hG := hG.trans (if_neg c_3)
        refine lv_iconst (v := 3) hx hb dX8_amend_62 (by decide) ?_
        refine lv_goto (tgt := 67) hx hb dX8_amend_63 (by decide) ?_
        refine mr_pt hC hin hL hI k_152 dX8_amend_67 (fun H locs hI => ?_)
        refine lv_aload_n hx hb dX8_amend_70 rfl (lv_at hl 0 rfl) ?_
        refine mr_gt hC hin hI k_152 dX8_amend_71 ?_
        refine lv_if_le (tgt := 79) hx hb dX8_amend_74 (by decide) (fun c => absurd c (by decide : ¬ (3 : Int32) ≤ 0)) (fun _ => ?_)
        refine lv_iconst (v := 0) hx hb dX8_amend_77 (by decide) ?_
        exact W.iret (v := 0) hx hb hr (fun t9 ht9 hW9 => ⟨⟨0, (), rfl, (congrArg Prod.fst hG).symm, by show MH D cy o ad _ _ t9.heap; rw [ht9, hG]; exact hI.1⟩, hI.2.F ht9⟩) hI.2.2.2 dX8_amend_78
      · have hG := hG.trans (if_pos c_3)
        refine lv_iload_n hx hb dX8_amend_35 rfl (lv_at hl 2 rfl) ?_
        refine lv_aload_n hx hb dX8_amend_36 rfl (lv_at hl 0 rfl) ?_
        refine mr_ga hC hin hI 21 (by decide) k_59 dX8_amend_37 ?_
        refine lv_aload_n hx hb dX8_amend_40 rfl (lv_at hl 0 rfl) ?_
        refine mr_ga hC hin hI 29 (by decide) k_77 dX8_amend_41 ?_
        refine lv_iload_n hx hb dX8_amend_44 rfl (lv_at hl 1 rfl) ?_
        refine mr_ld hC hI 29 (by decide) (by decide) (isSuit_in hN (by assumption)) (v := (S 29 (ix k))) rfl dX8_amend_45 ?_
        refine mr_ld hC hI 21 (by decide) (by decide) (hN.v29 (ix k)) (v := (S 21 (ix (S 29 (ix k))))) rfl dX8_amend_46 ?_
        refine lv_iconst (v := (-1)) hx hb dX8_amend_47 (by decide) ?_
        refine lv_ixor hx hb dX8_amend_48 ?_
        refine lv_iand hx hb dX8_amend_49 ?_
        refine lv_if_ne (tgt := 62) hx hb dX8_amend_50 (by decide) (fun c_4 => ?_) (fun c_4 => ?_)
        · have hG := hG.trans (if_neg c_4)
          refine lv_iconst (v := 3) hx hb dX8_amend_62 (by decide) ?_
          refine lv_goto (tgt := 67) hx hb dX8_amend_63 (by decide) ?_
          refine mr_pt hC hin hL hI k_152 dX8_amend_67 (fun H locs hI => ?_)
          refine lv_aload_n hx hb dX8_amend_70 rfl (lv_at hl 0 rfl) ?_
          refine mr_gt hC hin hI k_152 dX8_amend_71 ?_
          refine lv_if_le (tgt := 79) hx hb dX8_amend_74 (by decide) (fun c => absurd c (by decide : ¬ (3 : Int32) ≤ 0)) (fun _ => ?_)
          refine lv_iconst (v := 0) hx hb dX8_amend_77 (by decide) ?_
          exact W.iret (v := 0) hx hb hr (fun t9 ht9 hW9 => ⟨⟨0, (), rfl, (congrArg Prod.fst hG).symm, by show MH D cy o ad _ _ t9.heap; rw [ht9, hG]; exact hI.1⟩, hI.2.F ht9⟩) hI.2.2.2 dX8_amend_78
        · have hG := hG.trans (if_pos c_4)
          refine lv_aload_n hx hb dX8_amend_53 rfl (lv_at hl 0 rfl) ?_
          refine mr_gi hC hin hI 42 (by decide) (by decide) (by decide) k_203 (v := (S 42 0)) rfl dX8_amend_54 ?_
          refine lv_bipush (v := 40) hx hb dX8_amend_57 (by decide) ?_
          refine lv_icmp_ne (tgt := 66) hx hb dX8_amend_59 (by decide) (fun c_5 => ?_) (fun c_5 => ?_)
          · have hG := hG.trans (if_neg c_5)
            refine lv_iconst (v := 0) hx hb dX8_amend_66 (by decide) ?_
            refine mr_pt hC hin hL hI k_152 dX8_amend_67 (fun H locs hI => ?_)
            refine lv_aload_n hx hb dX8_amend_70 rfl (lv_at hl 0 rfl) ?_
            refine mr_gt hC hin hI k_152 dX8_amend_71 ?_
            refine lv_if_le (tgt := 79) hx hb dX8_amend_74 (by decide) (fun _ => ?_) (fun c => absurd (by decide : (0 : Int32) ≤ 0) c)
            refine lv_aload_n hx hb dX8_amend_79 rfl (lv_at hl 0 rfl) ?_
            refine mr_ga hC hin hI 32 (by decide) k_86 dX8_amend_80 ?_
            refine lv_iload_n hx hb dX8_amend_83 rfl (lv_at hl 1 rfl) ?_
            refine lv_dup2_11 hx hb dX8_amend_84 rfl rfl ?_
            refine mr_ld hC hI 32 (by decide) (by decide) (isSuit_in hN (by assumption)) (v := (S 32 (ix k))) rfl dX8_amend_85 ?_
            refine lv_iload_n hx hb dX8_amend_86 rfl (lv_at hl 2 rfl) ?_
            refine lv_ior hx hb dX8_amend_87 ?_
            refine mr_st hC hL hI 32 (by decide) (by decide) (isSuit_in hN (by assumption)) (n := (ix k)) rfl dX8_amend_88 (fun H locs hI => ?_)
            refine lv_aload_n hx hb dX8_amend_89 rfl (lv_at hl 0 rfl) ?_
            refine mr_ga hC hin hI 43 (by decide) k_116 dX8_amend_90 ?_
            refine lv_aload_n hx hb dX8_amend_93 rfl (lv_at hl 0 rfl) ?_
            refine mr_gi hC hin hI 42 (by decide) (by decide) (by decide) k_203 (v := (S 42 0)) (congrFun (up_ne (by decide)) _) dX8_amend_94 ?_
            refine lv_iload_n hx hb dX8_amend_97 rfl (lv_at hl 1 rfl) ?_
            refine mr_st hC hL hI 43 (by decide) (by decide) (cnt_in hN.n42 hN.b42 (by assumption)) (n := (ix (S 42 0))) rfl dX8_amend_98 (fun H locs hI => ?_)
            refine lv_aload_n hx hb dX8_amend_99 rfl (lv_at hl 0 rfl) ?_
            refine mr_ga hC hin hI 44 (by decide) k_119 dX8_amend_100 ?_
            refine lv_aload_n hx hb dX8_amend_103 rfl (lv_at hl 0 rfl) ?_
            refine mr_gi hC hin hI 42 (by decide) (by decide) (by decide) k_203 (v := (S 42 0)) ((congrFun (up_ne (by decide)) _).trans (congrFun (up_ne (by decide)) _)) dX8_amend_104 ?_
            refine lv_aload_n hx hb dX8_amend_107 rfl (lv_at hl 0 rfl) ?_
            refine mr_ga hC hin hI 32 (by decide) k_86 dX8_amend_108 ?_
            refine lv_iload_n hx hb dX8_amend_111 rfl (lv_at hl 1 rfl) ?_
            refine mr_ld hC hI 32 (by decide) (by decide) (isSuit_in hN (by assumption)) (v := ((S 32 (ix k)) ||| set)) ((congrFun (up_ne (by decide)) _).trans (up_at _ _ _ _)) dX8_amend_112 ?_
            refine mr_st hC hL hI 44 (by decide) (by decide) (cnt_in hN.n42 hN.b42 (by assumption)) (n := (ix (S 42 0))) rfl dX8_amend_113 (fun H locs hI => ?_)
            refine lv_aload_n hx hb dX8_amend_114 rfl (lv_at hl 0 rfl) ?_
            refine mr_ga hC hin hI 45 (by decide) k_122 dX8_amend_115 ?_
            refine lv_aload_n hx hb dX8_amend_118 rfl (lv_at hl 0 rfl) ?_
            refine mr_gi hC hin hI 42 (by decide) (by decide) (by decide) k_203 (v := (S 42 0)) ((congrFun (up_ne (by decide)) _).trans ((congrFun (up_ne (by decide)) _).trans (congrFun (up_ne (by decide)) _))) dX8_amend_119 ?_
            refine lv_aload_n hx hb dX8_amend_122 rfl (lv_at hl 0 rfl) ?_
            refine mr_gi hC hin hI 1 (by decide) (by decide) (by decide) k_179 (v := (S 1 0)) ((congrFun (up_ne (by decide)) _).trans ((congrFun (up_ne (by decide)) _).trans (congrFun (up_ne (by decide)) _))) dX8_amend_123 ?_
            refine mr_st hC hL hI 45 (by decide) (by decide) (cnt_in hN.n42 hN.b42 (by assumption)) (n := (ix (S 42 0))) rfl dX8_amend_126 (fun H locs hI => ?_)
            refine lv_aload_n hx hb dX8_amend_127 rfl (lv_at hl 0 rfl) ?_
            refine lv_dup hx hb dX8_amend_128 rfl ?_
            refine mr_gi hC hin hI 42 (by decide) (by decide) (by decide) k_203 (v := (S 42 0)) ((congrFun (up_ne (by decide)) _).trans ((congrFun (up_ne (by decide)) _).trans ((congrFun (up_ne (by decide)) _).trans (congrFun (up_ne (by decide)) _)))) dX8_amend_129 ?_
            refine lv_iconst (v := 1) hx hb dX8_amend_132 (by decide) ?_
            refine lv_iadd hx hb dX8_amend_133 ?_
            refine mr_pi hC hin hL hI 42 (by decide) (by decide) (by decide) k_203 dX8_amend_134 (fun H locs hI => ?_)
            refine lv_aload_n hx hb dX8_amend_137 rfl (lv_at hl 0 rfl) ?_
            refine mr_ga hC hin hI 32 (by decide) k_86 dX8_amend_138 ?_
            refine lv_iload_n hx hb dX8_amend_141 rfl (lv_at hl 1 rfl) ?_
            refine mr_ld hC hI 32 (by decide) (by decide) (isSuit_in hN (by assumption)) (v := ((S 32 (ix k)) ||| set)) ((congrFun (up_ne (by decide)) _).trans ((congrFun (up_ne (by decide)) _).trans ((congrFun (up_ne (by decide)) _).trans ((congrFun (up_ne (by decide)) _).trans (up_at _ _ _ _))))) dX8_amend_142 ?_
            refine mr_callS (As := [.int ((S 32 (ix k)) ||| set)]) (rest := []) hC hI (qX8_bits l ((S 32 (ix k)) ||| set)) (va_cwS 1 hts gX8_amend_X8_bits rfl rfl rfl (by decide +kernel) ⟨Nat.le_of_ble_eq_true rfl, Nat.le_of_ble_eq_true rfl⟩) rfl hl.1 rfl (Nat.le_of_ble_eq_true rfl) dX8_amend_143 ⟨Nat.zero_le _, Nat.zero_le _⟩ (fun H locs hI => ?_)
            exact W.iret (v := (fX8_bits ((S 32 (ix k)) ||| set))) hx hb hr (fun t9 ht9 hW9 => ⟨⟨(fX8_bits ((S 32 (ix k)) ||| set)), (), rfl, (congrArg Prod.fst hG).symm, by show MH D cy o ad _ _ t9.heap; rw [ht9, hG]; exact hI.1⟩, hI.2.F ht9⟩) hI.2.2.2 dX8_amend_146
          · have hG := hG.trans (if_pos c_5)
            refine lv_iconst (v := 3) hx hb dX8_amend_62 (by decide) ?_
            refine lv_goto (tgt := 67) hx hb dX8_amend_63 (by decide) ?_
            refine mr_pt hC hin hL hI k_152 dX8_amend_67 (fun H locs hI => ?_)
            refine lv_aload_n hx hb dX8_amend_70 rfl (lv_at hl 0 rfl) ?_
            refine mr_gt hC hin hI k_152 dX8_amend_71 ?_
            refine lv_if_le (tgt := 79) hx hb dX8_amend_74 (by decide) (fun c => absurd c (by decide : ¬ (3 : Int32) ≤ 0)) (fun _ => ?_)
            refine lv_iconst (v := 0) hx hb dX8_amend_77 (by decide) ?_
            exact W.iret (v := 0) hx hb hr (fun t9 ht9 hW9 => ⟨⟨0, (), rfl, (congrArg Prod.fst hG).symm, by show MH D cy o ad _ _ t9.heap; rw [ht9, hG]; exact hI.1⟩, hI.2.F ht9⟩) hI.2.2.2 dX8_amend_78
    · have hG := hG.trans (if_pos c_2)
      refine lv_iconst (v := 2) hx hb dX8_amend_23 (by decide) ?_
      refine lv_goto (tgt := 67) hx hb dX8_amend_24 (by decide) ?_
      refine mr_pt hC hin hL hI k_152 dX8_amend_67 (fun H locs hI => ?_)
      refine lv_aload_n hx hb dX8_amend_70 rfl (lv_at hl 0 rfl) ?_
      refine mr_gt hC hin hI k_152 dX8_amend_71 ?_
      refine lv_if_le (tgt := 79) hx hb dX8_amend_74 (by decide) (fun c => absurd c (by decide : ¬ (2 : Int32) ≤ 0)) (fun _ => ?_)
      refine lv_iconst (v := 0) hx hb dX8_amend_77 (by decide) ?_
      exact W.iret (v := 0) hx hb hr (fun t9 ht9 hW9 => ⟨⟨0, (), rfl, (congrArg Prod.fst hG).symm, by show MH D cy o ad _ _ t9.heap; rw [ht9, hG]; exact hI.1⟩, hI.2.F ht9⟩) hI.2.2.2 dX8_amend_78
  · have hG := hG.trans (if_pos c_1)
    refine lv_iconst (v := 1) hx hb dX8_amend_9 (by decide) ?_
    refine lv_goto (tgt := 67) hx hb dX8_amend_10 (by decide) ?_
    refine mr_pt hC hin hL hI k_152 dX8_amend_67 (fun H locs hI => ?_)
    refine lv_aload_n hx hb dX8_amend_70 rfl (lv_at hl 0 rfl) ?_
    refine mr_gt hC hin hI k_152 dX8_amend_71 ?_
    refine lv_if_le (tgt := 79) hx hb dX8_amend_74 (by decide) (fun c => absurd c (by decide : ¬ (1 : Int32) ≤ 0)) (fun _ => ?_)
    refine lv_iconst (v := 0) hx hb dX8_amend_77 (by decide) ?_
    exact W.iret (v := 0) hx hb hr (fun t9 ht9 hW9 => ⟨⟨0, (), rfl, (congrArg Prod.fst hG).symm, by show MH D cy o ad _ _ t9.heap; rw [ht9, hG]; exact hI.1⟩, hI.2.F ht9⟩) hI.2.2.2 dX8_amend_78
set_option maxHeartbeats 4000000 in
set_option maxRecDepth 100000 in
theorem qX8_extend (l : Launch) (A : Nat → Prop) (D : va_G) (cy : Nat → ClassId) (o : Nat) (ad : Nat → Nat) (hL : ML A o ad) (S : St) (th : Int32) (hN : MInv S) (k : Int32) : MMut l A D cy o ad S th yX8_extend wsX8_extend ({ frames := 2, cells := 0, slots := 0, locals := 43 } : Room) [.int k] (fX8_extend S k).1 (fX8_extend S k).2.2 (fX8_extend S k).2.1 := by
  refine Met.ofW (cc := cX8_extend) (maxL := 2) (ret := (some .int)) (by decide) rfl ?_
  intro p e s m args below meth c s₁ B hml hv
  obtain ⟨rfl, hM, hK⟩ := hv
  have hx := B.exec
  have hb := B.bytes
  have hr := B.returns
  have hts := atoms_spec (ws := wsX8_extend) B.pre
  have hown : s.vm.findClass RX8 = some m.cls := findClass_of_methodNamed B.named
  have hlocks := B.notSynchronized
  have hC : MC p s m _ c cX8_extend 2 D cy wsX8_extend := ⟨⟨hx, hb, hml, hown, hts⟩, hK⟩
  have hin : ∀ w ∈ wsX80, w ∈ wsX8_extend := fun _ h => List.mem_cons_of_mem _ (List.mem_append_right _ (h))
  have hI : MI A D cy o ad s S th s.heap [] := ⟨hM, va_S.rf⟩
  have hb7 := hN.b7
  have hb15 := hN.b15
  have hb23 := hN.b23
  have hb28 := hN.b28
  have hb42 := hN.b42
  have k_152 := hts (.fieldLink RX8 152 "RelatorsBenchModel" "thrown" "I") (List.mem_cons_of_mem _ (List.mem_append_left _ (List.mem_of_getElem? (i := 1) rfl)))
  have k_101 := hts (.fieldLink RX8 101 "RelatorsBenchModel" "extended" "[I") (List.mem_cons_of_mem _ (List.mem_append_left _ (List.mem_of_getElem? (i := 0) rfl)))
  have k_98 := hts (.fieldLink RX8 98 "RelatorsBenchModel" "opens" "[I") (List.mem_cons_of_mem _ (List.mem_append_left _ (List.mem_of_getElem? (i := 2) rfl)))
  have hl := lv_entry ([.ref o, .int k]) (n := 2) (Nat.le_of_ble_eq_true rfl)
  rw [lg_entry_eq]
  generalize (lg_sl ([.ref o, .int k]) ++ List.replicate (2 - (lg_sl ([.ref o, .int k])).length) Slot.unset).toArray = ls at hl ⊢
  have hl : lv_has ls 2 [(0, .ref o), (1, .int k)] := hl
  have hG : fX8_extend S k = fX8_extend S k := rfl
  refine lv_aload_n hx hb dX8_extend_0 rfl (lv_at hl 0 rfl) ?_
  refine lv_aload_n hx hb dX8_extend_1 rfl (lv_at hl 0 rfl) ?_
  refine lv_iload_n hx hb dX8_extend_2 rfl (lv_at hl 1 rfl) ?_
  refine mr_call (As := [.int k]) (rest := [.ref o]) hC hI (qX8_isSuit l D cy o ad S th k) (cwV 1 hts gX8_extend_X8_isSuit rfl rfl rfl (by decide +kernel) ⟨Nat.le_of_ble_eq_true rfl, Nat.le_of_ble_eq_true rfl⟩) rfl hl.1 rfl (Nat.le_of_ble_eq_true rfl) dX8_extend_3 ⟨Nat.zero_le _, Nat.zero_le _⟩ (fun H locs hI => ?_)
  refine lv_if_ne (tgt := 13) hx hb dX8_extend_6 (by decide) (fun c_1 => ?_) (fun c_1 => ?_)
  · have hG := hG.trans (if_neg c_1)
    refine lv_aload_n hx hb dX8_extend_13 rfl (lv_at hl 0 rfl) ?_
    refine lv_iload_n hx hb dX8_extend_14 rfl (lv_at hl 1 rfl) ?_
    refine mr_call (As := [.int k]) (rest := [.ref o]) hC hI (qX8_isSealed l D cy o ad S th (ix k) (vp_ixl (isSuit_in hN (by assumption))) (vp_ixe (isSuit_in hN (by assumption)))) (cwV 1 hts gX8_extend_X8_isSealed rfl rfl rfl (by decide +kernel) ⟨Nat.le_of_ble_eq_true rfl, Nat.le_of_ble_eq_true rfl⟩) rfl hl.1 rfl (Nat.le_of_ble_eq_true rfl) dX8_extend_15 ⟨Nat.zero_le _, Nat.zero_le _⟩ (fun H locs hI => ?_)
    refine lv_if_eq (tgt := 31) hx hb dX8_extend_18 (by decide) (fun c_2 => ?_) (fun c_2 => ?_)
    · have hG := hG.trans (if_pos c_2)
      refine lv_iconst (v := 2) hx hb dX8_extend_31 (by decide) ?_
      refine lv_goto (tgt := 36) hx hb dX8_extend_32 (by decide) ?_
      refine mr_pt hC hin hL hI k_152 dX8_extend_36 (fun H locs hI => ?_)
      refine lv_aload_n hx hb dX8_extend_39 rfl (lv_at hl 0 rfl) ?_
      refine mr_gt hC hin hI k_152 dX8_extend_40 ?_
      refine lv_if_le (tgt := 48) hx hb dX8_extend_43 (by decide) (fun c => absurd c (by decide : ¬ (2 : Int32) ≤ 0)) (fun _ => ?_)
      refine lv_iconst (v := 0) hx hb dX8_extend_46 (by decide) ?_
      exact W.iret (v := 0) hx hb hr (fun t9 ht9 hW9 => ⟨⟨0, (), rfl, (congrArg Prod.fst hG).symm, by show MH D cy o ad _ _ t9.heap; rw [ht9, hG]; exact hI.1⟩, hI.2.F ht9⟩) hI.2.2.2 dX8_extend_47
    · have hG := hG.trans (if_neg c_2)
      refine lv_aload_n hx hb dX8_extend_21 rfl (lv_at hl 0 rfl) ?_
      refine mr_ga hC hin hI 37 (by decide) k_101 dX8_extend_22 ?_
      refine lv_iload_n hx hb dX8_extend_25 rfl (lv_at hl 1 rfl) ?_
      refine mr_ld hC hI 37 (by decide) (by decide) (isSuit_in hN (by assumption)) (v := (S 37 (ix k))) rfl dX8_extend_26 ?_
      refine lv_iconst (v := 4) hx hb dX8_extend_27 (by decide) ?_
      refine lv_icmp_ne (tgt := 35) hx hb dX8_extend_28 (by decide) (fun c_3 => ?_) (fun c_3 => ?_)
      · have hG := hG.trans (if_neg c_3)
        refine lv_iconst (v := 0) hx hb dX8_extend_35 (by decide) ?_
        refine mr_pt hC hin hL hI k_152 dX8_extend_36 (fun H locs hI => ?_)
        refine lv_aload_n hx hb dX8_extend_39 rfl (lv_at hl 0 rfl) ?_
        refine mr_gt hC hin hI k_152 dX8_extend_40 ?_
        refine lv_if_le (tgt := 48) hx hb dX8_extend_43 (by decide) (fun _ => ?_) (fun c => absurd (by decide : (0 : Int32) ≤ 0) c)
        refine lv_aload_n hx hb dX8_extend_48 rfl (lv_at hl 0 rfl) ?_
        refine mr_ga hC hin hI 37 (by decide) k_101 dX8_extend_49 ?_
        refine lv_iload_n hx hb dX8_extend_52 rfl (lv_at hl 1 rfl) ?_
        refine lv_dup2_11 hx hb dX8_extend_53 rfl rfl ?_
        refine mr_ld hC hI 37 (by decide) (by decide) (isSuit_in hN (by assumption)) (v := (S 37 (ix k))) rfl dX8_extend_54 ?_
        refine lv_iconst (v := 1) hx hb dX8_extend_55 (by decide) ?_
        refine lv_iadd hx hb dX8_extend_56 ?_
        refine mr_st hC hL hI 37 (by decide) (by decide) (isSuit_in hN (by assumption)) (n := (ix k)) rfl dX8_extend_57 (fun H locs hI => ?_)
        refine lv_aload_n hx hb dX8_extend_58 rfl (lv_at hl 0 rfl) ?_
        refine mr_ga hC hin hI 36 (by decide) k_98 dX8_extend_59 ?_
        refine lv_iload_n hx hb dX8_extend_62 rfl (lv_at hl 1 rfl) ?_
        refine lv_dup2_11 hx hb dX8_extend_63 rfl rfl ?_
        refine mr_ld hC hI 36 (by decide) (by decide) (isSuit_in hN (by assumption)) (v := (S 36 (ix k))) (congrFun (up_ne (by decide)) _) dX8_extend_64 ?_
        refine lv_bipush (v := 30) hx hb dX8_extend_65 (by decide) ?_
        refine lv_iadd hx hb dX8_extend_67 ?_
        refine mr_st hC hL hI 36 (by decide) (by decide) (isSuit_in hN (by assumption)) (n := (ix k)) rfl dX8_extend_68 (fun H locs hI => ?_)
        refine lv_aload_n hx hb dX8_extend_69 rfl (lv_at hl 0 rfl) ?_
        refine mr_ga hC hin hI 36 (by decide) k_98 dX8_extend_70 ?_
        refine lv_iload_n hx hb dX8_extend_73 rfl (lv_at hl 1 rfl) ?_
        refine mr_ld hC hI 36 (by decide) (by decide) (isSuit_in hN (by assumption)) (v := ((S 36 (ix k)) + 30)) (up_at _ _ _ _) dX8_extend_74 ?_
        exact W.iret (v := ((S 36 (ix k)) + 30)) hx hb hr (fun t9 ht9 hW9 => ⟨⟨((S 36 (ix k)) + 30), (), rfl, (congrArg Prod.fst hG).symm, by show MH D cy o ad _ _ t9.heap; rw [ht9, hG]; exact hI.1⟩, hI.2.F ht9⟩) hI.2.2.2 dX8_extend_75
      · have hG := hG.trans (if_pos c_3)
        refine lv_iconst (v := 2) hx hb dX8_extend_31 (by decide) ?_
        refine lv_goto (tgt := 36) hx hb dX8_extend_32 (by decide) ?_
        refine mr_pt hC hin hL hI k_152 dX8_extend_36 (fun H locs hI => ?_)
        refine lv_aload_n hx hb dX8_extend_39 rfl (lv_at hl 0 rfl) ?_
        refine mr_gt hC hin hI k_152 dX8_extend_40 ?_
        refine lv_if_le (tgt := 48) hx hb dX8_extend_43 (by decide) (fun c => absurd c (by decide : ¬ (2 : Int32) ≤ 0)) (fun _ => ?_)
        refine lv_iconst (v := 0) hx hb dX8_extend_46 (by decide) ?_
        exact W.iret (v := 0) hx hb hr (fun t9 ht9 hW9 => ⟨⟨0, (), rfl, (congrArg Prod.fst hG).symm, by show MH D cy o ad _ _ t9.heap; rw [ht9, hG]; exact hI.1⟩, hI.2.F ht9⟩) hI.2.2.2 dX8_extend_47
  · have hG := hG.trans (if_pos c_1)
    refine lv_iconst (v := 1) hx hb dX8_extend_9 (by decide) ?_
    refine lv_goto (tgt := 36) hx hb dX8_extend_10 (by decide) ?_
    refine mr_pt hC hin hL hI k_152 dX8_extend_36 (fun H locs hI => ?_)
    refine lv_aload_n hx hb dX8_extend_39 rfl (lv_at hl 0 rfl) ?_
    refine mr_gt hC hin hI k_152 dX8_extend_40 ?_
    refine lv_if_le (tgt := 48) hx hb dX8_extend_43 (by decide) (fun c => absurd c (by decide : ¬ (1 : Int32) ≤ 0)) (fun _ => ?_)
    refine lv_iconst (v := 0) hx hb dX8_extend_46 (by decide) ?_
    exact W.iret (v := 0) hx hb hr (fun t9 ht9 hW9 => ⟨⟨0, (), rfl, (congrArg Prod.fst hG).symm, by show MH D cy o ad _ _ t9.heap; rw [ht9, hG]; exact hI.1⟩, hI.2.F ht9⟩) hI.2.2.2 dX8_extend_47
set_option maxHeartbeats 4000000 in
set_option maxRecDepth 100000 in
theorem qX8_choose (l : Launch) (A : Nat → Prop) (D : va_G) (cy : Nat → ClassId) (o : Nat) (ad : Nat → Nat) (hL : ML A o ad) (S : St) (th : Int32) (hN : MInv S) (k : Int32) (what : Int32) : MMut l A D cy o ad S th yX8_choose wsX8_choose ({ frames := 2, cells := 0, slots := 0, locals := 43 } : Room) [.int k, .int what] (fX8_choose S k what).1 (fX8_choose S k what).2.2 (fX8_choose S k what).2.1 := by
  refine Met.ofW (cc := cX8_choose) (maxL := 4) (ret := (some .int)) (by decide) rfl ?_
  intro p e s m args below meth c s₁ B hml hv
  obtain ⟨rfl, hM, hK⟩ := hv
  have hx := B.exec
  have hb := B.bytes
  have hr := B.returns
  have hts := atoms_spec (ws := wsX8_choose) B.pre
  have hown : s.vm.findClass RX8 = some m.cls := findClass_of_methodNamed B.named
  have hlocks := B.notSynchronized
  have hC : MC p s m _ c cX8_choose 4 D cy wsX8_choose := ⟨⟨hx, hb, hml, hown, hts⟩, hK⟩
  have hin : ∀ w ∈ wsX80, w ∈ wsX8_choose := fun _ h => List.mem_cons_of_mem _ (List.mem_append_right _ (h))
  have hI : MI A D cy o ad s S th s.heap [] := ⟨hM, va_S.rf⟩
  have hb7 := hN.b7
  have hb15 := hN.b15
  have hb23 := hN.b23
  have hb28 := hN.b28
  have hb42 := hN.b42
  have k_152 := hts (.fieldLink RX8 152 "RelatorsBenchModel" "thrown" "I") (List.mem_cons_of_mem _ (List.mem_append_left _ (List.mem_of_getElem? (i := 1) rfl)))
  have k_92 := hts (.fieldLink RX8 92 "RelatorsBenchModel" "how" "[I") (List.mem_cons_of_mem _ (List.mem_append_left _ (List.mem_of_getElem? (i := 0) rfl)))
  have k_95 := hts (.fieldLink RX8 95 "RelatorsBenchModel" "wasJoined" "[Z") (List.mem_cons_of_mem _ (List.mem_append_left _ (List.mem_of_getElem? (i := 2) rfl)))
  have k_98 := hts (.fieldLink RX8 98 "RelatorsBenchModel" "opens" "[I") (List.mem_cons_of_mem _ (List.mem_append_left _ (List.mem_of_getElem? (i := 3) rfl)))
  have k_179 := hts (.fieldLink RX8 179 "RelatorsBenchModel" "today" "I") (List.mem_cons_of_mem _ (List.mem_append_left _ (List.mem_of_getElem? (i := 4) rfl)))
  have hl := lv_entry ([.ref o, .int k, .int what]) (n := 4) (Nat.le_of_ble_eq_true rfl)
  rw [lg_entry_eq]
  generalize (lg_sl ([.ref o, .int k, .int what]) ++ List.replicate (4 - (lg_sl ([.ref o, .int k, .int what])).length) Slot.unset).toArray = ls at hl ⊢
  have hl : lv_has ls 4 [(0, .ref o), (1, .int k), (2, .int what)] := hl
  have hG : fX8_choose S k what = fX8_choose S k what := rfl
  refine lv_aload_n hx hb dX8_choose_0 rfl (lv_at hl 0 rfl) ?_
  refine lv_aload_n hx hb dX8_choose_1 rfl (lv_at hl 0 rfl) ?_
  refine lv_iload_n hx hb dX8_choose_2 rfl (lv_at hl 1 rfl) ?_
  refine mr_call (As := [.int k]) (rest := [.ref o]) hC hI (qX8_isSuit l D cy o ad S th k) (cwV 1 hts gX8_choose_X8_isSuit rfl rfl rfl (by decide +kernel) ⟨Nat.le_of_ble_eq_true rfl, Nat.le_of_ble_eq_true rfl⟩) rfl hl.1 rfl (Nat.le_of_ble_eq_true rfl) dX8_choose_3 ⟨Nat.zero_le _, Nat.zero_le _⟩ (fun H locs hI => ?_)
  refine lv_if_ne (tgt := 13) hx hb dX8_choose_6 (by decide) (fun c_1 => ?_) (fun c_1 => ?_)
  · have hG := hG.trans (if_neg c_1)
    refine lv_iload_n hx hb dX8_choose_13 rfl (lv_at hl 2 rfl) ?_
    refine lv_iconst (v := 1) hx hb dX8_choose_14 (by decide) ?_
    refine lv_iconst (v := 3) hx hb dX8_choose_15 (by decide) ?_
    refine mr_callS (As := [.int what, .int 1, .int 3]) (rest := [.ref o]) hC hI (qX8_in l what 1 3) (va_cwS 3 hts gX8_choose_X8_in rfl rfl rfl (by decide +kernel) ⟨Nat.le_of_ble_eq_true rfl, Nat.le_of_ble_eq_true rfl⟩) rfl hl.1 rfl (Nat.le_of_ble_eq_true rfl) dX8_choose_16 ⟨Nat.zero_le _, Nat.zero_le _⟩ (fun H locs hI => ?_)
    refine lv_if_ne (tgt := 26) hx hb dX8_choose_19 (by decide) (fun c_2 => ?_) (fun c_2 => ?_)
    · have hG := hG.trans (if_neg c_2)
      refine lv_aload_n hx hb dX8_choose_26 rfl (lv_at hl 0 rfl) ?_
      refine lv_iload_n hx hb dX8_choose_27 rfl (lv_at hl 1 rfl) ?_
      refine mr_call (As := [.int k]) (rest := [.ref o]) hC hI (qX8_isOver l D cy o ad S th (ix k) (vp_ixl (isSuit_in hN (by assumption))) (vp_ixe (isSuit_in hN (by assumption)))) (cwV 1 hts gX8_choose_X8_isOver rfl rfl rfl (by decide +kernel) ⟨Nat.le_of_ble_eq_true rfl, Nat.le_of_ble_eq_true rfl⟩) rfl hl.1 rfl (Nat.le_of_ble_eq_true rfl) dX8_choose_28 ⟨Nat.zero_le _, Nat.zero_le _⟩ (fun H locs hI => ?_)
      refine lv_if_ne (tgt := 49) hx hb dX8_choose_31 (by decide) (fun c_3 => ?_) (fun c_3 => ?_)
      · have hG := hG.trans (if_neg c_3)
        refine lv_iconst (v := 3) hx hb dX8_choose_49 (by decide) ?_
        refine lv_goto (tgt := 54) hx hb dX8_choose_50 (by decide) ?_
        refine mr_pt hC hin hL hI k_152 dX8_choose_54 (fun H locs hI => ?_)
        refine lv_aload_n hx hb dX8_choose_57 rfl (lv_at hl 0 rfl) ?_
        refine mr_gt hC hin hI k_152 dX8_choose_58 ?_
        refine lv_if_le (tgt := 66) hx hb dX8_choose_61 (by decide) (fun c => absurd c (by decide : ¬ (3 : Int32) ≤ 0)) (fun _ => ?_)
        refine lv_iconst (v := 0) hx hb dX8_choose_64 (by decide) ?_
        exact W.iret (v := 0) hx hb hr (fun t9 ht9 hW9 => ⟨⟨0, (), rfl, (congrArg Prod.fst hG).symm, by show MH D cy o ad _ _ t9.heap; rw [ht9, hG]; exact hI.1⟩, hI.2.F ht9⟩) hI.2.2.2 dX8_choose_65
      · have hG := hG.trans (if_pos c_3)
        refine lv_iload_n hx hb dX8_choose_34 rfl (lv_at hl 2 rfl) ?_
        refine lv_iconst (v := 2) hx hb dX8_choose_35 (by decide) ?_
        refine lv_icmp_ne (tgt := 53) hx hb dX8_choose_36 (by decide) (fun c_4 => ?_) (fun c_4 => ?_)
        · have hG := hG.trans (if_neg c_4)
          refine lv_iconst (v := 0) hx hb dX8_choose_53 (by decide) ?_
          refine mr_pt hC hin hL hI k_152 dX8_choose_54 (fun H locs hI => ?_)
          refine lv_aload_n hx hb dX8_choose_57 rfl (lv_at hl 0 rfl) ?_
          refine mr_gt hC hin hI k_152 dX8_choose_58 ?_
          refine lv_if_le (tgt := 66) hx hb dX8_choose_61 (by decide) (fun _ => ?_) (fun c => absurd (by decide : (0 : Int32) ≤ 0) c)
          refine lv_aload_n hx hb dX8_choose_66 rfl (lv_at hl 0 rfl) ?_
          refine mr_ga hC hin hI 34 (by decide) k_92 dX8_choose_67 ?_
          refine lv_iload_n hx hb dX8_choose_70 rfl (lv_at hl 1 rfl) ?_
          refine mr_ld hC hI 34 (by decide) (by decide) (isSuit_in hN (by assumption)) (v := (S 34 (ix k))) rfl dX8_choose_71 ?_
          refine lv_istore_n (lv' := [(3, .int (S 34 (ix k))), (0, .ref o), (1, .int k), (2, .int what)]) hx hb dX8_choose_72 rfl hl (by decide) rfl (fun ls hl => ?_)
          refine lv_aload_n hx hb dX8_choose_73 rfl (lv_at hl 1 rfl) ?_
          refine mr_ga hC hin hI 34 (by decide) k_92 dX8_choose_74 ?_
          refine lv_iload_n hx hb dX8_choose_77 rfl (lv_at hl 2 rfl) ?_
          refine lv_iload_n hx hb dX8_choose_78 rfl (lv_at hl 3 rfl) ?_
          refine mr_st hC hL hI 34 (by decide) (by decide) (isSuit_in hN (by assumption)) (n := (ix k)) rfl dX8_choose_79 (fun H locs hI => ?_)
          refine lv_aload_n hx hb dX8_choose_80 rfl (lv_at hl 1 rfl) ?_
          refine mr_ga hC hin hI 35 (by decide) k_95 dX8_choose_81 ?_
          refine lv_iload_n hx hb dX8_choose_84 rfl (lv_at hl 2 rfl) ?_
          refine lv_aload_n hx hb dX8_choose_85 rfl (lv_at hl 1 rfl) ?_
          refine mr_ga hC hin hI 35 (by decide) k_95 dX8_choose_86 ?_
          refine lv_iload_n hx hb dX8_choose_89 rfl (lv_at hl 2 rfl) ?_
          refine mr_ldz hC hI 35 (by decide) (by decide) (isSuit_in hN (by assumption)) (v := (S 35 (ix k))) (congrFun (up_ne (by decide)) _) dX8_choose_90 ?_
          refine lv_if_ne (tgt := 99) hx hb dX8_choose_91 (by decide) (fun c_5 => ?_) (fun c_5 => ?_)
          · have hG := hG.trans (if_neg c_5)
            refine lv_iconst (v := 1) hx hb dX8_choose_99 (by decide) ?_
            refine lv_goto (tgt := 104) hx hb dX8_choose_100 (by decide) ?_
            refine mr_stz hC hL hI 35 (by decide) (by decide) (isSuit_in hN (by assumption)) (n := (ix k)) rfl (by decide) dX8_choose_104 (fun H locs hI => ?_)
            refine lv_aload_n hx hb dX8_choose_105 rfl (lv_at hl 1 rfl) ?_
            refine mr_ga hC hin hI 36 (by decide) k_98 dX8_choose_106 ?_
            refine lv_iload_n hx hb dX8_choose_109 rfl (lv_at hl 2 rfl) ?_
            refine lv_aload_n hx hb dX8_choose_110 rfl (lv_at hl 1 rfl) ?_
            refine lv_iload_n hx hb dX8_choose_111 rfl (lv_at hl 2 rfl) ?_
            refine mr_call (As := [.int k]) (rest := [.int k, .ref (ad 36)]) hC hI (qX8_isSealed l D cy o ad (up (up S 34 (ix k) what) 35 (ix k) 1) 0 (ix k) (vp_ixl (isSuit_in hN (by assumption))) (vp_ixe (isSuit_in hN (by assumption)))) (cwV 1 hts gX8_choose_X8_isSealed rfl rfl rfl (by decide +kernel) ⟨Nat.le_of_ble_eq_true rfl, Nat.le_of_ble_eq_true rfl⟩) rfl hl.1 rfl (Nat.le_of_ble_eq_true rfl) dX8_choose_112 ⟨Nat.zero_le _, Nat.zero_le _⟩ (fun H locs hI => ?_)
            refine lv_if_eq (tgt := 125) hx hb dX8_choose_115 (by decide) (fun c_6 => ?_) (fun c_6 => ?_)
            · have hG := hG.trans (if_pos c_6)
              refine lv_aload_n hx hb dX8_choose_125 rfl (lv_at hl 1 rfl) ?_
              refine mr_ga hC hin hI 36 (by decide) k_98 dX8_choose_126 ?_
              refine lv_iload_n hx hb dX8_choose_129 rfl (lv_at hl 2 rfl) ?_
              refine mr_ld hC hI 36 (by decide) (by decide) (isSuit_in hN (by assumption)) (v := (S 36 (ix k))) ((congrFun (up_ne (by decide)) _).trans (congrFun (up_ne (by decide)) _)) dX8_choose_130 ?_
              refine mr_st hC hL hI 36 (by decide) (by decide) (isSuit_in hN (by assumption)) (n := (ix k)) rfl dX8_choose_131 (fun H locs hI => ?_)
              refine lv_iload_n hx hb dX8_choose_132 rfl (lv_at hl 0 rfl) ?_
              exact W.iret (v := (S 34 (ix k))) hx hb hr (fun t9 ht9 hW9 => ⟨⟨S 34 (ix k), (), rfl, (congrArg Prod.fst hG).symm, by show MH D cy o ad _ _ t9.heap; rw [ht9, hG]; exact hI.1⟩, hI.2.F ht9⟩) hI.2.2.2 dX8_choose_133
            · have hG := hG.trans (if_neg c_6)
              refine lv_aload_n hx hb dX8_choose_118 rfl (lv_at hl 1 rfl) ?_
              refine mr_gi hC hin hI 1 (by decide) (by decide) (by decide) k_179 (v := (S 1 0)) ((congrFun (up_ne (by decide)) _).trans (congrFun (up_ne (by decide)) _)) dX8_choose_119 ?_
              refine lv_goto (tgt := 131) hx hb dX8_choose_122 (by decide) ?_
              refine mr_st hC hL hI 36 (by decide) (by decide) (isSuit_in hN (by assumption)) (n := (ix k)) rfl dX8_choose_131 (fun H locs hI => ?_)
              refine lv_iload_n hx hb dX8_choose_132 rfl (lv_at hl 0 rfl) ?_
              exact W.iret (v := (S 34 (ix k))) hx hb hr (fun t9 ht9 hW9 => ⟨⟨S 34 (ix k), (), rfl, (congrArg Prod.fst hG).symm, by show MH D cy o ad _ _ t9.heap; rw [ht9, hG]; exact hI.1⟩, hI.2.F ht9⟩) hI.2.2.2 dX8_choose_133
          · have hG := hG.trans (if_pos c_5)
            refine lv_iload_n hx hb dX8_choose_94 rfl (lv_at hl 3 rfl) ?_
            refine lv_iconst (v := 1) hx hb dX8_choose_95 (by decide) ?_
            refine lv_icmp_ne (tgt := 103) hx hb dX8_choose_96 (by decide) (fun c_7 => ?_) (fun c_7 => ?_)
            · have hG := hG.trans (if_neg c_7)
              refine lv_iconst (v := 0) hx hb dX8_choose_103 (by decide) ?_
              refine mr_stz hC hL hI 35 (by decide) (by decide) (isSuit_in hN (by assumption)) (n := (ix k)) rfl (by decide) dX8_choose_104 (fun H locs hI => ?_)
              refine lv_aload_n hx hb dX8_choose_105 rfl (lv_at hl 1 rfl) ?_
              refine mr_ga hC hin hI 36 (by decide) k_98 dX8_choose_106 ?_
              refine lv_iload_n hx hb dX8_choose_109 rfl (lv_at hl 2 rfl) ?_
              refine lv_aload_n hx hb dX8_choose_110 rfl (lv_at hl 1 rfl) ?_
              refine lv_iload_n hx hb dX8_choose_111 rfl (lv_at hl 2 rfl) ?_
              refine mr_call (As := [.int k]) (rest := [.int k, .ref (ad 36)]) hC hI (qX8_isSealed l D cy o ad (up (up S 34 (ix k) what) 35 (ix k) 0) 0 (ix k) (vp_ixl (isSuit_in hN (by assumption))) (vp_ixe (isSuit_in hN (by assumption)))) (cwV 1 hts gX8_choose_X8_isSealed rfl rfl rfl (by decide +kernel) ⟨Nat.le_of_ble_eq_true rfl, Nat.le_of_ble_eq_true rfl⟩) rfl hl.1 rfl (Nat.le_of_ble_eq_true rfl) dX8_choose_112 ⟨Nat.zero_le _, Nat.zero_le _⟩ (fun H locs hI => ?_)
              refine lv_if_eq (tgt := 125) hx hb dX8_choose_115 (by decide) (fun c_8 => ?_) (fun c_8 => ?_)
              · have hG := hG.trans (if_pos c_8)
                refine lv_aload_n hx hb dX8_choose_125 rfl (lv_at hl 1 rfl) ?_
                refine mr_ga hC hin hI 36 (by decide) k_98 dX8_choose_126 ?_
                refine lv_iload_n hx hb dX8_choose_129 rfl (lv_at hl 2 rfl) ?_
                refine mr_ld hC hI 36 (by decide) (by decide) (isSuit_in hN (by assumption)) (v := (S 36 (ix k))) ((congrFun (up_ne (by decide)) _).trans (congrFun (up_ne (by decide)) _)) dX8_choose_130 ?_
                refine mr_st hC hL hI 36 (by decide) (by decide) (isSuit_in hN (by assumption)) (n := (ix k)) rfl dX8_choose_131 (fun H locs hI => ?_)
                refine lv_iload_n hx hb dX8_choose_132 rfl (lv_at hl 0 rfl) ?_
                exact W.iret (v := (S 34 (ix k))) hx hb hr (fun t9 ht9 hW9 => ⟨⟨S 34 (ix k), (), rfl, (congrArg Prod.fst hG).symm, by show MH D cy o ad _ _ t9.heap; rw [ht9, hG]; exact hI.1⟩, hI.2.F ht9⟩) hI.2.2.2 dX8_choose_133
              · have hG := hG.trans (if_neg c_8)
                refine lv_aload_n hx hb dX8_choose_118 rfl (lv_at hl 1 rfl) ?_
                refine mr_gi hC hin hI 1 (by decide) (by decide) (by decide) k_179 (v := (S 1 0)) ((congrFun (up_ne (by decide)) _).trans (congrFun (up_ne (by decide)) _)) dX8_choose_119 ?_
                refine lv_goto (tgt := 131) hx hb dX8_choose_122 (by decide) ?_
                refine mr_st hC hL hI 36 (by decide) (by decide) (isSuit_in hN (by assumption)) (n := (ix k)) rfl dX8_choose_131 (fun H locs hI => ?_)
                refine lv_iload_n hx hb dX8_choose_132 rfl (lv_at hl 0 rfl) ?_
                exact W.iret (v := (S 34 (ix k))) hx hb hr (fun t9 ht9 hW9 => ⟨⟨S 34 (ix k), (), rfl, (congrArg Prod.fst hG).symm, by show MH D cy o ad _ _ t9.heap; rw [ht9, hG]; exact hI.1⟩, hI.2.F ht9⟩) hI.2.2.2 dX8_choose_133
            · have hG := hG.trans (if_pos c_7)
              refine lv_iconst (v := 1) hx hb dX8_choose_99 (by decide) ?_
              refine lv_goto (tgt := 104) hx hb dX8_choose_100 (by decide) ?_
              refine mr_stz hC hL hI 35 (by decide) (by decide) (isSuit_in hN (by assumption)) (n := (ix k)) rfl (by decide) dX8_choose_104 (fun H locs hI => ?_)
              refine lv_aload_n hx hb dX8_choose_105 rfl (lv_at hl 1 rfl) ?_
              refine mr_ga hC hin hI 36 (by decide) k_98 dX8_choose_106 ?_
              refine lv_iload_n hx hb dX8_choose_109 rfl (lv_at hl 2 rfl) ?_
              refine lv_aload_n hx hb dX8_choose_110 rfl (lv_at hl 1 rfl) ?_
              refine lv_iload_n hx hb dX8_choose_111 rfl (lv_at hl 2 rfl) ?_
              refine mr_call (As := [.int k]) (rest := [.int k, .ref (ad 36)]) hC hI (qX8_isSealed l D cy o ad (up (up S 34 (ix k) what) 35 (ix k) 1) 0 (ix k) (vp_ixl (isSuit_in hN (by assumption))) (vp_ixe (isSuit_in hN (by assumption)))) (cwV 1 hts gX8_choose_X8_isSealed rfl rfl rfl (by decide +kernel) ⟨Nat.le_of_ble_eq_true rfl, Nat.le_of_ble_eq_true rfl⟩) rfl hl.1 rfl (Nat.le_of_ble_eq_true rfl) dX8_choose_112 ⟨Nat.zero_le _, Nat.zero_le _⟩ (fun H locs hI => ?_)
              refine lv_if_eq (tgt := 125) hx hb dX8_choose_115 (by decide) (fun c_9 => ?_) (fun c_9 => ?_)
              · have hG := hG.trans (if_pos c_9)
                refine lv_aload_n hx hb dX8_choose_125 rfl (lv_at hl 1 rfl) ?_
                refine mr_ga hC hin hI 36 (by decide) k_98 dX8_choose_126 ?_
                refine lv_iload_n hx hb dX8_choose_129 rfl (lv_at hl 2 rfl) ?_
                refine mr_ld hC hI 36 (by decide) (by decide) (isSuit_in hN (by assumption)) (v := (S 36 (ix k))) ((congrFun (up_ne (by decide)) _).trans (congrFun (up_ne (by decide)) _)) dX8_choose_130 ?_
                refine mr_st hC hL hI 36 (by decide) (by decide) (isSuit_in hN (by assumption)) (n := (ix k)) rfl dX8_choose_131 (fun H locs hI => ?_)
                refine lv_iload_n hx hb dX8_choose_132 rfl (lv_at hl 0 rfl) ?_
                exact W.iret (v := (S 34 (ix k))) hx hb hr (fun t9 ht9 hW9 => ⟨⟨S 34 (ix k), (), rfl, (congrArg Prod.fst hG).symm, by show MH D cy o ad _ _ t9.heap; rw [ht9, hG]; exact hI.1⟩, hI.2.F ht9⟩) hI.2.2.2 dX8_choose_133
              · have hG := hG.trans (if_neg c_9)
                refine lv_aload_n hx hb dX8_choose_118 rfl (lv_at hl 1 rfl) ?_
                refine mr_gi hC hin hI 1 (by decide) (by decide) (by decide) k_179 (v := (S 1 0)) ((congrFun (up_ne (by decide)) _).trans (congrFun (up_ne (by decide)) _)) dX8_choose_119 ?_
                refine lv_goto (tgt := 131) hx hb dX8_choose_122 (by decide) ?_
                refine mr_st hC hL hI 36 (by decide) (by decide) (isSuit_in hN (by assumption)) (n := (ix k)) rfl dX8_choose_131 (fun H locs hI => ?_)
                refine lv_iload_n hx hb dX8_choose_132 rfl (lv_at hl 0 rfl) ?_
                exact W.iret (v := (S 34 (ix k))) hx hb hr (fun t9 ht9 hW9 => ⟨⟨S 34 (ix k), (), rfl, (congrArg Prod.fst hG).symm, by show MH D cy o ad _ _ t9.heap; rw [ht9, hG]; exact hI.1⟩, hI.2.F ht9⟩) hI.2.2.2 dX8_choose_133
        · have hG := hG.trans (if_pos c_4)
          refine lv_aload_n hx hb dX8_choose_39 rfl (lv_at hl 0 rfl) ?_
          refine mr_ga hC hin hI 34 (by decide) k_92 dX8_choose_40 ?_
          refine lv_iload_n hx hb dX8_choose_43 rfl (lv_at hl 1 rfl) ?_
          refine mr_ld hC hI 34 (by decide) (by decide) (isSuit_in hN (by assumption)) (v := (S 34 (ix k))) rfl dX8_choose_44 ?_
          refine lv_iconst (v := 1) hx hb dX8_choose_45 (by decide) ?_
          refine lv_icmp_ne (tgt := 53) hx hb dX8_choose_46 (by decide) (fun c_10 => ?_) (fun c_10 => ?_)
          · have hG := hG.trans (if_neg c_10)
            refine lv_iconst (v := 0) hx hb dX8_choose_53 (by decide) ?_
            refine mr_pt hC hin hL hI k_152 dX8_choose_54 (fun H locs hI => ?_)
            refine lv_aload_n hx hb dX8_choose_57 rfl (lv_at hl 0 rfl) ?_
            refine mr_gt hC hin hI k_152 dX8_choose_58 ?_
            refine lv_if_le (tgt := 66) hx hb dX8_choose_61 (by decide) (fun _ => ?_) (fun c => absurd (by decide : (0 : Int32) ≤ 0) c)
            refine lv_aload_n hx hb dX8_choose_66 rfl (lv_at hl 0 rfl) ?_
            refine mr_ga hC hin hI 34 (by decide) k_92 dX8_choose_67 ?_
            refine lv_iload_n hx hb dX8_choose_70 rfl (lv_at hl 1 rfl) ?_
            refine mr_ld hC hI 34 (by decide) (by decide) (isSuit_in hN (by assumption)) (v := (S 34 (ix k))) rfl dX8_choose_71 ?_
            refine lv_istore_n (lv' := [(3, .int (S 34 (ix k))), (0, .ref o), (1, .int k), (2, .int what)]) hx hb dX8_choose_72 rfl hl (by decide) rfl (fun ls hl => ?_)
            refine lv_aload_n hx hb dX8_choose_73 rfl (lv_at hl 1 rfl) ?_
            refine mr_ga hC hin hI 34 (by decide) k_92 dX8_choose_74 ?_
            refine lv_iload_n hx hb dX8_choose_77 rfl (lv_at hl 2 rfl) ?_
            refine lv_iload_n hx hb dX8_choose_78 rfl (lv_at hl 3 rfl) ?_
            refine mr_st hC hL hI 34 (by decide) (by decide) (isSuit_in hN (by assumption)) (n := (ix k)) rfl dX8_choose_79 (fun H locs hI => ?_)
            refine lv_aload_n hx hb dX8_choose_80 rfl (lv_at hl 1 rfl) ?_
            refine mr_ga hC hin hI 35 (by decide) k_95 dX8_choose_81 ?_
            refine lv_iload_n hx hb dX8_choose_84 rfl (lv_at hl 2 rfl) ?_
            refine lv_aload_n hx hb dX8_choose_85 rfl (lv_at hl 1 rfl) ?_
            refine mr_ga hC hin hI 35 (by decide) k_95 dX8_choose_86 ?_
            refine lv_iload_n hx hb dX8_choose_89 rfl (lv_at hl 2 rfl) ?_
            refine mr_ldz hC hI 35 (by decide) (by decide) (isSuit_in hN (by assumption)) (v := (S 35 (ix k))) (congrFun (up_ne (by decide)) _) dX8_choose_90 ?_
            refine lv_if_ne (tgt := 99) hx hb dX8_choose_91 (by decide) (fun c_11 => ?_) (fun c_11 => ?_)
            · have hG := hG.trans (if_neg c_11)
              refine lv_iconst (v := 1) hx hb dX8_choose_99 (by decide) ?_
              refine lv_goto (tgt := 104) hx hb dX8_choose_100 (by decide) ?_
              refine mr_stz hC hL hI 35 (by decide) (by decide) (isSuit_in hN (by assumption)) (n := (ix k)) rfl (by decide) dX8_choose_104 (fun H locs hI => ?_)
              refine lv_aload_n hx hb dX8_choose_105 rfl (lv_at hl 1 rfl) ?_
              refine mr_ga hC hin hI 36 (by decide) k_98 dX8_choose_106 ?_
              refine lv_iload_n hx hb dX8_choose_109 rfl (lv_at hl 2 rfl) ?_
              refine lv_aload_n hx hb dX8_choose_110 rfl (lv_at hl 1 rfl) ?_
              refine lv_iload_n hx hb dX8_choose_111 rfl (lv_at hl 2 rfl) ?_
              refine mr_call (As := [.int k]) (rest := [.int k, .ref (ad 36)]) hC hI (qX8_isSealed l D cy o ad (up (up S 34 (ix k) what) 35 (ix k) 1) 0 (ix k) (vp_ixl (isSuit_in hN (by assumption))) (vp_ixe (isSuit_in hN (by assumption)))) (cwV 1 hts gX8_choose_X8_isSealed rfl rfl rfl (by decide +kernel) ⟨Nat.le_of_ble_eq_true rfl, Nat.le_of_ble_eq_true rfl⟩) rfl hl.1 rfl (Nat.le_of_ble_eq_true rfl) dX8_choose_112 ⟨Nat.zero_le _, Nat.zero_le _⟩ (fun H locs hI => ?_)
              refine lv_if_eq (tgt := 125) hx hb dX8_choose_115 (by decide) (fun c_12 => ?_) (fun c_12 => ?_)
              · have hG := hG.trans (if_pos c_12)
                refine lv_aload_n hx hb dX8_choose_125 rfl (lv_at hl 1 rfl) ?_
                refine mr_ga hC hin hI 36 (by decide) k_98 dX8_choose_126 ?_
                refine lv_iload_n hx hb dX8_choose_129 rfl (lv_at hl 2 rfl) ?_
                refine mr_ld hC hI 36 (by decide) (by decide) (isSuit_in hN (by assumption)) (v := (S 36 (ix k))) ((congrFun (up_ne (by decide)) _).trans (congrFun (up_ne (by decide)) _)) dX8_choose_130 ?_
                refine mr_st hC hL hI 36 (by decide) (by decide) (isSuit_in hN (by assumption)) (n := (ix k)) rfl dX8_choose_131 (fun H locs hI => ?_)
                refine lv_iload_n hx hb dX8_choose_132 rfl (lv_at hl 0 rfl) ?_
                exact W.iret (v := (S 34 (ix k))) hx hb hr (fun t9 ht9 hW9 => ⟨⟨S 34 (ix k), (), rfl, (congrArg Prod.fst hG).symm, by show MH D cy o ad _ _ t9.heap; rw [ht9, hG]; exact hI.1⟩, hI.2.F ht9⟩) hI.2.2.2 dX8_choose_133
              · have hG := hG.trans (if_neg c_12)
                refine lv_aload_n hx hb dX8_choose_118 rfl (lv_at hl 1 rfl) ?_
                refine mr_gi hC hin hI 1 (by decide) (by decide) (by decide) k_179 (v := (S 1 0)) ((congrFun (up_ne (by decide)) _).trans (congrFun (up_ne (by decide)) _)) dX8_choose_119 ?_
                refine lv_goto (tgt := 131) hx hb dX8_choose_122 (by decide) ?_
                refine mr_st hC hL hI 36 (by decide) (by decide) (isSuit_in hN (by assumption)) (n := (ix k)) rfl dX8_choose_131 (fun H locs hI => ?_)
                refine lv_iload_n hx hb dX8_choose_132 rfl (lv_at hl 0 rfl) ?_
                exact W.iret (v := (S 34 (ix k))) hx hb hr (fun t9 ht9 hW9 => ⟨⟨S 34 (ix k), (), rfl, (congrArg Prod.fst hG).symm, by show MH D cy o ad _ _ t9.heap; rw [ht9, hG]; exact hI.1⟩, hI.2.F ht9⟩) hI.2.2.2 dX8_choose_133
            · have hG := hG.trans (if_pos c_11)
              refine lv_iload_n hx hb dX8_choose_94 rfl (lv_at hl 3 rfl) ?_
              refine lv_iconst (v := 1) hx hb dX8_choose_95 (by decide) ?_
              refine lv_icmp_ne (tgt := 103) hx hb dX8_choose_96 (by decide) (fun c_13 => ?_) (fun c_13 => ?_)
              · have hG := hG.trans (if_neg c_13)
                refine lv_iconst (v := 0) hx hb dX8_choose_103 (by decide) ?_
                refine mr_stz hC hL hI 35 (by decide) (by decide) (isSuit_in hN (by assumption)) (n := (ix k)) rfl (by decide) dX8_choose_104 (fun H locs hI => ?_)
                refine lv_aload_n hx hb dX8_choose_105 rfl (lv_at hl 1 rfl) ?_
                refine mr_ga hC hin hI 36 (by decide) k_98 dX8_choose_106 ?_
                refine lv_iload_n hx hb dX8_choose_109 rfl (lv_at hl 2 rfl) ?_
                refine lv_aload_n hx hb dX8_choose_110 rfl (lv_at hl 1 rfl) ?_
                refine lv_iload_n hx hb dX8_choose_111 rfl (lv_at hl 2 rfl) ?_
                refine mr_call (As := [.int k]) (rest := [.int k, .ref (ad 36)]) hC hI (qX8_isSealed l D cy o ad (up (up S 34 (ix k) what) 35 (ix k) 0) 0 (ix k) (vp_ixl (isSuit_in hN (by assumption))) (vp_ixe (isSuit_in hN (by assumption)))) (cwV 1 hts gX8_choose_X8_isSealed rfl rfl rfl (by decide +kernel) ⟨Nat.le_of_ble_eq_true rfl, Nat.le_of_ble_eq_true rfl⟩) rfl hl.1 rfl (Nat.le_of_ble_eq_true rfl) dX8_choose_112 ⟨Nat.zero_le _, Nat.zero_le _⟩ (fun H locs hI => ?_)
                refine lv_if_eq (tgt := 125) hx hb dX8_choose_115 (by decide) (fun c_14 => ?_) (fun c_14 => ?_)
                · have hG := hG.trans (if_pos c_14)
                  refine lv_aload_n hx hb dX8_choose_125 rfl (lv_at hl 1 rfl) ?_
                  refine mr_ga hC hin hI 36 (by decide) k_98 dX8_choose_126 ?_
                  refine lv_iload_n hx hb dX8_choose_129 rfl (lv_at hl 2 rfl) ?_
                  refine mr_ld hC hI 36 (by decide) (by decide) (isSuit_in hN (by assumption)) (v := (S 36 (ix k))) ((congrFun (up_ne (by decide)) _).trans (congrFun (up_ne (by decide)) _)) dX8_choose_130 ?_
                  refine mr_st hC hL hI 36 (by decide) (by decide) (isSuit_in hN (by assumption)) (n := (ix k)) rfl dX8_choose_131 (fun H locs hI => ?_)
                  refine lv_iload_n hx hb dX8_choose_132 rfl (lv_at hl 0 rfl) ?_
                  exact W.iret (v := (S 34 (ix k))) hx hb hr (fun t9 ht9 hW9 => ⟨⟨S 34 (ix k), (), rfl, (congrArg Prod.fst hG).symm, by show MH D cy o ad _ _ t9.heap; rw [ht9, hG]; exact hI.1⟩, hI.2.F ht9⟩) hI.2.2.2 dX8_choose_133
                · have hG := hG.trans (if_neg c_14)
                  refine lv_aload_n hx hb dX8_choose_118 rfl (lv_at hl 1 rfl) ?_
                  refine mr_gi hC hin hI 1 (by decide) (by decide) (by decide) k_179 (v := (S 1 0)) ((congrFun (up_ne (by decide)) _).trans (congrFun (up_ne (by decide)) _)) dX8_choose_119 ?_
                  refine lv_goto (tgt := 131) hx hb dX8_choose_122 (by decide) ?_
                  refine mr_st hC hL hI 36 (by decide) (by decide) (isSuit_in hN (by assumption)) (n := (ix k)) rfl dX8_choose_131 (fun H locs hI => ?_)
                  refine lv_iload_n hx hb dX8_choose_132 rfl (lv_at hl 0 rfl) ?_
                  exact W.iret (v := (S 34 (ix k))) hx hb hr (fun t9 ht9 hW9 => ⟨⟨S 34 (ix k), (), rfl, (congrArg Prod.fst hG).symm, by show MH D cy o ad _ _ t9.heap; rw [ht9, hG]; exact hI.1⟩, hI.2.F ht9⟩) hI.2.2.2 dX8_choose_133
              · have hG := hG.trans (if_pos c_13)
                refine lv_iconst (v := 1) hx hb dX8_choose_99 (by decide) ?_
                refine lv_goto (tgt := 104) hx hb dX8_choose_100 (by decide) ?_
                refine mr_stz hC hL hI 35 (by decide) (by decide) (isSuit_in hN (by assumption)) (n := (ix k)) rfl (by decide) dX8_choose_104 (fun H locs hI => ?_)
                refine lv_aload_n hx hb dX8_choose_105 rfl (lv_at hl 1 rfl) ?_
                refine mr_ga hC hin hI 36 (by decide) k_98 dX8_choose_106 ?_
                refine lv_iload_n hx hb dX8_choose_109 rfl (lv_at hl 2 rfl) ?_
                refine lv_aload_n hx hb dX8_choose_110 rfl (lv_at hl 1 rfl) ?_
                refine lv_iload_n hx hb dX8_choose_111 rfl (lv_at hl 2 rfl) ?_
                refine mr_call (As := [.int k]) (rest := [.int k, .ref (ad 36)]) hC hI (qX8_isSealed l D cy o ad (up (up S 34 (ix k) what) 35 (ix k) 1) 0 (ix k) (vp_ixl (isSuit_in hN (by assumption))) (vp_ixe (isSuit_in hN (by assumption)))) (cwV 1 hts gX8_choose_X8_isSealed rfl rfl rfl (by decide +kernel) ⟨Nat.le_of_ble_eq_true rfl, Nat.le_of_ble_eq_true rfl⟩) rfl hl.1 rfl (Nat.le_of_ble_eq_true rfl) dX8_choose_112 ⟨Nat.zero_le _, Nat.zero_le _⟩ (fun H locs hI => ?_)
                refine lv_if_eq (tgt := 125) hx hb dX8_choose_115 (by decide) (fun c_15 => ?_) (fun c_15 => ?_)
                · have hG := hG.trans (if_pos c_15)
                  refine lv_aload_n hx hb dX8_choose_125 rfl (lv_at hl 1 rfl) ?_
                  refine mr_ga hC hin hI 36 (by decide) k_98 dX8_choose_126 ?_
                  refine lv_iload_n hx hb dX8_choose_129 rfl (lv_at hl 2 rfl) ?_
                  refine mr_ld hC hI 36 (by decide) (by decide) (isSuit_in hN (by assumption)) (v := (S 36 (ix k))) ((congrFun (up_ne (by decide)) _).trans (congrFun (up_ne (by decide)) _)) dX8_choose_130 ?_
                  refine mr_st hC hL hI 36 (by decide) (by decide) (isSuit_in hN (by assumption)) (n := (ix k)) rfl dX8_choose_131 (fun H locs hI => ?_)
                  refine lv_iload_n hx hb dX8_choose_132 rfl (lv_at hl 0 rfl) ?_
                  exact W.iret (v := (S 34 (ix k))) hx hb hr (fun t9 ht9 hW9 => ⟨⟨S 34 (ix k), (), rfl, (congrArg Prod.fst hG).symm, by show MH D cy o ad _ _ t9.heap; rw [ht9, hG]; exact hI.1⟩, hI.2.F ht9⟩) hI.2.2.2 dX8_choose_133
                · have hG := hG.trans (if_neg c_15)
                  refine lv_aload_n hx hb dX8_choose_118 rfl (lv_at hl 1 rfl) ?_
                  refine mr_gi hC hin hI 1 (by decide) (by decide) (by decide) k_179 (v := (S 1 0)) ((congrFun (up_ne (by decide)) _).trans (congrFun (up_ne (by decide)) _)) dX8_choose_119 ?_
                  refine lv_goto (tgt := 131) hx hb dX8_choose_122 (by decide) ?_
                  refine mr_st hC hL hI 36 (by decide) (by decide) (isSuit_in hN (by assumption)) (n := (ix k)) rfl dX8_choose_131 (fun H locs hI => ?_)
                  refine lv_iload_n hx hb dX8_choose_132 rfl (lv_at hl 0 rfl) ?_
                  exact W.iret (v := (S 34 (ix k))) hx hb hr (fun t9 ht9 hW9 => ⟨⟨S 34 (ix k), (), rfl, (congrArg Prod.fst hG).symm, by show MH D cy o ad _ _ t9.heap; rw [ht9, hG]; exact hI.1⟩, hI.2.F ht9⟩) hI.2.2.2 dX8_choose_133
          · have hG := hG.trans (if_pos c_10)
            refine lv_iconst (v := 3) hx hb dX8_choose_49 (by decide) ?_
            refine lv_goto (tgt := 54) hx hb dX8_choose_50 (by decide) ?_
            refine mr_pt hC hin hL hI k_152 dX8_choose_54 (fun H locs hI => ?_)
            refine lv_aload_n hx hb dX8_choose_57 rfl (lv_at hl 0 rfl) ?_
            refine mr_gt hC hin hI k_152 dX8_choose_58 ?_
            refine lv_if_le (tgt := 66) hx hb dX8_choose_61 (by decide) (fun c => absurd c (by decide : ¬ (3 : Int32) ≤ 0)) (fun _ => ?_)
            refine lv_iconst (v := 0) hx hb dX8_choose_64 (by decide) ?_
            exact W.iret (v := 0) hx hb hr (fun t9 ht9 hW9 => ⟨⟨0, (), rfl, (congrArg Prod.fst hG).symm, by show MH D cy o ad _ _ t9.heap; rw [ht9, hG]; exact hI.1⟩, hI.2.F ht9⟩) hI.2.2.2 dX8_choose_65
    · have hG := hG.trans (if_pos c_2)
      refine lv_iconst (v := 2) hx hb dX8_choose_22 (by decide) ?_
      refine lv_goto (tgt := 54) hx hb dX8_choose_23 (by decide) ?_
      refine mr_pt hC hin hL hI k_152 dX8_choose_54 (fun H locs hI => ?_)
      refine lv_aload_n hx hb dX8_choose_57 rfl (lv_at hl 0 rfl) ?_
      refine mr_gt hC hin hI k_152 dX8_choose_58 ?_
      refine lv_if_le (tgt := 66) hx hb dX8_choose_61 (by decide) (fun c => absurd c (by decide : ¬ (2 : Int32) ≤ 0)) (fun _ => ?_)
      refine lv_iconst (v := 0) hx hb dX8_choose_64 (by decide) ?_
      exact W.iret (v := 0) hx hb hr (fun t9 ht9 hW9 => ⟨⟨0, (), rfl, (congrArg Prod.fst hG).symm, by show MH D cy o ad _ _ t9.heap; rw [ht9, hG]; exact hI.1⟩, hI.2.F ht9⟩) hI.2.2.2 dX8_choose_65
  · have hG := hG.trans (if_pos c_1)
    refine lv_iconst (v := 1) hx hb dX8_choose_9 (by decide) ?_
    refine lv_goto (tgt := 54) hx hb dX8_choose_10 (by decide) ?_
    refine mr_pt hC hin hL hI k_152 dX8_choose_54 (fun H locs hI => ?_)
    refine lv_aload_n hx hb dX8_choose_57 rfl (lv_at hl 0 rfl) ?_
    refine mr_gt hC hin hI k_152 dX8_choose_58 ?_
    refine lv_if_le (tgt := 66) hx hb dX8_choose_61 (by decide) (fun c => absurd c (by decide : ¬ (1 : Int32) ≤ 0)) (fun _ => ?_)
    refine lv_iconst (v := 0) hx hb dX8_choose_64 (by decide) ?_
    exact W.iret (v := 0) hx hb hr (fun t9 ht9 hW9 => ⟨⟨0, (), rfl, (congrArg Prod.fst hG).symm, by show MH D cy o ad _ _ t9.heap; rw [ht9, hG]; exact hI.1⟩, hI.2.F ht9⟩) hI.2.2.2 dX8_choose_65
set_option maxHeartbeats 4000000 in
set_option maxRecDepth 100000 in
theorem qX8_help (l : Launch) (A : Nat → Prop) (D : va_G) (cy : Nat → ClassId) (o : Nat) (ad : Nat → Nat) (hL : ML A o ad) (S : St) (th : Int32) (hN : MInv S) (k : Int32) (much : Int32) : MMut l A D cy o ad S th yX8_help wsX8_help ({ frames := 2, cells := 0, slots := 0, locals := 43 } : Room) [.int k, .int much] (fX8_help S k much).1 (fX8_help S k much).2.2 (fX8_help S k much).2.1 := by
  refine Met.ofW (cc := cX8_help) (maxL := 4) (ret := (some .int)) (by decide) rfl ?_
  intro p e s m args below meth c s₁ B hml hv
  obtain ⟨rfl, hM, hK⟩ := hv
  have hx := B.exec
  have hb := B.bytes
  have hr := B.returns
  have hts := atoms_spec (ws := wsX8_help) B.pre
  have hown : s.vm.findClass RX8 = some m.cls := findClass_of_methodNamed B.named
  have hlocks := B.notSynchronized
  have hC : MC p s m _ c cX8_help 4 D cy wsX8_help := ⟨⟨hx, hb, hml, hown, hts⟩, hK⟩
  have hin : ∀ w ∈ wsX80, w ∈ wsX8_help := fun _ h => List.mem_cons_of_mem _ (List.mem_append_right _ (h))
  have hI : MI A D cy o ad s S th s.heap [] := ⟨hM, va_S.rf⟩
  have hb7 := hN.b7
  have hb15 := hN.b15
  have hb23 := hN.b23
  have hb28 := hN.b28
  have hb42 := hN.b42
  have k_152 := hts (.fieldLink RX8 152 "RelatorsBenchModel" "thrown" "I") (List.mem_cons_of_mem _ (List.mem_append_left _ (List.mem_of_getElem? (i := 0) rfl)))
  have k_104 := hts (.fieldLink RX8 104 "RelatorsBenchModel" "help" "[I") (List.mem_cons_of_mem _ (List.mem_append_left _ (List.mem_of_getElem? (i := 1) rfl)))
  have hl := lv_entry ([.ref o, .int k, .int much]) (n := 4) (Nat.le_of_ble_eq_true rfl)
  rw [lg_entry_eq]
  generalize (lg_sl ([.ref o, .int k, .int much]) ++ List.replicate (4 - (lg_sl ([.ref o, .int k, .int much])).length) Slot.unset).toArray = ls at hl ⊢
  have hl : lv_has ls 4 [(0, .ref o), (1, .int k), (2, .int much)] := hl
  have hG : fX8_help S k much = fX8_help S k much := rfl
  refine lv_aload_n hx hb dX8_help_0 rfl (lv_at hl 0 rfl) ?_
  refine lv_aload_n hx hb dX8_help_1 rfl (lv_at hl 0 rfl) ?_
  refine lv_iload_n hx hb dX8_help_2 rfl (lv_at hl 1 rfl) ?_
  refine mr_call (As := [.int k]) (rest := [.ref o]) hC hI (qX8_isSuit l D cy o ad S th k) (cwV 1 hts gX8_help_X8_isSuit rfl rfl rfl (by decide +kernel) ⟨Nat.le_of_ble_eq_true rfl, Nat.le_of_ble_eq_true rfl⟩) rfl hl.1 rfl (Nat.le_of_ble_eq_true rfl) dX8_help_3 ⟨Nat.zero_le _, Nat.zero_le _⟩ (fun H locs hI => ?_)
  refine lv_if_ne (tgt := 13) hx hb dX8_help_6 (by decide) (fun c_1 => ?_) (fun c_1 => ?_)
  · have hG := hG.trans (if_neg c_1)
    refine lv_iload_n hx hb dX8_help_13 rfl (lv_at hl 2 rfl) ?_
    refine lv_iconst (v := 0) hx hb dX8_help_14 (by decide) ?_
    refine lv_bipush (v := 10) hx hb dX8_help_15 (by decide) ?_
    refine mr_callS (As := [.int much, .int 0, .int 10]) (rest := [.ref o]) hC hI (qX8_in l much 0 10) (va_cwS 3 hts gX8_help_X8_in rfl rfl rfl (by decide +kernel) ⟨Nat.le_of_ble_eq_true rfl, Nat.le_of_ble_eq_true rfl⟩) rfl hl.1 rfl (Nat.le_of_ble_eq_true rfl) dX8_help_17 ⟨Nat.zero_le _, Nat.zero_le _⟩ (fun H locs hI => ?_)
    refine lv_if_ne (tgt := 27) hx hb dX8_help_20 (by decide) (fun c_2 => ?_) (fun c_2 => ?_)
    · have hG := hG.trans (if_neg c_2)
      refine lv_aload_n hx hb dX8_help_27 rfl (lv_at hl 0 rfl) ?_
      refine lv_iload_n hx hb dX8_help_28 rfl (lv_at hl 1 rfl) ?_
      refine mr_call (As := [.int k]) (rest := [.ref o]) hC hI (qX8_isOver l D cy o ad S th (ix k) (vp_ixl (isSuit_in hN (by assumption))) (vp_ixe (isSuit_in hN (by assumption)))) (cwV 1 hts gX8_help_X8_isOver rfl rfl rfl (by decide +kernel) ⟨Nat.le_of_ble_eq_true rfl, Nat.le_of_ble_eq_true rfl⟩) rfl hl.1 rfl (Nat.le_of_ble_eq_true rfl) dX8_help_29 ⟨Nat.zero_le _, Nat.zero_le _⟩ (fun H locs hI => ?_)
      refine lv_if_eq (tgt := 39) hx hb dX8_help_32 (by decide) (fun c_3 => ?_) (fun c_3 => ?_)
      · have hG := hG.trans (if_pos c_3)
        refine lv_iconst (v := 0) hx hb dX8_help_39 (by decide) ?_
        refine mr_pt hC hin hL hI k_152 dX8_help_40 (fun H locs hI => ?_)
        refine lv_aload_n hx hb dX8_help_43 rfl (lv_at hl 0 rfl) ?_
        refine mr_gt hC hin hI k_152 dX8_help_44 ?_
        refine lv_if_le (tgt := 52) hx hb dX8_help_47 (by decide) (fun _ => ?_) (fun c => absurd (by decide : (0 : Int32) ≤ 0) c)
        refine lv_aload_n hx hb dX8_help_52 rfl (lv_at hl 0 rfl) ?_
        refine mr_ga hC hin hI 38 (by decide) k_104 dX8_help_53 ?_
        refine lv_iload_n hx hb dX8_help_56 rfl (lv_at hl 1 rfl) ?_
        refine mr_ld hC hI 38 (by decide) (by decide) (isSuit_in hN (by assumption)) (v := (S 38 (ix k))) rfl dX8_help_57 ?_
        refine lv_istore_n (lv' := [(3, .int (S 38 (ix k))), (0, .ref o), (1, .int k), (2, .int much)]) hx hb dX8_help_58 rfl hl (by decide) rfl (fun ls hl => ?_)
        refine lv_aload_n hx hb dX8_help_59 rfl (lv_at hl 1 rfl) ?_
        refine mr_ga hC hin hI 38 (by decide) k_104 dX8_help_60 ?_
        refine lv_iload_n hx hb dX8_help_63 rfl (lv_at hl 2 rfl) ?_
        refine lv_iload_n hx hb dX8_help_64 rfl (lv_at hl 3 rfl) ?_
        refine mr_st hC hL hI 38 (by decide) (by decide) (isSuit_in hN (by assumption)) (n := (ix k)) rfl dX8_help_65 (fun H locs hI => ?_)
        refine lv_iload_n hx hb dX8_help_66 rfl (lv_at hl 0 rfl) ?_
        exact W.iret (v := (S 38 (ix k))) hx hb hr (fun t9 ht9 hW9 => ⟨⟨S 38 (ix k), (), rfl, (congrArg Prod.fst hG).symm, by show MH D cy o ad _ _ t9.heap; rw [ht9, hG]; exact hI.1⟩, hI.2.F ht9⟩) hI.2.2.2 dX8_help_67
      · have hG := hG.trans (if_neg c_3)
        refine lv_iconst (v := 3) hx hb dX8_help_35 (by decide) ?_
        refine lv_goto (tgt := 40) hx hb dX8_help_36 (by decide) ?_
        refine mr_pt hC hin hL hI k_152 dX8_help_40 (fun H locs hI => ?_)
        refine lv_aload_n hx hb dX8_help_43 rfl (lv_at hl 0 rfl) ?_
        refine mr_gt hC hin hI k_152 dX8_help_44 ?_
        refine lv_if_le (tgt := 52) hx hb dX8_help_47 (by decide) (fun c => absurd c (by decide : ¬ (3 : Int32) ≤ 0)) (fun _ => ?_)
        refine lv_iconst (v := 0) hx hb dX8_help_50 (by decide) ?_
        exact W.iret (v := 0) hx hb hr (fun t9 ht9 hW9 => ⟨⟨0, (), rfl, (congrArg Prod.fst hG).symm, by show MH D cy o ad _ _ t9.heap; rw [ht9, hG]; exact hI.1⟩, hI.2.F ht9⟩) hI.2.2.2 dX8_help_51
    · have hG := hG.trans (if_pos c_2)
      refine lv_iconst (v := 2) hx hb dX8_help_23 (by decide) ?_
      refine lv_goto (tgt := 40) hx hb dX8_help_24 (by decide) ?_
      refine mr_pt hC hin hL hI k_152 dX8_help_40 (fun H locs hI => ?_)
      refine lv_aload_n hx hb dX8_help_43 rfl (lv_at hl 0 rfl) ?_
      refine mr_gt hC hin hI k_152 dX8_help_44 ?_
      refine lv_if_le (tgt := 52) hx hb dX8_help_47 (by decide) (fun c => absurd c (by decide : ¬ (2 : Int32) ≤ 0)) (fun _ => ?_)
      refine lv_iconst (v := 0) hx hb dX8_help_50 (by decide) ?_
      exact W.iret (v := 0) hx hb hr (fun t9 ht9 hW9 => ⟨⟨0, (), rfl, (congrArg Prod.fst hG).symm, by show MH D cy o ad _ _ t9.heap; rw [ht9, hG]; exact hI.1⟩, hI.2.F ht9⟩) hI.2.2.2 dX8_help_51
  · have hG := hG.trans (if_pos c_1)
    refine lv_iconst (v := 1) hx hb dX8_help_9 (by decide) ?_
    refine lv_goto (tgt := 40) hx hb dX8_help_10 (by decide) ?_
    refine mr_pt hC hin hL hI k_152 dX8_help_40 (fun H locs hI => ?_)
    refine lv_aload_n hx hb dX8_help_43 rfl (lv_at hl 0 rfl) ?_
    refine mr_gt hC hin hI k_152 dX8_help_44 ?_
    refine lv_if_le (tgt := 52) hx hb dX8_help_47 (by decide) (fun c => absurd c (by decide : ¬ (1 : Int32) ≤ 0)) (fun _ => ?_)
    refine lv_iconst (v := 0) hx hb dX8_help_50 (by decide) ?_
    exact W.iret (v := 0) hx hb hr (fun t9 ht9 hW9 => ⟨⟨0, (), rfl, (congrArg Prod.fst hG).symm, by show MH D cy o ad _ _ t9.heap; rw [ht9, hG]; exact hI.1⟩, hI.2.F ht9⟩) hI.2.2.2 dX8_help_51
set_option maxHeartbeats 4000000 in
set_option maxRecDepth 100000 in
theorem qX8_wins (l : Launch) (A : Nat → Prop) (D : va_G) (cy : Nat → ClassId) (o : Nat) (ad : Nat → Nat) (hL : ML A o ad) (S : St) (th : Int32) (hN : MInv S) (k : Nat) (hk : k < 12) {x_k : Int32} (ek : x_k = nI k) (much : Int32) : MMutV l A D cy o ad S th yX8_wins wsX8_wins ({ frames := 6, cells := 0, slots := 0, locals := 140 } : Room) [.int x_k, .int much] (fX8_wins S th k much).2 (fX8_wins S th k much).1 := by
  subst ek
  refine Met.ofW (cc := cX8_wins) (maxL := 7) (ret := none) (by decide) rfl ?_
  intro p e s m args below meth c s₁ B hml hv
  obtain ⟨rfl, hM, hK⟩ := hv
  have hx := B.exec
  have hb := B.bytes
  have hr := B.returns
  have hts := atoms_spec (ws := wsX8_wins) B.pre
  have hown : s.vm.findClass RX8 = some m.cls := findClass_of_methodNamed B.named
  have hlocks := B.notSynchronized
  have hC : MC p s m _ c cX8_wins 7 D cy wsX8_wins := ⟨⟨hx, hb, hml, hown, hts⟩, hK⟩
  have hin : ∀ w ∈ wsX80, w ∈ wsX8_wins := fun _ h => List.mem_cons_of_mem _ (List.mem_append_right _ (h))
  have hI : MI A D cy o ad s S th s.heap [] := ⟨hM, va_S.rf⟩
  have hb7 := hN.b7
  have hb15 := hN.b15
  have hb23 := hN.b23
  have hb28 := hN.b28
  have hb42 := hN.b42
  have k_80 := hts (.fieldLink RX8 80 "RelatorsBenchModel" "against" "[I") (List.mem_cons_of_mem _ (List.mem_append_left _ (List.mem_append_left _ (List.mem_of_getElem? (i := 0) rfl))))
  have k_113 := hts (.fieldLink RX8 113 "RelatorsBenchModel" "hundredths" "[I") (List.mem_cons_of_mem _ (List.mem_append_left _ (List.mem_append_left _ (List.mem_of_getElem? (i := 1) rfl))))
  have k_107 := hts (.fieldLink RX8 107 "RelatorsBenchModel" "paid" "[I") (List.mem_cons_of_mem _ (List.mem_append_left _ (List.mem_append_left _ (List.mem_of_getElem? (i := 2) rfl))))
  have k_110 := hts (.fieldLink RX8 110 "RelatorsBenchModel" "share" "[I") (List.mem_cons_of_mem _ (List.mem_append_left _ (List.mem_append_left _ (List.mem_of_getElem? (i := 3) rfl))))
  have k_227 := hts (.constantLong RX8 227 (100)) (List.mem_cons_of_mem _ (List.mem_append_left _ (List.mem_append_left _ (List.mem_of_getElem? (i := 4) rfl))))
  have k_7 := hts (.fieldLink RX8 7 "RelatorsBenchModel" "money" "[I") (List.mem_cons_of_mem _ (List.mem_append_left _ (List.mem_append_left _ (List.mem_of_getElem? (i := 5) rfl))))
  have k_16 := hts (.fieldLink RX8 16 "RelatorsBenchModel" "bySuits" "[I") (List.mem_cons_of_mem _ (List.mem_append_left _ (List.mem_append_left _ (List.mem_of_getElem? (i := 6) rfl))))
  have k_229 := hts (.fieldLink RX8 229 "RelatorsBenchModel" "state" "I") (List.mem_cons_of_mem _ (List.mem_append_left _ (List.mem_append_left _ (List.mem_of_getElem? (i := 7) rfl))))
  have k_215 := hts (.fieldLink RX8 215 "RelatorsBenchModel" "deals" "I") (List.mem_cons_of_mem _ (List.mem_append_left _ (List.mem_append_left _ (List.mem_of_getElem? (i := 8) rfl))))
  have k_125 := hts (.fieldLink RX8 125 "RelatorsBenchModel" "own" "[I") (List.mem_cons_of_mem _ (List.mem_append_left _ (List.mem_append_left _ (List.mem_of_getElem? (i := 16) rfl))))
  have k_77 := hts (.fieldLink RX8 77 "RelatorsBenchModel" "teller" "[I") (List.mem_cons_of_mem _ (List.mem_append_left _ (List.mem_append_left _ (List.mem_of_getElem? (i := 10) rfl))))
  have k_176 := hts (.fieldLink RX8 176 "RelatorsBenchModel" "claims" "I") (List.mem_cons_of_mem _ (List.mem_append_left _ (List.mem_append_left _ (List.mem_of_getElem? (i := 17) rfl))))
  have k_92 := hts (.fieldLink RX8 92 "RelatorsBenchModel" "how" "[I") (List.mem_cons_of_mem _ (List.mem_append_left _ (List.mem_append_left _ (List.mem_of_getElem? (i := 19) rfl))))
  have k_53 := hts (.fieldLink RX8 53 "RelatorsBenchModel" "paidBy" "[I") (List.mem_cons_of_mem _ (List.mem_append_left _ (List.mem_append_left _ (List.mem_of_getElem? (i := 18) rfl))))
  have k_65 := hts (.fieldLink RX8 65 "RelatorsBenchModel" "giver" "[I") (List.mem_cons_of_mem _ (List.mem_append_left _ (List.mem_append_left _ (List.mem_of_getElem? (i := 9) rfl))))
  have k_74 := hts (.fieldLink RX8 74 "RelatorsBenchModel" "dealt" "[I") (List.mem_cons_of_mem _ (List.mem_append_left _ (List.mem_append_left _ (List.mem_of_getElem? (i := 11) rfl))))
  have k_89 := hts (.fieldLink RX8 89 "RelatorsBenchModel" "filed" "[I") (List.mem_cons_of_mem _ (List.mem_append_left _ (List.mem_append_left _ (List.mem_of_getElem? (i := 12) rfl))))
  have k_71 := hts (.fieldLink RX8 71 "RelatorsBenchModel" "part" "[I") (List.mem_cons_of_mem _ (List.mem_append_left _ (List.mem_append_left _ (List.mem_of_getElem? (i := 13) rfl))))
  have k_128 := hts (.fieldLink RX8 128 "RelatorsBenchModel" "ofOthers" "[I") (List.mem_cons_of_mem _ (List.mem_append_left _ (List.mem_append_left _ (List.mem_of_getElem? (i := 14) rfl))))
  have k_68 := hts (.fieldLink RX8 68 "RelatorsBenchModel" "taker" "[I") (List.mem_cons_of_mem _ (List.mem_append_left _ (List.mem_append_left _ (List.mem_of_getElem? (i := 15) rfl))))
  have hl := lv_entry ([.ref o, .int (nI k), .int much]) (n := 7) (Nat.le_of_ble_eq_true rfl)
  rw [lg_entry_eq]
  generalize (lg_sl ([.ref o, .int (nI k), .int much]) ++ List.replicate (7 - (lg_sl ([.ref o, .int (nI k), .int much])).length) Slot.unset).toArray = ls at hl ⊢
  have hl : lv_has ls 7 [(0, .ref o), (1, .int (nI k)), (2, .int much)] := hl
  have hG : fX8_wins S th k much = fX8_wins S th k much := rfl
  refine lv_aload_n hx hb dX8_wins_0 rfl (lv_at hl 0 rfl) ?_
  refine mr_ga hC hin hI 30 (by decide) k_80 dX8_wins_1 ?_
  refine lv_iload_n hx hb dX8_wins_4 rfl (lv_at hl 1 rfl) ?_
  refine mr_ld hC hI 30 (by decide) (by decide) (show vp_in (nI k) 12 from vp_in_nI (by omega) (by decide)) (v := (S 30 k)) ((congrArg (S 30) (nI_clamp (by omega))).trans rfl) dX8_wins_5 ?_
  refine lv_istore_n (lv' := [(3, .int (S 30 k)), (0, .ref o), (1, .int (nI k)), (2, .int much)]) hx hb dX8_wins_6 rfl hl (by decide) rfl (fun ls hl => ?_)
  refine lv_aload_n hx hb dX8_wins_7 rfl (lv_at hl 1 rfl) ?_
  refine mr_ga hC hin hI 41 (by decide) k_113 dX8_wins_8 ?_
  refine lv_iload_n hx hb dX8_wins_11 rfl (lv_at hl 2 rfl) ?_
  refine lv_aload_n hx hb dX8_wins_12 rfl (lv_at hl 1 rfl) ?_
  refine lv_iload_n hx hb dX8_wins_13 rfl (lv_at hl 2 rfl) ?_
  refine mr_call (As := [.int (nI k)]) (rest := [.int (nI k), .ref (ad 41)]) hC hI (qX8_hundredthsOf l D cy o ad S th hN k (by omega) rfl) (cwV 1 hts gX8_wins_X8_hundredthsOf rfl rfl rfl (by decide +kernel) ⟨Nat.le_of_ble_eq_true rfl, Nat.le_of_ble_eq_true rfl⟩) rfl hl.1 rfl (Nat.le_of_ble_eq_true rfl) dX8_wins_14 ⟨Nat.zero_le _, Nat.zero_le _⟩ (fun H locs hI => ?_)
  refine mr_st hC hL hI 41 (by decide) (by decide) (show vp_in (nI k) 12 from vp_in_nI (by omega) (by decide)) (n := k) (nI_clamp (by omega)) dX8_wins_17 (fun H locs hI => ?_)
  refine lv_aload_n hx hb dX8_wins_18 rfl (lv_at hl 1 rfl) ?_
  refine mr_ga hC hin hI 39 (by decide) k_107 dX8_wins_19 ?_
  refine lv_iload_n hx hb dX8_wins_22 rfl (lv_at hl 2 rfl) ?_
  refine lv_iload_n hx hb dX8_wins_23 rfl (lv_at hl 3 rfl) ?_
  refine mr_st hC hL hI 39 (by decide) (by decide) (show vp_in (nI k) 12 from vp_in_nI (by omega) (by decide)) (n := k) (nI_clamp (by omega)) dX8_wins_24 (fun H locs hI => ?_)
  refine lv_aload_n hx hb dX8_wins_25 rfl (lv_at hl 1 rfl) ?_
  refine mr_ga hC hin hI 40 (by decide) k_110 dX8_wins_26 ?_
  refine lv_iload_n hx hb dX8_wins_29 rfl (lv_at hl 2 rfl) ?_
  refine lv_iload_n hx hb dX8_wins_30 rfl (lv_at hl 3 rfl) ?_
  refine lv_i2l hx hb dX8_wins_31 rfl ?_
  refine lv_aload_n hx hb dX8_wins_32 rfl (lv_at hl 1 rfl) ?_
  refine mr_ga hC hin hI 41 (by decide) k_113 dX8_wins_33 ?_
  refine lv_iload_n hx hb dX8_wins_36 rfl (lv_at hl 2 rfl) ?_
  refine mr_ld hC hI 41 (by decide) (by decide) (show vp_in (nI k) 12 from vp_in_nI (by omega) (by decide)) (v := (fX8_hundredthsOf S k)) ((congrArg ((up (up S 41 k (fX8_hundredthsOf S k)) 39 k much) 41) (nI_clamp (by omega))).trans ((congrFun (up_ne (by decide)) _).trans (up_at _ _ _ _))) dX8_wins_37 ?_
  refine lv_i2l hx hb dX8_wins_38 rfl ?_
  refine lv_lmul hx hb dX8_wins_39 ?_
  refine lv_ldc2 hx hb hown k_227 dX8_wins_40 ?_
  refine lv_ldiv hx hb dX8_wins_43 (by decide) ?_
  refine lv_l2i hx hb dX8_wins_44 rfl ?_
  refine mr_st hC hL hI 40 (by decide) (by decide) (show vp_in (nI k) 12 from vp_in_nI (by omega) (by decide)) (n := k) (nI_clamp (by omega)) dX8_wins_45 (fun H locs hI => ?_)
  refine lv_aload_n hx hb dX8_wins_46 rfl (lv_at hl 1 rfl) ?_
  refine mr_ga hC hin hI 2 (by decide) k_7 dX8_wins_47 ?_
  refine lv_iload_n hx hb dX8_wins_50 rfl (lv_at hl 0 rfl) ?_
  refine lv_dup2_11 hx hb dX8_wins_51 rfl rfl ?_
  refine mr_ld hC hI 2 (by decide) (by decide) (hN.v30 k) (v := (S 2 (ix (S 30 k)))) ((congrFun (up_ne (by decide)) _).trans ((congrFun (up_ne (by decide)) _).trans (congrFun (up_ne (by decide)) _))) dX8_wins_52 ?_
  refine lv_iload_n hx hb dX8_wins_53 rfl (lv_at hl 3 rfl) ?_
  refine lv_isub hx hb dX8_wins_54 ?_
  refine mr_st hC hL hI 2 (by decide) (by decide) (hN.v30 k) (n := (ix (S 30 k))) rfl dX8_wins_55 (fun H locs hI => ?_)
  refine lv_aload_n hx hb dX8_wins_56 rfl (lv_at hl 1 rfl) ?_
  refine mr_ga hC hin hI 4 (by decide) k_16 dX8_wins_57 ?_
  refine lv_iload_n hx hb dX8_wins_60 rfl (lv_at hl 0 rfl) ?_
  refine lv_dup2_11 hx hb dX8_wins_61 rfl rfl ?_
  refine mr_ld hC hI 4 (by decide) (by decide) (hN.v30 k) (v := (S 4 (ix (S 30 k)))) ((congrFun (up_ne (by decide)) _).trans ((congrFun (up_ne (by decide)) _).trans ((congrFun (up_ne (by decide)) _).trans (congrFun (up_ne (by decide)) _)))) dX8_wins_62 ?_
  refine lv_iload_n hx hb dX8_wins_63 rfl (lv_at hl 3 rfl) ?_
  refine lv_iadd hx hb dX8_wins_64 ?_
  refine mr_st hC hL hI 4 (by decide) (by decide) (hN.v30 k) (n := (ix (S 30 k))) rfl dX8_wins_65 (fun H locs hI => ?_)
  refine lv_aload_n hx hb dX8_wins_66 rfl (lv_at hl 1 rfl) ?_
  refine lv_dup hx hb dX8_wins_67 rfl ?_
  refine mr_gi hC hin hI 6 (by decide) (by decide) (by decide) k_229 (v := (S 6 0)) ((congrFun (up_ne (by decide)) _).trans ((congrFun (up_ne (by decide)) _).trans ((congrFun (up_ne (by decide)) _).trans ((congrFun (up_ne (by decide)) _).trans (congrFun (up_ne (by decide)) _))))) dX8_wins_68 ?_
  refine lv_iload_n hx hb dX8_wins_71 rfl (lv_at hl 3 rfl) ?_
  refine lv_aload_n hx hb dX8_wins_72 rfl (lv_at hl 1 rfl) ?_
  refine mr_ga hC hin hI 40 (by decide) k_110 dX8_wins_73 ?_
  refine lv_iload_n hx hb dX8_wins_76 rfl (lv_at hl 2 rfl) ?_
  refine mr_ld hC hI 40 (by decide) (by decide) (show vp_in (nI k) 12 from vp_in_nI (by omega) (by decide)) (v := ((((much.toInt64) * ((fX8_hundredthsOf S k).toInt64)) / (100 : Int64)).toInt32)) ((congrArg ((up (up (up (up (up S 41 k (fX8_hundredthsOf S k)) 39 k much) 40 k ((((much.toInt64) * ((fX8_hundredthsOf S k).toInt64)) / (100 : Int64)).toInt32)) 2 (ix (S 30 k)) ((S 2 (ix (S 30 k))) - much)) 4 (ix (S 30 k)) ((S 4 (ix (S 30 k))) + much)) 40) (nI_clamp (by omega))).trans ((congrFun (up_ne (by decide)) _).trans ((congrFun (up_ne (by decide)) _).trans (up_at _ _ _ _)))) dX8_wins_77 ?_
  refine lv_isub hx hb dX8_wins_78 ?_
  refine lv_iadd hx hb dX8_wins_79 ?_
  refine mr_pi hC hin hL hI 6 (by decide) (by decide) (by decide) k_229 dX8_wins_80 (fun H locs hI => ?_)
  refine lv_aload_n hx hb dX8_wins_83 rfl (lv_at hl 1 rfl) ?_
  refine mr_ga hC hin hI 40 (by decide) k_110 dX8_wins_84 ?_
  refine lv_iload_n hx hb dX8_wins_87 rfl (lv_at hl 2 rfl) ?_
  refine mr_ld hC hI 40 (by decide) (by decide) (show vp_in (nI k) 12 from vp_in_nI (by omega) (by decide)) (v := ((((much.toInt64) * ((fX8_hundredthsOf S k).toInt64)) / (100 : Int64)).toInt32)) ((congrArg ((up (up (up (up (up (up S 41 k (fX8_hundredthsOf S k)) 39 k much) 40 k ((((much.toInt64) * ((fX8_hundredthsOf S k).toInt64)) / (100 : Int64)).toInt32)) 2 (ix (S 30 k)) ((S 2 (ix (S 30 k))) - much)) 4 (ix (S 30 k)) ((S 4 (ix (S 30 k))) + much)) 6 0 ((S 6 0) + (much - ((((much.toInt64) * ((fX8_hundredthsOf S k).toInt64)) / (100 : Int64)).toInt32)))) 40) (nI_clamp (by omega))).trans ((congrFun (up_ne (by decide)) _).trans ((congrFun (up_ne (by decide)) _).trans ((congrFun (up_ne (by decide)) _).trans (up_at _ _ _ _))))) dX8_wins_88 ?_
  refine lv_istore (lv' := [(4, .int ((((much.toInt64) * ((fX8_hundredthsOf S k).toInt64)) / (100 : Int64)).toInt32)), (3, .int (S 30 k)), (0, .ref o), (1, .int (nI k)), (2, .int much)]) hx hb dX8_wins_89 hl (by decide) rfl (fun ls hl => ?_)
  refine lv_iconst (v := 0) hx hb dX8_wins_91 (by decide) ?_
  refine lv_istore (lv' := [(5, .int 0), (4, .int ((((much.toInt64) * ((fX8_hundredthsOf S k).toInt64)) / (100 : Int64)).toInt32)), (3, .int (S 30 k)), (0, .ref o), (1, .int (nI k)), (2, .int much)]) hx hb dX8_wins_92 hl (by decide) rfl (fun ls hl => ?_)
  refine w_loop (σ := Int32 × (Nat → Int32)) (ndl S) 94 (fun i94 z H locs ls => z = lX8_wins_94 S k much i94 ∧ MI A D cy o ad s (upr (up (up (up (up (up (up S 41 k (fX8_hundredthsOf S k)) 39 k much) 40 k ((((much.toInt64) * ((fX8_hundredthsOf S k).toInt64)) / (100 : Int64)).toInt32)) 2 (ix (S 30 k)) ((S 2 (ix (S 30 k))) - much)) 4 (ix (S 30 k)) ((S 4 (ix (S 30 k))) + much)) 6 0 ((S 6 0) + (much - ((((much.toInt64) * ((fX8_hundredthsOf S k).toInt64)) / (100 : Int64)).toInt32)))) 47 z.2) th H locs ∧ lv_has ls 7 [(5, .int (nI i94)), (4, .int z.1), (3, .int (S 30 k)), (0, .ref o), (1, .int (nI k)), (2, .int much)]) ?_ ((((much.toInt64) * ((fX8_hundredthsOf S k).toInt64)) / (100 : Int64)).toInt32, (S 47)) ⟨rfl, (MI_upr hI 47 rfl), lv_sub hl [0, 1, 2, 3, 4, 5] rfl⟩
  intro i94 z H locs ls ⟨hz94, hI, hl⟩ hi94 ih94
  obtain ⟨x94_4, w94_47⟩ := z
  dsimp only at hI hl hz94
  refine lv_iload hx hb dX8_wins_94 (lv_at hl 0 rfl) ?_
  refine lv_aload_n hx hb dX8_wins_96 rfl (lv_at hl 3 rfl) ?_
  refine mr_gi hC hin hI 23 (by decide) (by decide) (by decide) k_215 (v := (S 23 0)) ((congrFun (upr_ne (by decide)) _).trans ((congrFun (up_ne (by decide)) _).trans ((congrFun (up_ne (by decide)) _).trans ((congrFun (up_ne (by decide)) _).trans ((congrFun (up_ne (by decide)) _).trans ((congrFun (up_ne (by decide)) _).trans (congrFun (up_ne (by decide)) _))))))) dX8_wins_97 ?_
  refine lv_icmp_ge (tgt := 188) hx hb dX8_wins_100 (by decide) (fun c_1 => ?_) (fun c_1 => ?_)
  · obtain rfl : i94 = ndl S := w_exit hN.n23 hi94 (by have := hN.b23; omega) c_1
    obtain rfl : x94_4 = (lX8_wins_94 S k much (ndl S)).1 := by rw [← hz94]
    obtain rfl : w94_47 = (lX8_wins_94 S k much (ndl S)).2 := by rw [← hz94]
    refine lv_aload_n hx hb dX8_wins_188 rfl (lv_at hl 3 rfl) ?_
    refine mr_ga hC hin hI 46 (by decide) k_125 dX8_wins_189 ?_
    refine lv_aload_n hx hb dX8_wins_192 rfl (lv_at hl 3 rfl) ?_
    refine mr_ga hC hin hI 29 (by decide) k_77 dX8_wins_193 ?_
    refine lv_iload_n hx hb dX8_wins_196 rfl (lv_at hl 4 rfl) ?_
    refine mr_ld hC hI 29 (by decide) (by decide) (show vp_in (nI k) 12 from vp_in_nI (by omega) (by decide)) (v := (S 29 k)) ((congrArg ((upr (up (up (up (up (up (up S 41 k (fX8_hundredthsOf S k)) 39 k much) 40 k ((((much.toInt64) * ((fX8_hundredthsOf S k).toInt64)) / (100 : Int64)).toInt32)) 2 (ix (S 30 k)) ((S 2 (ix (S 30 k))) - much)) 4 (ix (S 30 k)) ((S 4 (ix (S 30 k))) + much)) 6 0 ((S 6 0) + (much - ((((much.toInt64) * ((fX8_hundredthsOf S k).toInt64)) / (100 : Int64)).toInt32)))) 47 ((lX8_wins_94 S k much (ndl S)).2)) 29) (nI_clamp (by omega))).trans ((congrFun (upr_ne (by decide)) _).trans ((congrFun (up_ne (by decide)) _).trans ((congrFun (up_ne (by decide)) _).trans ((congrFun (up_ne (by decide)) _).trans ((congrFun (up_ne (by decide)) _).trans ((congrFun (up_ne (by decide)) _).trans (congrFun (up_ne (by decide)) _)))))))) dX8_wins_197 ?_
    refine lv_dup2_11 hx hb dX8_wins_198 rfl rfl ?_
    refine mr_ld hC hI 46 (by decide) (by decide) (hN.v29 k) (v := (S 46 (ix (S 29 k)))) ((congrFun (upr_ne (by decide)) _).trans ((congrFun (up_ne (by decide)) _).trans ((congrFun (up_ne (by decide)) _).trans ((congrFun (up_ne (by decide)) _).trans ((congrFun (up_ne (by decide)) _).trans ((congrFun (up_ne (by decide)) _).trans (congrFun (up_ne (by decide)) _))))))) dX8_wins_199 ?_
    refine lv_iload hx hb dX8_wins_200 (lv_at hl 1 rfl) ?_
    refine lv_iadd hx hb dX8_wins_202 ?_
    refine mr_st hC hL hI 46 (by decide) (by decide) (hN.v29 k) (n := (ix (S 29 k))) rfl dX8_wins_203 (fun H locs hI => ?_)
    refine lv_iconst (v := 0) hx hb dX8_wins_204 (by decide) ?_
    refine lv_istore (lv' := [(5, .int 0), (4, .int ((lX8_wins_94 S k much (ndl S)).1)), (3, .int (S 30 k)), (0, .ref o), (1, .int (nI k)), (2, .int much)]) hx hb dX8_wins_205 hl (by decide) rfl (fun ls hl => ?_)
    refine w_loop (σ := (Nat → Int32)) (ncl S) 207 (fun i207 z H locs ls => z = lX8_wins_207_v2 S k much i207 ∧ MI A D cy o ad s (upr (up (upr (up (up (up (up (up (up S 41 k (fX8_hundredthsOf S k)) 39 k much) 40 k ((((much.toInt64) * ((fX8_hundredthsOf S k).toInt64)) / (100 : Int64)).toInt32)) 2 (ix (S 30 k)) ((S 2 (ix (S 30 k))) - much)) 4 (ix (S 30 k)) ((S 4 (ix (S 30 k))) + much)) 6 0 ((S 6 0) + (much - ((((much.toInt64) * ((fX8_hundredthsOf S k).toInt64)) / (100 : Int64)).toInt32)))) 47 ((lX8_wins_94 S k much (ndl S)).2)) 46 (ix (S 29 k)) ((S 46 (ix (S 29 k))) + ((lX8_wins_94 S k much (ndl S)).1))) 19 z) th H locs ∧ lv_has ls 7 [(5, .int (nI i207)), (4, .int ((lX8_wins_94 S k much (ndl S)).1)), (3, .int (S 30 k)), (0, .ref o), (1, .int (nI k)), (2, .int much)]) ?_ (S 19) ⟨rfl, (MI_upr hI 19 rfl), lv_sub hl [0, 1, 2, 3, 4, 5] rfl⟩
    intro i207 z H locs ls ⟨hz207, hI, hl⟩ hi207 ih207
    obtain ⟨w207_19, rfl⟩ : ∃ x, x = z := ⟨_, rfl⟩
    refine lv_iload hx hb dX8_wins_207 (lv_at hl 0 rfl) ?_
    refine lv_aload_n hx hb dX8_wins_209 rfl (lv_at hl 3 rfl) ?_
    refine mr_gi hC hin hI 15 (by decide) (by decide) (by decide) k_176 (v := (S 15 0)) ((congrFun (upr_ne (by decide)) _).trans ((congrFun (up_ne (by decide)) _).trans ((congrFun (upr_ne (by decide)) _).trans ((congrFun (up_ne (by decide)) _).trans ((congrFun (up_ne (by decide)) _).trans ((congrFun (up_ne (by decide)) _).trans ((congrFun (up_ne (by decide)) _).trans ((congrFun (up_ne (by decide)) _).trans (congrFun (up_ne (by decide)) _))))))))) dX8_wins_210 ?_
    refine lv_icmp_ge (tgt := 250) hx hb dX8_wins_213 (by decide) (fun c_6 => ?_) (fun c_6 => ?_)
    · obtain rfl : i207 = ncl S := w_exit hN.n15 hi207 (by have := hN.b15; omega) c_6
      obtain rfl : w207_19 = (lX8_wins_207_v2 S k much (ncl S)) := by rw [← hz207]
      refine lv_aload_n hx hb dX8_wins_250 rfl (lv_at hl 3 rfl) ?_
      refine mr_ga hC hin hI 34 (by decide) k_92 dX8_wins_251 ?_
      refine lv_iload_n hx hb dX8_wins_254 rfl (lv_at hl 4 rfl) ?_
      refine lv_iconst (v := 4) hx hb dX8_wins_255 (by decide) ?_
      refine mr_st hC hL hI 34 (by decide) (by decide) (show vp_in (nI k) 12 from vp_in_nI (by omega) (by decide)) (n := k) (nI_clamp (by omega)) dX8_wins_256 (fun H locs hI => ?_)
      exact W.vret hx hb hr (fun t9 ht9 hW9 => ⟨⟨(), rfl, trivial, by show MH D cy o ad _ _ t9.heap; rw [ht9, hG]; exact hI.1⟩, hI.2.F ht9⟩) hI.2.2.2 dX8_wins_257
    · have hlt207 : i207 < ncl S := w_in hN.n15 hi207 (by have := hN.b15; omega) c_6
      have hB207 : iX8_wins_207_v2 S k much i207 w207_19 = iX8_wins_207_v2 S k much i207 w207_19 := rfl
      refine lv_aload_n hx hb dX8_wins_216 rfl (lv_at hl 3 rfl) ?_
      refine mr_ga hC hin hI 19 (by decide) k_53 dX8_wins_217 ?_
      refine lv_iload hx hb dX8_wins_220 (lv_at hl 0 rfl) ?_
      refine lv_aload_n hx hb dX8_wins_222 rfl (lv_at hl 3 rfl) ?_
      refine lv_iload hx hb dX8_wins_223 (lv_at hl 0 rfl) ?_
      refine lv_iload_n hx hb dX8_wins_225 rfl (lv_at hl 4 rfl) ?_
      refine mr_call (As := [.int (nI i207), .int (nI k)]) (rest := [.int (nI i207), .ref (ad 19)]) hC hI (qX8_counts l D cy o ad (upr (up (upr (up (up (up (up (up (up S 41 k (fX8_hundredthsOf S k)) 39 k much) 40 k ((((much.toInt64) * ((fX8_hundredthsOf S k).toInt64)) / (100 : Int64)).toInt32)) 2 (ix (S 30 k)) ((S 2 (ix (S 30 k))) - much)) 4 (ix (S 30 k)) ((S 4 (ix (S 30 k))) + much)) 6 0 ((S 6 0) + (much - ((((much.toInt64) * ((fX8_hundredthsOf S k).toInt64)) / (100 : Int64)).toInt32)))) 47 ((lX8_wins_94 S k much (ndl S)).2)) 46 (ix (S 29 k)) ((S 46 (ix (S 29 k))) + ((lX8_wins_94 S k much (ndl S)).1))) 19 w207_19) th (hN.congr ⟨rfl, rfl, rfl, rfl, rfl, rfl, rfl, rfl, rfl, rfl, rfl, rfl, rfl, rfl⟩) i207 (by omega) rfl k (by omega) rfl) (cwV 2 hts gX8_wins_X8_counts rfl rfl rfl (by decide +kernel) ⟨Nat.le_of_ble_eq_true rfl, Nat.le_of_ble_eq_true rfl⟩) rfl hl.1 rfl (Nat.le_of_ble_eq_true rfl) dX8_wins_226 ⟨Nat.zero_le _, Nat.zero_le _⟩ (fun H locs hI => ?_)
      refine lv_if_eq (tgt := 236) hx hb dX8_wins_229 (by decide) (fun c_7 => ?_) (fun c_7 => ?_)
      · have hB207 := hB207.trans (if_pos c_7)
        refine lv_aload_n hx hb dX8_wins_236 rfl (lv_at hl 3 rfl) ?_
        refine mr_ga hC hin hI 19 (by decide) k_53 dX8_wins_237 ?_
        refine lv_iload hx hb dX8_wins_240 (lv_at hl 0 rfl) ?_
        refine mr_ld hC hI 19 (by decide) (by decide) (show vp_in (nI i207) 40 from vp_in_nI (by omega) (by decide)) (v := (w207_19 i207)) ((congrArg ((upr (up (upr (up (up (up (up (up (up S 41 k (fX8_hundredthsOf S k)) 39 k much) 40 k ((((much.toInt64) * ((fX8_hundredthsOf S k).toInt64)) / (100 : Int64)).toInt32)) 2 (ix (S 30 k)) ((S 2 (ix (S 30 k))) - much)) 4 (ix (S 30 k)) ((S 4 (ix (S 30 k))) + much)) 6 0 ((S 6 0) + (much - ((((much.toInt64) * ((fX8_hundredthsOf S k).toInt64)) / (100 : Int64)).toInt32)))) 47 ((lX8_wins_94 S k much (ndl S)).2)) 46 (ix (S 29 k)) ((S 46 (ix (S 29 k))) + ((lX8_wins_94 S k much (ndl S)).1))) 19 w207_19) 19) (nI_clamp (by omega))).trans (congrFun (upr_at _ _ _) _)) dX8_wins_242 ?_
        refine mr_st hC hL hI 19 (by decide) (by decide) (show vp_in (nI i207) 40 from vp_in_nI (by omega) (by decide)) (n := i207) (nI_clamp (by omega)) dX8_wins_243 (fun H locs hI => ?_)
        refine lv_iinc (v := (nI (i207 + 1))) (lv' := [(5, .int (nI (i207 + 1))), (4, .int ((lX8_wins_94 S k much (ndl S)).1)), (3, .int (S 30 k)), (0, .ref o), (1, .int (nI k)), (2, .int much)]) hx hb dX8_wins_244 hl (k := 0) rfl (nI_1 i207) (by decide) rfl (fun ls hl => ?_)
        refine lv_goto (tgt := 207) hx hb dX8_wins_247 (by decide) ?_
        exact ih207 (upd w207_19 i207 (w207_19 i207)) _ _ ls hlt207 ⟨(by show _ = iX8_wins_207_v2 S k much i207 (lX8_wins_207_v2 S k much i207); rw [← hz207]; exact hB207.symm), (MI_eq hI (upr_up _ _ _ _ _)), lv_sub hl [0, 1, 2, 3, 4, 5] rfl⟩
      · have hB207 := hB207.trans (if_neg c_7)
        refine lv_iload_n hx hb dX8_wins_232 rfl (lv_at hl 4 rfl) ?_
        refine lv_goto (tgt := 243) hx hb dX8_wins_233 (by decide) ?_
        refine mr_st hC hL hI 19 (by decide) (by decide) (show vp_in (nI i207) 40 from vp_in_nI (by omega) (by decide)) (n := i207) (nI_clamp (by omega)) dX8_wins_243 (fun H locs hI => ?_)
        refine lv_iinc (v := (nI (i207 + 1))) (lv' := [(5, .int (nI (i207 + 1))), (4, .int ((lX8_wins_94 S k much (ndl S)).1)), (3, .int (S 30 k)), (0, .ref o), (1, .int (nI k)), (2, .int much)]) hx hb dX8_wins_244 hl (k := 0) rfl (nI_1 i207) (by decide) rfl (fun ls hl => ?_)
        refine lv_goto (tgt := 207) hx hb dX8_wins_247 (by decide) ?_
        exact ih207 (upd w207_19 i207 (nI k)) _ _ ls hlt207 ⟨(by show _ = iX8_wins_207_v2 S k much i207 (lX8_wins_207_v2 S k much i207); rw [← hz207]; exact hB207.symm), (MI_eq hI (upr_up _ _ _ _ _)), lv_sub hl [0, 1, 2, 3, 4, 5] rfl⟩
  · have hlt94 : i94 < ndl S := w_in hN.n23 hi94 (by have := hN.b23; omega) c_1
    have hB94 : iX8_wins_94 S k much i94 x94_4 w94_47 = iX8_wins_94 S k much i94 x94_4 w94_47 := rfl
    refine lv_aload_n hx hb dX8_wins_103 rfl (lv_at hl 3 rfl) ?_
    refine mr_ga hC hin hI 24 (by decide) k_65 dX8_wins_104 ?_
    refine lv_iload hx hb dX8_wins_107 (lv_at hl 0 rfl) ?_
    refine mr_ld hC hI 24 (by decide) (by decide) (show vp_in (nI i94) 20 from vp_in_nI (by omega) (by decide)) (v := (S 24 i94)) ((congrArg ((upr (up (up (up (up (up (up S 41 k (fX8_hundredthsOf S k)) 39 k much) 40 k ((((much.toInt64) * ((fX8_hundredthsOf S k).toInt64)) / (100 : Int64)).toInt32)) 2 (ix (S 30 k)) ((S 2 (ix (S 30 k))) - much)) 4 (ix (S 30 k)) ((S 4 (ix (S 30 k))) + much)) 6 0 ((S 6 0) + (much - ((((much.toInt64) * ((fX8_hundredthsOf S k).toInt64)) / (100 : Int64)).toInt32)))) 47 w94_47) 24) (nI_clamp (by omega))).trans ((congrFun (upr_ne (by decide)) _).trans ((congrFun (up_ne (by decide)) _).trans ((congrFun (up_ne (by decide)) _).trans ((congrFun (up_ne (by decide)) _).trans ((congrFun (up_ne (by decide)) _).trans ((congrFun (up_ne (by decide)) _).trans (congrFun (up_ne (by decide)) _)))))))) dX8_wins_109 ?_
    refine lv_aload_n hx hb dX8_wins_110 rfl (lv_at hl 3 rfl) ?_
    refine mr_ga hC hin hI 29 (by decide) k_77 dX8_wins_111 ?_
    refine lv_iload_n hx hb dX8_wins_114 rfl (lv_at hl 4 rfl) ?_
    refine mr_ld hC hI 29 (by decide) (by decide) (show vp_in (nI k) 12 from vp_in_nI (by omega) (by decide)) (v := (S 29 k)) ((congrArg ((upr (up (up (up (up (up (up S 41 k (fX8_hundredthsOf S k)) 39 k much) 40 k ((((much.toInt64) * ((fX8_hundredthsOf S k).toInt64)) / (100 : Int64)).toInt32)) 2 (ix (S 30 k)) ((S 2 (ix (S 30 k))) - much)) 4 (ix (S 30 k)) ((S 4 (ix (S 30 k))) + much)) 6 0 ((S 6 0) + (much - ((((much.toInt64) * ((fX8_hundredthsOf S k).toInt64)) / (100 : Int64)).toInt32)))) 47 w94_47) 29) (nI_clamp (by omega))).trans ((congrFun (upr_ne (by decide)) _).trans ((congrFun (up_ne (by decide)) _).trans ((congrFun (up_ne (by decide)) _).trans ((congrFun (up_ne (by decide)) _).trans ((congrFun (up_ne (by decide)) _).trans ((congrFun (up_ne (by decide)) _).trans (congrFun (up_ne (by decide)) _)))))))) dX8_wins_115 ?_
    refine lv_icmp_ne (tgt := 182) hx hb dX8_wins_116 (by decide) (fun c_4 => ?_) (fun c_4 => ?_)
    · have hB94 := hB94.trans (if_neg c_4)
      refine lv_iinc (v := (nI (i94 + 1))) (lv' := [(5, .int (nI (i94 + 1))), (4, .int x94_4), (3, .int (S 30 k)), (0, .ref o), (1, .int (nI k)), (2, .int much)]) hx hb dX8_wins_182 hl (k := 0) rfl (nI_1 i94) (by decide) rfl (fun ls hl => ?_)
      refine lv_goto (tgt := 94) hx hb dX8_wins_185 (by decide) ?_
      exact ih94 (x94_4, w94_47) _ _ ls hlt94 ⟨(by show _ = iX8_wins_94 S k much i94 (lX8_wins_94 S k much i94).1 (lX8_wins_94 S k much i94).2; rw [← hz94]; exact hB94.symm), hI, lv_sub hl [0, 1, 2, 3, 4, 5] rfl⟩
    · have hB94 := hB94.trans (if_pos c_4)
      refine lv_aload_n hx hb dX8_wins_119 rfl (lv_at hl 3 rfl) ?_
      refine mr_ga hC hin hI 27 (by decide) k_74 dX8_wins_120 ?_
      refine lv_iload hx hb dX8_wins_123 (lv_at hl 0 rfl) ?_
      refine mr_ld hC hI 27 (by decide) (by decide) (show vp_in (nI i94) 20 from vp_in_nI (by omega) (by decide)) (v := (S 27 i94)) ((congrArg ((upr (up (up (up (up (up (up S 41 k (fX8_hundredthsOf S k)) 39 k much) 40 k ((((much.toInt64) * ((fX8_hundredthsOf S k).toInt64)) / (100 : Int64)).toInt32)) 2 (ix (S 30 k)) ((S 2 (ix (S 30 k))) - much)) 4 (ix (S 30 k)) ((S 4 (ix (S 30 k))) + much)) 6 0 ((S 6 0) + (much - ((((much.toInt64) * ((fX8_hundredthsOf S k).toInt64)) / (100 : Int64)).toInt32)))) 47 w94_47) 27) (nI_clamp (by omega))).trans ((congrFun (upr_ne (by decide)) _).trans ((congrFun (up_ne (by decide)) _).trans ((congrFun (up_ne (by decide)) _).trans ((congrFun (up_ne (by decide)) _).trans ((congrFun (up_ne (by decide)) _).trans ((congrFun (up_ne (by decide)) _).trans (congrFun (up_ne (by decide)) _)))))))) dX8_wins_125 ?_
      refine lv_aload_n hx hb dX8_wins_126 rfl (lv_at hl 3 rfl) ?_
      refine mr_ga hC hin hI 33 (by decide) k_89 dX8_wins_127 ?_
      refine lv_iload_n hx hb dX8_wins_130 rfl (lv_at hl 4 rfl) ?_
      refine mr_ld hC hI 33 (by decide) (by decide) (show vp_in (nI k) 12 from vp_in_nI (by omega) (by decide)) (v := (S 33 k)) ((congrArg ((upr (up (up (up (up (up (up S 41 k (fX8_hundredthsOf S k)) 39 k much) 40 k ((((much.toInt64) * ((fX8_hundredthsOf S k).toInt64)) / (100 : Int64)).toInt32)) 2 (ix (S 30 k)) ((S 2 (ix (S 30 k))) - much)) 4 (ix (S 30 k)) ((S 4 (ix (S 30 k))) + much)) 6 0 ((S 6 0) + (much - ((((much.toInt64) * ((fX8_hundredthsOf S k).toInt64)) / (100 : Int64)).toInt32)))) 47 w94_47) 33) (nI_clamp (by omega))).trans ((congrFun (upr_ne (by decide)) _).trans ((congrFun (up_ne (by decide)) _).trans ((congrFun (up_ne (by decide)) _).trans ((congrFun (up_ne (by decide)) _).trans ((congrFun (up_ne (by decide)) _).trans ((congrFun (up_ne (by decide)) _).trans (congrFun (up_ne (by decide)) _)))))))) dX8_wins_131 ?_
      refine lv_icmp_ge (tgt := 182) hx hb dX8_wins_132 (by decide) (fun c_5 => ?_) (fun c_5 => ?_)
      · have hB94 := hB94.trans (if_pos c_5)
        refine lv_iinc (v := (nI (i94 + 1))) (lv' := [(5, .int (nI (i94 + 1))), (4, .int x94_4), (3, .int (S 30 k)), (0, .ref o), (1, .int (nI k)), (2, .int much)]) hx hb dX8_wins_182 hl (k := 0) rfl (nI_1 i94) (by decide) rfl (fun ls hl => ?_)
        refine lv_goto (tgt := 94) hx hb dX8_wins_185 (by decide) ?_
        exact ih94 (x94_4, w94_47) _ _ ls hlt94 ⟨(by show _ = iX8_wins_94 S k much i94 (lX8_wins_94 S k much i94).1 (lX8_wins_94 S k much i94).2; rw [← hz94]; exact hB94.symm), hI, lv_sub hl [0, 1, 2, 3, 4, 5] rfl⟩
      · have hB94 := hB94.trans (if_neg c_5)
        refine lv_aload_n hx hb dX8_wins_135 rfl (lv_at hl 3 rfl) ?_
        refine mr_ga hC hin hI 40 (by decide) k_110 dX8_wins_136 ?_
        refine lv_iload_n hx hb dX8_wins_139 rfl (lv_at hl 4 rfl) ?_
        refine mr_ld hC hI 40 (by decide) (by decide) (show vp_in (nI k) 12 from vp_in_nI (by omega) (by decide)) (v := ((((much.toInt64) * ((fX8_hundredthsOf S k).toInt64)) / (100 : Int64)).toInt32)) ((congrArg ((upr (up (up (up (up (up (up S 41 k (fX8_hundredthsOf S k)) 39 k much) 40 k ((((much.toInt64) * ((fX8_hundredthsOf S k).toInt64)) / (100 : Int64)).toInt32)) 2 (ix (S 30 k)) ((S 2 (ix (S 30 k))) - much)) 4 (ix (S 30 k)) ((S 4 (ix (S 30 k))) + much)) 6 0 ((S 6 0) + (much - ((((much.toInt64) * ((fX8_hundredthsOf S k).toInt64)) / (100 : Int64)).toInt32)))) 47 w94_47) 40) (nI_clamp (by omega))).trans ((congrFun (upr_ne (by decide)) _).trans ((congrFun (up_ne (by decide)) _).trans ((congrFun (up_ne (by decide)) _).trans ((congrFun (up_ne (by decide)) _).trans (up_at _ _ _ _)))))) dX8_wins_140 ?_
        refine lv_i2l hx hb dX8_wins_141 rfl ?_
        refine lv_aload_n hx hb dX8_wins_142 rfl (lv_at hl 3 rfl) ?_
        refine mr_ga hC hin hI 26 (by decide) k_71 dX8_wins_143 ?_
        refine lv_iload hx hb dX8_wins_146 (lv_at hl 0 rfl) ?_
        refine mr_ld hC hI 26 (by decide) (by decide) (show vp_in (nI i94) 20 from vp_in_nI (by omega) (by decide)) (v := (S 26 i94)) ((congrArg ((upr (up (up (up (up (up (up S 41 k (fX8_hundredthsOf S k)) 39 k much) 40 k ((((much.toInt64) * ((fX8_hundredthsOf S k).toInt64)) / (100 : Int64)).toInt32)) 2 (ix (S 30 k)) ((S 2 (ix (S 30 k))) - much)) 4 (ix (S 30 k)) ((S 4 (ix (S 30 k))) + much)) 6 0 ((S 6 0) + (much - ((((much.toInt64) * ((fX8_hundredthsOf S k).toInt64)) / (100 : Int64)).toInt32)))) 47 w94_47) 26) (nI_clamp (by omega))).trans ((congrFun (upr_ne (by decide)) _).trans ((congrFun (up_ne (by decide)) _).trans ((congrFun (up_ne (by decide)) _).trans ((congrFun (up_ne (by decide)) _).trans ((congrFun (up_ne (by decide)) _).trans ((congrFun (up_ne (by decide)) _).trans (congrFun (up_ne (by decide)) _)))))))) dX8_wins_148 ?_
        refine lv_i2l hx hb dX8_wins_149 rfl ?_
        refine lv_lmul hx hb dX8_wins_150 ?_
        refine lv_ldc2 hx hb hown k_227 dX8_wins_151 ?_
        refine lv_ldiv hx hb dX8_wins_154 (by decide) ?_
        refine lv_l2i hx hb dX8_wins_155 rfl ?_
        refine lv_istore (lv' := [(6, .int ((((((((much.toInt64) * ((fX8_hundredthsOf S k).toInt64)) / (100 : Int64)).toInt32).toInt64) * ((S 26 i94).toInt64)) / (100 : Int64)).toInt32)), (5, .int (nI i94)), (4, .int x94_4), (3, .int (S 30 k)), (0, .ref o), (1, .int (nI k)), (2, .int much)]) hx hb dX8_wins_156 hl (by decide) rfl (fun ls hl => ?_)
        refine lv_aload_n hx hb dX8_wins_158 rfl (lv_at hl 4 rfl) ?_
        refine mr_ga hC hin hI 47 (by decide) k_128 dX8_wins_159 ?_
        refine lv_aload_n hx hb dX8_wins_162 rfl (lv_at hl 4 rfl) ?_
        refine mr_ga hC hin hI 25 (by decide) k_68 dX8_wins_163 ?_
        refine lv_iload hx hb dX8_wins_166 (lv_at hl 1 rfl) ?_
        refine mr_ld hC hI 25 (by decide) (by decide) (show vp_in (nI i94) 20 from vp_in_nI (by omega) (by decide)) (v := (S 25 i94)) ((congrArg ((upr (up (up (up (up (up (up S 41 k (fX8_hundredthsOf S k)) 39 k much) 40 k ((((much.toInt64) * ((fX8_hundredthsOf S k).toInt64)) / (100 : Int64)).toInt32)) 2 (ix (S 30 k)) ((S 2 (ix (S 30 k))) - much)) 4 (ix (S 30 k)) ((S 4 (ix (S 30 k))) + much)) 6 0 ((S 6 0) + (much - ((((much.toInt64) * ((fX8_hundredthsOf S k).toInt64)) / (100 : Int64)).toInt32)))) 47 w94_47) 25) (nI_clamp (by omega))).trans ((congrFun (upr_ne (by decide)) _).trans ((congrFun (up_ne (by decide)) _).trans ((congrFun (up_ne (by decide)) _).trans ((congrFun (up_ne (by decide)) _).trans ((congrFun (up_ne (by decide)) _).trans ((congrFun (up_ne (by decide)) _).trans (congrFun (up_ne (by decide)) _)))))))) dX8_wins_168 ?_
        refine lv_dup2_11 hx hb dX8_wins_169 rfl rfl ?_
        refine mr_ld hC hI 47 (by decide) (by decide) (hN.v25 i94) (v := (w94_47 (ix (S 25 i94)))) (congrFun (upr_at _ _ _) _) dX8_wins_170 ?_
        refine lv_iload hx hb dX8_wins_171 (lv_at hl 0 rfl) ?_
        refine lv_iadd hx hb dX8_wins_173 ?_
        refine mr_st hC hL hI 47 (by decide) (by decide) (hN.v25 i94) (n := (ix (S 25 i94))) rfl dX8_wins_174 (fun H locs hI => ?_)
        refine lv_iload hx hb dX8_wins_175 (lv_at hl 2 rfl) ?_
        refine lv_iload hx hb dX8_wins_177 (lv_at hl 0 rfl) ?_
        refine lv_isub hx hb dX8_wins_179 ?_
        refine lv_istore (lv' := [(4, .int (x94_4 - ((((((((much.toInt64) * ((fX8_hundredthsOf S k).toInt64)) / (100 : Int64)).toInt32).toInt64) * ((S 26 i94).toInt64)) / (100 : Int64)).toInt32))), (6, .int ((((((((much.toInt64) * ((fX8_hundredthsOf S k).toInt64)) / (100 : Int64)).toInt32).toInt64) * ((S 26 i94).toInt64)) / (100 : Int64)).toInt32)), (5, .int (nI i94)), (3, .int (S 30 k)), (0, .ref o), (1, .int (nI k)), (2, .int much)]) hx hb dX8_wins_180 hl (by decide) rfl (fun ls hl => ?_)
        refine lv_iinc (v := (nI (i94 + 1))) (lv' := [(5, .int (nI (i94 + 1))), (4, .int (x94_4 - ((((((((much.toInt64) * ((fX8_hundredthsOf S k).toInt64)) / (100 : Int64)).toInt32).toInt64) * ((S 26 i94).toInt64)) / (100 : Int64)).toInt32))), (6, .int ((((((((much.toInt64) * ((fX8_hundredthsOf S k).toInt64)) / (100 : Int64)).toInt32).toInt64) * ((S 26 i94).toInt64)) / (100 : Int64)).toInt32)), (3, .int (S 30 k)), (0, .ref o), (1, .int (nI k)), (2, .int much)]) hx hb dX8_wins_182 hl (k := 2) rfl (nI_1 i94) (by decide) rfl (fun ls hl => ?_)
        refine lv_goto (tgt := 94) hx hb dX8_wins_185 (by decide) ?_
        exact ih94 ((x94_4 - ((((((((much.toInt64) * ((fX8_hundredthsOf S k).toInt64)) / (100 : Int64)).toInt32).toInt64) * ((S 26 i94).toInt64)) / (100 : Int64)).toInt32)), (upd w94_47 (ix (S 25 i94)) ((w94_47 (ix (S 25 i94))) + ((((((((much.toInt64) * ((fX8_hundredthsOf S k).toInt64)) / (100 : Int64)).toInt32).toInt64) * ((S 26 i94).toInt64)) / (100 : Int64)).toInt32)))) _ _ ls hlt94 ⟨(by show _ = iX8_wins_94 S k much i94 (lX8_wins_94 S k much i94).1 (lX8_wins_94 S k much i94).2; rw [← hz94]; exact hB94.symm), (MI_eq hI (upr_up _ _ _ _ _)), lv_sub hl [0, 1, 3, 4, 5, 6] rfl⟩
set_option maxHeartbeats 4000000 in
set_option maxRecDepth 100000 in
theorem qX8_judge (l : Launch) (A : Nat → Prop) (D : va_G) (cy : Nat → ClassId) (o : Nat) (ad : Nat → Nat) (hL : ML A o ad) (S : St) (th : Int32) (hN : MInv S) (k : Int32) : MMut l A D cy o ad S th yX8_judge wsX8_judge ({ frames := 7, cells := 0, slots := 0, locals := 166 } : Room) [.int k] (fX8_judge S k).1 (fX8_judge S k).2.2 (fX8_judge S k).2.1 := by
  refine Met.ofW (cc := cX8_judge) (maxL := 4) (ret := (some .int)) (by decide) rfl ?_
  intro p e s m args below meth c s₁ B hml hv
  obtain ⟨rfl, hM, hK⟩ := hv
  have hx := B.exec
  have hb := B.bytes
  have hr := B.returns
  have hts := atoms_spec (ws := wsX8_judge) B.pre
  have hown : s.vm.findClass RX8 = some m.cls := findClass_of_methodNamed B.named
  have hlocks := B.notSynchronized
  have hC : MC p s m _ c cX8_judge 4 D cy wsX8_judge := ⟨⟨hx, hb, hml, hown, hts⟩, hK⟩
  have hin : ∀ w ∈ wsX80, w ∈ wsX8_judge := fun _ h => List.mem_cons_of_mem _ (List.mem_append_right _ (h))
  have hI : MI A D cy o ad s S th s.heap [] := ⟨hM, va_S.rf⟩
  have hb7 := hN.b7
  have hb15 := hN.b15
  have hb23 := hN.b23
  have hb28 := hN.b28
  have hb42 := hN.b42
  have k_92 := hts (.fieldLink RX8 92 "RelatorsBenchModel" "how" "[I") (List.mem_cons_of_mem _ (List.mem_append_left _ (List.mem_append_left _ (List.mem_of_getElem? (i := 0) rfl))))
  have k_152 := hts (.fieldLink RX8 152 "RelatorsBenchModel" "thrown" "I") (List.mem_cons_of_mem _ (List.mem_append_left _ (List.mem_append_left _ (List.mem_of_getElem? (i := 1) rfl))))
  have k_7 := hts (.fieldLink RX8 7 "RelatorsBenchModel" "money" "[I") (List.mem_cons_of_mem _ (List.mem_append_left _ (List.mem_append_left _ (List.mem_of_getElem? (i := 2) rfl))))
  have k_80 := hts (.fieldLink RX8 80 "RelatorsBenchModel" "against" "[I") (List.mem_cons_of_mem _ (List.mem_append_left _ (List.mem_append_left _ (List.mem_of_getElem? (i := 3) rfl))))
  have hl := lv_entry ([.ref o, .int k]) (n := 4) (Nat.le_of_ble_eq_true rfl)
  rw [lg_entry_eq]
  generalize (lg_sl ([.ref o, .int k]) ++ List.replicate (4 - (lg_sl ([.ref o, .int k])).length) Slot.unset).toArray = ls at hl ⊢
  have hl : lv_has ls 4 [(0, .ref o), (1, .int k)] := hl
  have hG : fX8_judge S k = fX8_judge S k := rfl
  refine lv_aload_n hx hb dX8_judge_0 rfl (lv_at hl 0 rfl) ?_
  refine lv_aload_n hx hb dX8_judge_1 rfl (lv_at hl 0 rfl) ?_
  refine lv_iload_n hx hb dX8_judge_2 rfl (lv_at hl 1 rfl) ?_
  refine mr_call (As := [.int k]) (rest := [.ref o]) hC hI (qX8_isSuit l D cy o ad S th k) (cwV 1 hts gX8_judge_X8_isSuit rfl rfl rfl (by decide +kernel) ⟨Nat.le_of_ble_eq_true rfl, Nat.le_of_ble_eq_true rfl⟩) rfl hl.1 rfl (Nat.le_of_ble_eq_true rfl) dX8_judge_3 ⟨Nat.zero_le _, Nat.zero_le _⟩ (fun H locs hI => ?_)
  refine lv_if_ne (tgt := 13) hx hb dX8_judge_6 (by decide) (fun c_1 => ?_) (fun c_1 => ?_)
  · have hG := hG.trans (if_neg c_1)
    refine lv_aload_n hx hb dX8_judge_13 rfl (lv_at hl 0 rfl) ?_
    refine mr_ga hC hin hI 34 (by decide) k_92 dX8_judge_14 ?_
    refine lv_iload_n hx hb dX8_judge_17 rfl (lv_at hl 1 rfl) ?_
    refine mr_ld hC hI 34 (by decide) (by decide) (isSuit_in hN (by assumption)) (v := (S 34 (ix k))) rfl dX8_judge_18 ?_
    refine lv_iconst (v := 1) hx hb dX8_judge_19 (by decide) ?_
    refine lv_icmp_eq (tgt := 37) hx hb dX8_judge_20 (by decide) (fun c_2 => ?_) (fun c_2 => ?_)
    · have hG := hG.trans (if_pos c_2)
      refine lv_iconst (v := 0) hx hb dX8_judge_37 (by decide) ?_
      refine mr_pt hC hin hL hI k_152 dX8_judge_38 (fun H locs hI => ?_)
      refine lv_aload_n hx hb dX8_judge_41 rfl (lv_at hl 0 rfl) ?_
      refine mr_gt hC hin hI k_152 dX8_judge_42 ?_
      refine lv_if_le (tgt := 50) hx hb dX8_judge_45 (by decide) (fun _ => ?_) (fun c => absurd (by decide : (0 : Int32) ≤ 0) c)
      refine lv_aload_n hx hb dX8_judge_50 rfl (lv_at hl 0 rfl) ?_
      refine lv_iload_n hx hb dX8_judge_51 rfl (lv_at hl 1 rfl) ?_
      refine mr_call (As := [.int k]) (rest := []) hC hI (qX8_dues l D cy o ad S 0 hN (ix k) (vp_ixl (isSuit_in hN (by assumption))) (vp_ixe (isSuit_in hN (by assumption)))) (cwV 1 hts gX8_judge_X8_dues rfl rfl rfl (by decide +kernel) ⟨Nat.le_of_ble_eq_true rfl, Nat.le_of_ble_eq_true rfl⟩) rfl hl.1 rfl (Nat.le_of_ble_eq_true rfl) dX8_judge_52 ⟨Nat.zero_le _, Nat.zero_le _⟩ (fun H locs hI => ?_)
      refine lv_istore_n (lv' := [(2, .int (fX8_dues S (ix k))), (0, .ref o), (1, .int k)]) hx hb dX8_judge_55 rfl hl (by decide) rfl (fun ls hl => ?_)
      refine lv_iload_n hx hb dX8_judge_56 rfl (lv_at hl 0 rfl) ?_
      refine lv_aload_n hx hb dX8_judge_57 rfl (lv_at hl 1 rfl) ?_
      refine mr_ga hC hin hI 2 (by decide) k_7 dX8_judge_58 ?_
      refine lv_aload_n hx hb dX8_judge_61 rfl (lv_at hl 1 rfl) ?_
      refine mr_ga hC hin hI 30 (by decide) k_80 dX8_judge_62 ?_
      refine lv_iload_n hx hb dX8_judge_65 rfl (lv_at hl 2 rfl) ?_
      refine mr_ld hC hI 30 (by decide) (by decide) (isSuit_in hN (by assumption)) (v := (S 30 (ix k))) rfl dX8_judge_66 ?_
      refine mr_ld hC hI 2 (by decide) (by decide) (hN.v30 (ix k)) (v := (S 2 (ix (S 30 (ix k))))) rfl dX8_judge_67 ?_
      have hG : fX8_judge S k = bX8_judge_86 S k (jX8_judge_86 S k) := hG
      refine w_join (σ := Int32) 86 (fun y86_0 H locs ls => jX8_judge_86 S k = y86_0 ∧ MI A D cy o ad s S 0 H locs ∧ lv_has ls 4 [(2, .int (fX8_dues S (ix k))), (0, .ref o), (1, .int k)]) (fun y86_0 => [.int y86_0]) ?_ (fun J86 => ?_)
      · intro y86_0 H locs ls ⟨hy86_0, hI, hl⟩
        rw [hy86_0] at hG
        refine lv_istore_n (lv' := [(3, .int y86_0), (2, .int (fX8_dues S (ix k))), (0, .ref o), (1, .int k)]) hx hb dX8_judge_86 rfl hl (by decide) rfl (fun ls hl => ?_)
        refine lv_aload_n hx hb dX8_judge_87 rfl (lv_at hl 2 rfl) ?_
        refine lv_iload_n hx hb dX8_judge_88 rfl (lv_at hl 3 rfl) ?_
        refine lv_iload_n hx hb dX8_judge_89 rfl (lv_at hl 0 rfl) ?_
        refine mr_callMV (As := [.int k, .int y86_0]) (rest := []) hC hI (qX8_wins l A D cy o ad hL S 0 hN (ix k) (vp_ixl (isSuit_in hN (by assumption))) (vp_ixe (isSuit_in hN (by assumption))) y86_0) (cwV 2 hts gX8_judge_X8_wins rfl rfl rfl (by decide +kernel) ⟨Nat.le_of_ble_eq_true rfl, Nat.le_of_ble_eq_true rfl⟩) rfl hl.1 rfl (Nat.le_of_ble_eq_true rfl) dX8_judge_90 ⟨Nat.zero_le _, Nat.zero_le _⟩ (fun H locs hI => ?_)
        refine lv_iload_n hx hb dX8_judge_93 rfl (lv_at hl 0 rfl) ?_
        exact W.iret (v := y86_0) hx hb hr (fun t9 ht9 hW9 => ⟨⟨y86_0, (), rfl, (congrArg Prod.fst hG).symm, by show MH D cy o ad _ _ t9.heap; rw [ht9, hG]; exact hI.1⟩, hI.2.F ht9⟩) hI.2.2.2 dX8_judge_94
      · have hB86 : jX8_judge_86 S k = jX8_judge_86 S k := rfl
        refine lv_icmp_ge (tgt := 75) hx hb dX8_judge_68 (by decide) (fun c_3 => ?_) (fun c_3 => ?_)
        · have hB86 := hB86.trans (if_pos c_3)
          refine lv_aload_n hx hb dX8_judge_75 rfl (lv_at hl 1 rfl) ?_
          refine mr_ga hC hin hI 2 (by decide) k_7 dX8_judge_76 ?_
          refine lv_aload_n hx hb dX8_judge_79 rfl (lv_at hl 1 rfl) ?_
          refine mr_ga hC hin hI 30 (by decide) k_80 dX8_judge_80 ?_
          refine lv_iload_n hx hb dX8_judge_83 rfl (lv_at hl 2 rfl) ?_
          refine mr_ld hC hI 30 (by decide) (by decide) (isSuit_in hN (by assumption)) (v := (S 30 (ix k))) rfl dX8_judge_84 ?_
          refine mr_ld hC hI 2 (by decide) (by decide) (hN.v30 (ix k)) (v := (S 2 (ix (S 30 (ix k))))) rfl dX8_judge_85 ?_
          exact J86 (S 2 (ix (S 30 (ix k)))) _ _ ls ⟨hB86, hI, lv_sub hl [0, 1, 2] rfl⟩
        · have hB86 := hB86.trans (if_neg c_3)
          refine lv_iload_n hx hb dX8_judge_71 rfl (lv_at hl 0 rfl) ?_
          refine lv_goto (tgt := 86) hx hb dX8_judge_72 (by decide) ?_
          exact J86 (fX8_dues S (ix k)) _ _ ls ⟨hB86, hI, lv_sub hl [0, 1, 2] rfl⟩
    · have hG := hG.trans (if_neg c_2)
      refine lv_aload_n hx hb dX8_judge_23 rfl (lv_at hl 0 rfl) ?_
      refine mr_ga hC hin hI 34 (by decide) k_92 dX8_judge_24 ?_
      refine lv_iload_n hx hb dX8_judge_27 rfl (lv_at hl 1 rfl) ?_
      refine mr_ld hC hI 34 (by decide) (by decide) (isSuit_in hN (by assumption)) (v := (S 34 (ix k))) rfl dX8_judge_28 ?_
      refine lv_iconst (v := 2) hx hb dX8_judge_29 (by decide) ?_
      refine lv_icmp_eq (tgt := 37) hx hb dX8_judge_30 (by decide) (fun c_4 => ?_) (fun c_4 => ?_)
      · have hG := hG.trans (if_pos c_4)
        refine lv_iconst (v := 0) hx hb dX8_judge_37 (by decide) ?_
        refine mr_pt hC hin hL hI k_152 dX8_judge_38 (fun H locs hI => ?_)
        refine lv_aload_n hx hb dX8_judge_41 rfl (lv_at hl 0 rfl) ?_
        refine mr_gt hC hin hI k_152 dX8_judge_42 ?_
        refine lv_if_le (tgt := 50) hx hb dX8_judge_45 (by decide) (fun _ => ?_) (fun c => absurd (by decide : (0 : Int32) ≤ 0) c)
        refine lv_aload_n hx hb dX8_judge_50 rfl (lv_at hl 0 rfl) ?_
        refine lv_iload_n hx hb dX8_judge_51 rfl (lv_at hl 1 rfl) ?_
        refine mr_call (As := [.int k]) (rest := []) hC hI (qX8_dues l D cy o ad S 0 hN (ix k) (vp_ixl (isSuit_in hN (by assumption))) (vp_ixe (isSuit_in hN (by assumption)))) (cwV 1 hts gX8_judge_X8_dues rfl rfl rfl (by decide +kernel) ⟨Nat.le_of_ble_eq_true rfl, Nat.le_of_ble_eq_true rfl⟩) rfl hl.1 rfl (Nat.le_of_ble_eq_true rfl) dX8_judge_52 ⟨Nat.zero_le _, Nat.zero_le _⟩ (fun H locs hI => ?_)
        refine lv_istore_n (lv' := [(2, .int (fX8_dues S (ix k))), (0, .ref o), (1, .int k)]) hx hb dX8_judge_55 rfl hl (by decide) rfl (fun ls hl => ?_)
        refine lv_iload_n hx hb dX8_judge_56 rfl (lv_at hl 0 rfl) ?_
        refine lv_aload_n hx hb dX8_judge_57 rfl (lv_at hl 1 rfl) ?_
        refine mr_ga hC hin hI 2 (by decide) k_7 dX8_judge_58 ?_
        refine lv_aload_n hx hb dX8_judge_61 rfl (lv_at hl 1 rfl) ?_
        refine mr_ga hC hin hI 30 (by decide) k_80 dX8_judge_62 ?_
        refine lv_iload_n hx hb dX8_judge_65 rfl (lv_at hl 2 rfl) ?_
        refine mr_ld hC hI 30 (by decide) (by decide) (isSuit_in hN (by assumption)) (v := (S 30 (ix k))) rfl dX8_judge_66 ?_
        refine mr_ld hC hI 2 (by decide) (by decide) (hN.v30 (ix k)) (v := (S 2 (ix (S 30 (ix k))))) rfl dX8_judge_67 ?_
        have hG : fX8_judge S k = bX8_judge_86 S k (jX8_judge_86 S k) := hG
        refine w_join (σ := Int32) 86 (fun y86_0 H locs ls => jX8_judge_86 S k = y86_0 ∧ MI A D cy o ad s S 0 H locs ∧ lv_has ls 4 [(2, .int (fX8_dues S (ix k))), (0, .ref o), (1, .int k)]) (fun y86_0 => [.int y86_0]) ?_ (fun J86 => ?_)
        · intro y86_0 H locs ls ⟨hy86_0, hI, hl⟩
          rw [hy86_0] at hG
          refine lv_istore_n (lv' := [(3, .int y86_0), (2, .int (fX8_dues S (ix k))), (0, .ref o), (1, .int k)]) hx hb dX8_judge_86 rfl hl (by decide) rfl (fun ls hl => ?_)
          refine lv_aload_n hx hb dX8_judge_87 rfl (lv_at hl 2 rfl) ?_
          refine lv_iload_n hx hb dX8_judge_88 rfl (lv_at hl 3 rfl) ?_
          refine lv_iload_n hx hb dX8_judge_89 rfl (lv_at hl 0 rfl) ?_
          refine mr_callMV (As := [.int k, .int y86_0]) (rest := []) hC hI (qX8_wins l A D cy o ad hL S 0 hN (ix k) (vp_ixl (isSuit_in hN (by assumption))) (vp_ixe (isSuit_in hN (by assumption))) y86_0) (cwV 2 hts gX8_judge_X8_wins rfl rfl rfl (by decide +kernel) ⟨Nat.le_of_ble_eq_true rfl, Nat.le_of_ble_eq_true rfl⟩) rfl hl.1 rfl (Nat.le_of_ble_eq_true rfl) dX8_judge_90 ⟨Nat.zero_le _, Nat.zero_le _⟩ (fun H locs hI => ?_)
          refine lv_iload_n hx hb dX8_judge_93 rfl (lv_at hl 0 rfl) ?_
          exact W.iret (v := y86_0) hx hb hr (fun t9 ht9 hW9 => ⟨⟨y86_0, (), rfl, (congrArg Prod.fst hG).symm, by show MH D cy o ad _ _ t9.heap; rw [ht9, hG]; exact hI.1⟩, hI.2.F ht9⟩) hI.2.2.2 dX8_judge_94
        · have hB86 : jX8_judge_86 S k = jX8_judge_86 S k := rfl
          refine lv_icmp_ge (tgt := 75) hx hb dX8_judge_68 (by decide) (fun c_5 => ?_) (fun c_5 => ?_)
          · have hB86 := hB86.trans (if_pos c_5)
            refine lv_aload_n hx hb dX8_judge_75 rfl (lv_at hl 1 rfl) ?_
            refine mr_ga hC hin hI 2 (by decide) k_7 dX8_judge_76 ?_
            refine lv_aload_n hx hb dX8_judge_79 rfl (lv_at hl 1 rfl) ?_
            refine mr_ga hC hin hI 30 (by decide) k_80 dX8_judge_80 ?_
            refine lv_iload_n hx hb dX8_judge_83 rfl (lv_at hl 2 rfl) ?_
            refine mr_ld hC hI 30 (by decide) (by decide) (isSuit_in hN (by assumption)) (v := (S 30 (ix k))) rfl dX8_judge_84 ?_
            refine mr_ld hC hI 2 (by decide) (by decide) (hN.v30 (ix k)) (v := (S 2 (ix (S 30 (ix k))))) rfl dX8_judge_85 ?_
            exact J86 (S 2 (ix (S 30 (ix k)))) _ _ ls ⟨hB86, hI, lv_sub hl [0, 1, 2] rfl⟩
          · have hB86 := hB86.trans (if_neg c_5)
            refine lv_iload_n hx hb dX8_judge_71 rfl (lv_at hl 0 rfl) ?_
            refine lv_goto (tgt := 86) hx hb dX8_judge_72 (by decide) ?_
            exact J86 (fX8_dues S (ix k)) _ _ ls ⟨hB86, hI, lv_sub hl [0, 1, 2] rfl⟩
      · have hG := hG.trans (if_neg c_4)
        refine lv_iconst (v := 2) hx hb dX8_judge_33 (by decide) ?_
        refine lv_goto (tgt := 38) hx hb dX8_judge_34 (by decide) ?_
        refine mr_pt hC hin hL hI k_152 dX8_judge_38 (fun H locs hI => ?_)
        refine lv_aload_n hx hb dX8_judge_41 rfl (lv_at hl 0 rfl) ?_
        refine mr_gt hC hin hI k_152 dX8_judge_42 ?_
        refine lv_if_le (tgt := 50) hx hb dX8_judge_45 (by decide) (fun c => absurd c (by decide : ¬ (2 : Int32) ≤ 0)) (fun _ => ?_)
        refine lv_iconst (v := 0) hx hb dX8_judge_48 (by decide) ?_
        exact W.iret (v := 0) hx hb hr (fun t9 ht9 hW9 => ⟨⟨0, (), rfl, (congrArg Prod.fst hG).symm, by show MH D cy o ad _ _ t9.heap; rw [ht9, hG]; exact hI.1⟩, hI.2.F ht9⟩) hI.2.2.2 dX8_judge_49
  · have hG := hG.trans (if_pos c_1)
    refine lv_iconst (v := 1) hx hb dX8_judge_9 (by decide) ?_
    refine lv_goto (tgt := 38) hx hb dX8_judge_10 (by decide) ?_
    refine mr_pt hC hin hL hI k_152 dX8_judge_38 (fun H locs hI => ?_)
    refine lv_aload_n hx hb dX8_judge_41 rfl (lv_at hl 0 rfl) ?_
    refine mr_gt hC hin hI k_152 dX8_judge_42 ?_
    refine lv_if_le (tgt := 50) hx hb dX8_judge_45 (by decide) (fun c => absurd c (by decide : ¬ (1 : Int32) ≤ 0)) (fun _ => ?_)
    refine lv_iconst (v := 0) hx hb dX8_judge_48 (by decide) ?_
    exact W.iret (v := 0) hx hb hr (fun t9 ht9 hW9 => ⟨⟨0, (), rfl, (congrArg Prod.fst hG).symm, by show MH D cy o ad _ _ t9.heap; rw [ht9, hG]; exact hI.1⟩, hI.2.F ht9⟩) hI.2.2.2 dX8_judge_49
set_option maxHeartbeats 4000000 in
set_option maxRecDepth 100000 in
theorem qX8_settle (l : Launch) (A : Nat → Prop) (D : va_G) (cy : Nat → ClassId) (o : Nat) (ad : Nat → Nat) (hL : ML A o ad) (S : St) (th : Int32) (hN : MInv S) (k : Int32) (sum : Int32) : MMut l A D cy o ad S th yX8_settle wsX8_settle ({ frames := 7, cells := 0, slots := 0, locals := 166 } : Room) [.int k, .int sum] (fX8_settle S k sum).1 (fX8_settle S k sum).2.2 (fX8_settle S k sum).2.1 := by
  refine Met.ofW (cc := cX8_settle) (maxL := 4) (ret := (some .int)) (by decide) rfl ?_
  intro p e s m args below meth c s₁ B hml hv
  obtain ⟨rfl, hM, hK⟩ := hv
  have hx := B.exec
  have hb := B.bytes
  have hr := B.returns
  have hts := atoms_spec (ws := wsX8_settle) B.pre
  have hown : s.vm.findClass RX8 = some m.cls := findClass_of_methodNamed B.named
  have hlocks := B.notSynchronized
  have hC : MC p s m _ c cX8_settle 4 D cy wsX8_settle := ⟨⟨hx, hb, hml, hown, hts⟩, hK⟩
  have hin : ∀ w ∈ wsX80, w ∈ wsX8_settle := fun _ h => List.mem_cons_of_mem _ (List.mem_append_right _ (h))
  have hI : MI A D cy o ad s S th s.heap [] := ⟨hM, va_S.rf⟩
  have hb7 := hN.b7
  have hb15 := hN.b15
  have hb23 := hN.b23
  have hb28 := hN.b28
  have hb42 := hN.b42
  have k_171 := hts (.constant RX8 171 (100000000)) (List.mem_cons_of_mem _ (List.mem_append_left _ (List.mem_append_left _ (List.mem_of_getElem? (i := 0) rfl))))
  have k_152 := hts (.fieldLink RX8 152 "RelatorsBenchModel" "thrown" "I") (List.mem_cons_of_mem _ (List.mem_append_left _ (List.mem_append_left _ (List.mem_of_getElem? (i := 1) rfl))))
  have k_92 := hts (.fieldLink RX8 92 "RelatorsBenchModel" "how" "[I") (List.mem_cons_of_mem _ (List.mem_append_left _ (List.mem_append_left _ (List.mem_of_getElem? (i := 2) rfl))))
  have k_7 := hts (.fieldLink RX8 7 "RelatorsBenchModel" "money" "[I") (List.mem_cons_of_mem _ (List.mem_append_left _ (List.mem_append_left _ (List.mem_of_getElem? (i := 3) rfl))))
  have k_80 := hts (.fieldLink RX8 80 "RelatorsBenchModel" "against" "[I") (List.mem_cons_of_mem _ (List.mem_append_left _ (List.mem_append_left _ (List.mem_of_getElem? (i := 4) rfl))))
  have k_110 := hts (.fieldLink RX8 110 "RelatorsBenchModel" "share" "[I") (List.mem_cons_of_mem _ (List.mem_append_left _ (List.mem_append_left _ (List.mem_of_getElem? (i := 5) rfl))))
  have hl := lv_entry ([.ref o, .int k, .int sum]) (n := 4) (Nat.le_of_ble_eq_true rfl)
  rw [lg_entry_eq]
  generalize (lg_sl ([.ref o, .int k, .int sum]) ++ List.replicate (4 - (lg_sl ([.ref o, .int k, .int sum])).length) Slot.unset).toArray = ls at hl ⊢
  have hl : lv_has ls 4 [(0, .ref o), (1, .int k), (2, .int sum)] := hl
  have hG : fX8_settle S k sum = fX8_settle S k sum := rfl
  refine lv_aload_n hx hb dX8_settle_0 rfl (lv_at hl 0 rfl) ?_
  refine lv_aload_n hx hb dX8_settle_1 rfl (lv_at hl 0 rfl) ?_
  refine lv_iload_n hx hb dX8_settle_2 rfl (lv_at hl 1 rfl) ?_
  refine mr_call (As := [.int k]) (rest := [.ref o]) hC hI (qX8_isSuit l D cy o ad S th k) (cwV 1 hts gX8_settle_X8_isSuit rfl rfl rfl (by decide +kernel) ⟨Nat.le_of_ble_eq_true rfl, Nat.le_of_ble_eq_true rfl⟩) rfl hl.1 rfl (Nat.le_of_ble_eq_true rfl) dX8_settle_3 ⟨Nat.zero_le _, Nat.zero_le _⟩ (fun H locs hI => ?_)
  refine lv_if_ne (tgt := 13) hx hb dX8_settle_6 (by decide) (fun c_1 => ?_) (fun c_1 => ?_)
  · have hG := hG.trans (if_neg c_1)
    refine lv_iload_n hx hb dX8_settle_13 rfl (lv_at hl 2 rfl) ?_
    refine lv_iconst (v := 0) hx hb dX8_settle_14 (by decide) ?_
    refine lv_ldc hx hb hown k_171 dX8_settle_15 ?_
    refine mr_callS (As := [.int sum, .int 0, .int 100000000]) (rest := [.ref o]) hC hI (qX8_in l sum 0 100000000) (va_cwS 3 hts gX8_settle_X8_in rfl rfl rfl (by decide +kernel) ⟨Nat.le_of_ble_eq_true rfl, Nat.le_of_ble_eq_true rfl⟩) rfl hl.1 rfl (Nat.le_of_ble_eq_true rfl) dX8_settle_17 ⟨Nat.zero_le _, Nat.zero_le _⟩ (fun H locs hI => ?_)
    refine lv_if_ne (tgt := 27) hx hb dX8_settle_20 (by decide) (fun c_2 => ?_) (fun c_2 => ?_)
    · have hG := hG.trans (if_neg c_2)
      refine lv_iconst (v := 0) hx hb dX8_settle_27 (by decide) ?_
      refine mr_pt hC hin hL hI k_152 dX8_settle_28 (fun H locs hI => ?_)
      refine lv_aload_n hx hb dX8_settle_31 rfl (lv_at hl 0 rfl) ?_
      refine mr_gt hC hin hI k_152 dX8_settle_32 ?_
      refine lv_if_le (tgt := 40) hx hb dX8_settle_35 (by decide) (fun _ => ?_) (fun c => absurd (by decide : (0 : Int32) ≤ 0) c)
      refine lv_aload_n hx hb dX8_settle_40 rfl (lv_at hl 0 rfl) ?_
      refine mr_ga hC hin hI 34 (by decide) k_92 dX8_settle_41 ?_
      refine lv_iload_n hx hb dX8_settle_44 rfl (lv_at hl 1 rfl) ?_
      refine mr_ld hC hI 34 (by decide) (by decide) (isSuit_in hN (by assumption)) (v := (S 34 (ix k))) rfl dX8_settle_45 ?_
      refine lv_iconst (v := 1) hx hb dX8_settle_46 (by decide) ?_
      refine lv_icmp_eq (tgt := 60) hx hb dX8_settle_47 (by decide) (fun c_3 => ?_) (fun c_3 => ?_)
      · have hG := hG.trans (if_pos c_3)
        refine lv_iload_n hx hb dX8_settle_60 rfl (lv_at hl 2 rfl) ?_
        refine lv_aload_n hx hb dX8_settle_61 rfl (lv_at hl 0 rfl) ?_
        refine mr_ga hC hin hI 2 (by decide) k_7 dX8_settle_62 ?_
        refine lv_aload_n hx hb dX8_settle_65 rfl (lv_at hl 0 rfl) ?_
        refine mr_ga hC hin hI 30 (by decide) k_80 dX8_settle_66 ?_
        refine lv_iload_n hx hb dX8_settle_69 rfl (lv_at hl 1 rfl) ?_
        refine mr_ld hC hI 30 (by decide) (by decide) (isSuit_in hN (by assumption)) (v := (S 30 (ix k))) rfl dX8_settle_70 ?_
        refine mr_ld hC hI 2 (by decide) (by decide) (hN.v30 (ix k)) (v := (S 2 (ix (S 30 (ix k))))) rfl dX8_settle_71 ?_
        refine lv_icmp_gt (tgt := 100) hx hb dX8_settle_72 (by decide) (fun c_4 => ?_) (fun c_4 => ?_)
        · have hG := hG.trans (if_pos c_4)
          refine lv_iconst (v := 0) hx hb dX8_settle_100 (by decide) ?_
          refine lv_istore_n (lv' := [(3, .int 0), (0, .ref o), (1, .int k), (2, .int sum)]) hx hb dX8_settle_101 rfl hl (by decide) rfl (fun ls hl => ?_)
          refine lv_aload_n hx hb dX8_settle_102 rfl (lv_at hl 1 rfl) ?_
          refine lv_iload_n hx hb dX8_settle_103 rfl (lv_at hl 0 rfl) ?_
          refine lv_if_eq (tgt := 111) hx hb dX8_settle_104 (by decide) (fun _ => ?_) (fun c => absurd (by decide : (0 : Int32) = 0) c)
          refine lv_iconst (v := 3) hx hb dX8_settle_111 (by decide) ?_
          refine mr_pt hC hin hL hI k_152 dX8_settle_112 (fun H locs hI => ?_)
          refine lv_aload_n hx hb dX8_settle_115 rfl (lv_at hl 1 rfl) ?_
          refine mr_gt hC hin hI k_152 dX8_settle_116 ?_
          refine lv_if_le (tgt := 124) hx hb dX8_settle_119 (by decide) (fun c => absurd c (by decide : ¬ (3 : Int32) ≤ 0)) (fun _ => ?_)
          refine lv_iconst (v := 0) hx hb dX8_settle_122 (by decide) ?_
          exact W.iret (v := 0) hx hb hr (fun t9 ht9 hW9 => ⟨⟨0, (), rfl, (congrArg Prod.fst hG).symm, by show MH D cy o ad _ _ t9.heap; rw [ht9, hG]; exact hI.1⟩, hI.2.F ht9⟩) hI.2.2.2 dX8_settle_123
        · have hG := hG.trans (if_neg c_4)
          refine lv_aload_n hx hb dX8_settle_75 rfl (lv_at hl 0 rfl) ?_
          refine mr_ga hC hin hI 34 (by decide) k_92 dX8_settle_76 ?_
          refine lv_iload_n hx hb dX8_settle_79 rfl (lv_at hl 1 rfl) ?_
          refine mr_ld hC hI 34 (by decide) (by decide) (isSuit_in hN (by assumption)) (v := (S 34 (ix k))) rfl dX8_settle_80 ?_
          refine lv_iconst (v := 1) hx hb dX8_settle_81 (by decide) ?_
          refine lv_icmp_eq (tgt := 96) hx hb dX8_settle_82 (by decide) (fun c_5 => ?_) (fun c_5 => ?_)
          · have hG := hG.trans (if_pos c_5)
            refine lv_iconst (v := 1) hx hb dX8_settle_96 (by decide) ?_
            refine lv_goto (tgt := 101) hx hb dX8_settle_97 (by decide) ?_
            refine lv_istore_n (lv' := [(3, .int 1), (0, .ref o), (1, .int k), (2, .int sum)]) hx hb dX8_settle_101 rfl hl (by decide) rfl (fun ls hl => ?_)
            refine lv_aload_n hx hb dX8_settle_102 rfl (lv_at hl 1 rfl) ?_
            refine lv_iload_n hx hb dX8_settle_103 rfl (lv_at hl 0 rfl) ?_
            refine lv_if_eq (tgt := 111) hx hb dX8_settle_104 (by decide) (fun c => absurd c (by decide : ¬ (1 : Int32) = 0)) (fun _ => ?_)
            refine lv_iconst (v := 0) hx hb dX8_settle_107 (by decide) ?_
            refine lv_goto (tgt := 112) hx hb dX8_settle_108 (by decide) ?_
            refine mr_pt hC hin hL hI k_152 dX8_settle_112 (fun H locs hI => ?_)
            refine lv_aload_n hx hb dX8_settle_115 rfl (lv_at hl 1 rfl) ?_
            refine mr_gt hC hin hI k_152 dX8_settle_116 ?_
            refine lv_if_le (tgt := 124) hx hb dX8_settle_119 (by decide) (fun _ => ?_) (fun c => absurd (by decide : (0 : Int32) ≤ 0) c)
            refine lv_aload_n hx hb dX8_settle_124 rfl (lv_at hl 1 rfl) ?_
            refine lv_iload_n hx hb dX8_settle_125 rfl (lv_at hl 2 rfl) ?_
            refine lv_iload_n hx hb dX8_settle_126 rfl (lv_at hl 3 rfl) ?_
            refine mr_callMV (As := [.int k, .int sum]) (rest := []) hC hI (qX8_wins l A D cy o ad hL S 0 hN (ix k) (vp_ixl (isSuit_in hN (by assumption))) (vp_ixe (isSuit_in hN (by assumption))) sum) (cwV 2 hts gX8_settle_X8_wins rfl rfl rfl (by decide +kernel) ⟨Nat.le_of_ble_eq_true rfl, Nat.le_of_ble_eq_true rfl⟩) rfl hl.1 rfl (Nat.le_of_ble_eq_true rfl) dX8_settle_127 ⟨Nat.zero_le _, Nat.zero_le _⟩ (fun H locs hI => ?_)
            refine lv_aload_n hx hb dX8_settle_130 rfl (lv_at hl 1 rfl) ?_
            refine mr_ga hC hin hI 40 (by decide) k_110 dX8_settle_131 ?_
            refine lv_iload_n hx hb dX8_settle_134 rfl (lv_at hl 2 rfl) ?_
            refine mr_ld hC hI 40 (by decide) (by decide) (isSuit_in hN (by assumption)) (v := (((fX8_wins S 0 (ix k) sum).2) 40 (ix k))) rfl dX8_settle_135 ?_
            exact W.iret (v := (((fX8_wins S 0 (ix k) sum).2) 40 (ix k))) hx hb hr (fun t9 ht9 hW9 => ⟨⟨((fX8_wins S 0 (ix k) sum).2) 40 (ix k), (), rfl, (congrArg Prod.fst hG).symm, by show MH D cy o ad _ _ t9.heap; rw [ht9, hG]; exact hI.1⟩, hI.2.F ht9⟩) hI.2.2.2 dX8_settle_136
          · have hG := hG.trans (if_neg c_5)
            refine lv_iconst (v := 5) hx hb dX8_settle_85 (by decide) ?_
            refine lv_iload_n hx hb dX8_settle_86 rfl (lv_at hl 2 rfl) ?_
            refine lv_imul hx hb dX8_settle_87 ?_
            refine lv_aload_n hx hb dX8_settle_88 rfl (lv_at hl 0 rfl) ?_
            refine lv_iload_n hx hb dX8_settle_89 rfl (lv_at hl 1 rfl) ?_
            refine mr_call (As := [.int k]) (rest := [.int (5 * sum)]) hC hI (qX8_dues l D cy o ad S 0 hN (ix k) (vp_ixl (isSuit_in hN (by assumption))) (vp_ixe (isSuit_in hN (by assumption)))) (cwV 1 hts gX8_settle_X8_dues rfl rfl rfl (by decide +kernel) ⟨Nat.le_of_ble_eq_true rfl, Nat.le_of_ble_eq_true rfl⟩) rfl hl.1 rfl (Nat.le_of_ble_eq_true rfl) dX8_settle_90 ⟨Nat.zero_le _, Nat.zero_le _⟩ (fun H locs hI => ?_)
            refine lv_icmp_lt (tgt := 100) hx hb dX8_settle_93 (by decide) (fun c_6 => ?_) (fun c_6 => ?_)
            · have hG := hG.trans (if_pos c_6)
              refine lv_iconst (v := 0) hx hb dX8_settle_100 (by decide) ?_
              refine lv_istore_n (lv' := [(3, .int 0), (0, .ref o), (1, .int k), (2, .int sum)]) hx hb dX8_settle_101 rfl hl (by decide) rfl (fun ls hl => ?_)
              refine lv_aload_n hx hb dX8_settle_102 rfl (lv_at hl 1 rfl) ?_
              refine lv_iload_n hx hb dX8_settle_103 rfl (lv_at hl 0 rfl) ?_
              refine lv_if_eq (tgt := 111) hx hb dX8_settle_104 (by decide) (fun _ => ?_) (fun c => absurd (by decide : (0 : Int32) = 0) c)
              refine lv_iconst (v := 3) hx hb dX8_settle_111 (by decide) ?_
              refine mr_pt hC hin hL hI k_152 dX8_settle_112 (fun H locs hI => ?_)
              refine lv_aload_n hx hb dX8_settle_115 rfl (lv_at hl 1 rfl) ?_
              refine mr_gt hC hin hI k_152 dX8_settle_116 ?_
              refine lv_if_le (tgt := 124) hx hb dX8_settle_119 (by decide) (fun c => absurd c (by decide : ¬ (3 : Int32) ≤ 0)) (fun _ => ?_)
              refine lv_iconst (v := 0) hx hb dX8_settle_122 (by decide) ?_
              exact W.iret (v := 0) hx hb hr (fun t9 ht9 hW9 => ⟨⟨0, (), rfl, (congrArg Prod.fst hG).symm, by show MH D cy o ad _ _ t9.heap; rw [ht9, hG]; exact hI.1⟩, hI.2.F ht9⟩) hI.2.2.2 dX8_settle_123
            · have hG := hG.trans (if_neg c_6)
              refine lv_iconst (v := 1) hx hb dX8_settle_96 (by decide) ?_
              refine lv_goto (tgt := 101) hx hb dX8_settle_97 (by decide) ?_
              refine lv_istore_n (lv' := [(3, .int 1), (0, .ref o), (1, .int k), (2, .int sum)]) hx hb dX8_settle_101 rfl hl (by decide) rfl (fun ls hl => ?_)
              refine lv_aload_n hx hb dX8_settle_102 rfl (lv_at hl 1 rfl) ?_
              refine lv_iload_n hx hb dX8_settle_103 rfl (lv_at hl 0 rfl) ?_
              refine lv_if_eq (tgt := 111) hx hb dX8_settle_104 (by decide) (fun c => absurd c (by decide : ¬ (1 : Int32) = 0)) (fun _ => ?_)
              refine lv_iconst (v := 0) hx hb dX8_settle_107 (by decide) ?_
              refine lv_goto (tgt := 112) hx hb dX8_settle_108 (by decide) ?_
              refine mr_pt hC hin hL hI k_152 dX8_settle_112 (fun H locs hI => ?_)
              refine lv_aload_n hx hb dX8_settle_115 rfl (lv_at hl 1 rfl) ?_
              refine mr_gt hC hin hI k_152 dX8_settle_116 ?_
              refine lv_if_le (tgt := 124) hx hb dX8_settle_119 (by decide) (fun _ => ?_) (fun c => absurd (by decide : (0 : Int32) ≤ 0) c)
              refine lv_aload_n hx hb dX8_settle_124 rfl (lv_at hl 1 rfl) ?_
              refine lv_iload_n hx hb dX8_settle_125 rfl (lv_at hl 2 rfl) ?_
              refine lv_iload_n hx hb dX8_settle_126 rfl (lv_at hl 3 rfl) ?_
              refine mr_callMV (As := [.int k, .int sum]) (rest := []) hC hI (qX8_wins l A D cy o ad hL S 0 hN (ix k) (vp_ixl (isSuit_in hN (by assumption))) (vp_ixe (isSuit_in hN (by assumption))) sum) (cwV 2 hts gX8_settle_X8_wins rfl rfl rfl (by decide +kernel) ⟨Nat.le_of_ble_eq_true rfl, Nat.le_of_ble_eq_true rfl⟩) rfl hl.1 rfl (Nat.le_of_ble_eq_true rfl) dX8_settle_127 ⟨Nat.zero_le _, Nat.zero_le _⟩ (fun H locs hI => ?_)
              refine lv_aload_n hx hb dX8_settle_130 rfl (lv_at hl 1 rfl) ?_
              refine mr_ga hC hin hI 40 (by decide) k_110 dX8_settle_131 ?_
              refine lv_iload_n hx hb dX8_settle_134 rfl (lv_at hl 2 rfl) ?_
              refine mr_ld hC hI 40 (by decide) (by decide) (isSuit_in hN (by assumption)) (v := (((fX8_wins S 0 (ix k) sum).2) 40 (ix k))) rfl dX8_settle_135 ?_
              exact W.iret (v := (((fX8_wins S 0 (ix k) sum).2) 40 (ix k))) hx hb hr (fun t9 ht9 hW9 => ⟨⟨((fX8_wins S 0 (ix k) sum).2) 40 (ix k), (), rfl, (congrArg Prod.fst hG).symm, by show MH D cy o ad _ _ t9.heap; rw [ht9, hG]; exact hI.1⟩, hI.2.F ht9⟩) hI.2.2.2 dX8_settle_136
      · have hG := hG.trans (if_neg c_3)
        refine lv_aload_n hx hb dX8_settle_50 rfl (lv_at hl 0 rfl) ?_
        refine mr_ga hC hin hI 34 (by decide) k_92 dX8_settle_51 ?_
        refine lv_iload_n hx hb dX8_settle_54 rfl (lv_at hl 1 rfl) ?_
        refine mr_ld hC hI 34 (by decide) (by decide) (isSuit_in hN (by assumption)) (v := (S 34 (ix k))) rfl dX8_settle_55 ?_
        refine lv_iconst (v := 2) hx hb dX8_settle_56 (by decide) ?_
        refine lv_icmp_ne (tgt := 100) hx hb dX8_settle_57 (by decide) (fun c_7 => ?_) (fun c_7 => ?_)
        · have hG := hG.trans (if_neg c_7)
          refine lv_iconst (v := 0) hx hb dX8_settle_100 (by decide) ?_
          refine lv_istore_n (lv' := [(3, .int 0), (0, .ref o), (1, .int k), (2, .int sum)]) hx hb dX8_settle_101 rfl hl (by decide) rfl (fun ls hl => ?_)
          refine lv_aload_n hx hb dX8_settle_102 rfl (lv_at hl 1 rfl) ?_
          refine lv_iload_n hx hb dX8_settle_103 rfl (lv_at hl 0 rfl) ?_
          refine lv_if_eq (tgt := 111) hx hb dX8_settle_104 (by decide) (fun _ => ?_) (fun c => absurd (by decide : (0 : Int32) = 0) c)
          refine lv_iconst (v := 3) hx hb dX8_settle_111 (by decide) ?_
          refine mr_pt hC hin hL hI k_152 dX8_settle_112 (fun H locs hI => ?_)
          refine lv_aload_n hx hb dX8_settle_115 rfl (lv_at hl 1 rfl) ?_
          refine mr_gt hC hin hI k_152 dX8_settle_116 ?_
          refine lv_if_le (tgt := 124) hx hb dX8_settle_119 (by decide) (fun c => absurd c (by decide : ¬ (3 : Int32) ≤ 0)) (fun _ => ?_)
          refine lv_iconst (v := 0) hx hb dX8_settle_122 (by decide) ?_
          exact W.iret (v := 0) hx hb hr (fun t9 ht9 hW9 => ⟨⟨0, (), rfl, (congrArg Prod.fst hG).symm, by show MH D cy o ad _ _ t9.heap; rw [ht9, hG]; exact hI.1⟩, hI.2.F ht9⟩) hI.2.2.2 dX8_settle_123
        · have hG := hG.trans (if_pos c_7)
          refine lv_iload_n hx hb dX8_settle_60 rfl (lv_at hl 2 rfl) ?_
          refine lv_aload_n hx hb dX8_settle_61 rfl (lv_at hl 0 rfl) ?_
          refine mr_ga hC hin hI 2 (by decide) k_7 dX8_settle_62 ?_
          refine lv_aload_n hx hb dX8_settle_65 rfl (lv_at hl 0 rfl) ?_
          refine mr_ga hC hin hI 30 (by decide) k_80 dX8_settle_66 ?_
          refine lv_iload_n hx hb dX8_settle_69 rfl (lv_at hl 1 rfl) ?_
          refine mr_ld hC hI 30 (by decide) (by decide) (isSuit_in hN (by assumption)) (v := (S 30 (ix k))) rfl dX8_settle_70 ?_
          refine mr_ld hC hI 2 (by decide) (by decide) (hN.v30 (ix k)) (v := (S 2 (ix (S 30 (ix k))))) rfl dX8_settle_71 ?_
          refine lv_icmp_gt (tgt := 100) hx hb dX8_settle_72 (by decide) (fun c_8 => ?_) (fun c_8 => ?_)
          · have hG := hG.trans (if_pos c_8)
            refine lv_iconst (v := 0) hx hb dX8_settle_100 (by decide) ?_
            refine lv_istore_n (lv' := [(3, .int 0), (0, .ref o), (1, .int k), (2, .int sum)]) hx hb dX8_settle_101 rfl hl (by decide) rfl (fun ls hl => ?_)
            refine lv_aload_n hx hb dX8_settle_102 rfl (lv_at hl 1 rfl) ?_
            refine lv_iload_n hx hb dX8_settle_103 rfl (lv_at hl 0 rfl) ?_
            refine lv_if_eq (tgt := 111) hx hb dX8_settle_104 (by decide) (fun _ => ?_) (fun c => absurd (by decide : (0 : Int32) = 0) c)
            refine lv_iconst (v := 3) hx hb dX8_settle_111 (by decide) ?_
            refine mr_pt hC hin hL hI k_152 dX8_settle_112 (fun H locs hI => ?_)
            refine lv_aload_n hx hb dX8_settle_115 rfl (lv_at hl 1 rfl) ?_
            refine mr_gt hC hin hI k_152 dX8_settle_116 ?_
            refine lv_if_le (tgt := 124) hx hb dX8_settle_119 (by decide) (fun c => absurd c (by decide : ¬ (3 : Int32) ≤ 0)) (fun _ => ?_)
            refine lv_iconst (v := 0) hx hb dX8_settle_122 (by decide) ?_
            exact W.iret (v := 0) hx hb hr (fun t9 ht9 hW9 => ⟨⟨0, (), rfl, (congrArg Prod.fst hG).symm, by show MH D cy o ad _ _ t9.heap; rw [ht9, hG]; exact hI.1⟩, hI.2.F ht9⟩) hI.2.2.2 dX8_settle_123
          · have hG := hG.trans (if_neg c_8)
            refine lv_aload_n hx hb dX8_settle_75 rfl (lv_at hl 0 rfl) ?_
            refine mr_ga hC hin hI 34 (by decide) k_92 dX8_settle_76 ?_
            refine lv_iload_n hx hb dX8_settle_79 rfl (lv_at hl 1 rfl) ?_
            refine mr_ld hC hI 34 (by decide) (by decide) (isSuit_in hN (by assumption)) (v := (S 34 (ix k))) rfl dX8_settle_80 ?_
            refine lv_iconst (v := 1) hx hb dX8_settle_81 (by decide) ?_
            refine lv_icmp_eq (tgt := 96) hx hb dX8_settle_82 (by decide) (fun c_9 => ?_) (fun c_9 => ?_)
            · have hG := hG.trans (if_pos c_9)
              refine lv_iconst (v := 1) hx hb dX8_settle_96 (by decide) ?_
              refine lv_goto (tgt := 101) hx hb dX8_settle_97 (by decide) ?_
              refine lv_istore_n (lv' := [(3, .int 1), (0, .ref o), (1, .int k), (2, .int sum)]) hx hb dX8_settle_101 rfl hl (by decide) rfl (fun ls hl => ?_)
              refine lv_aload_n hx hb dX8_settle_102 rfl (lv_at hl 1 rfl) ?_
              refine lv_iload_n hx hb dX8_settle_103 rfl (lv_at hl 0 rfl) ?_
              refine lv_if_eq (tgt := 111) hx hb dX8_settle_104 (by decide) (fun c => absurd c (by decide : ¬ (1 : Int32) = 0)) (fun _ => ?_)
              refine lv_iconst (v := 0) hx hb dX8_settle_107 (by decide) ?_
              refine lv_goto (tgt := 112) hx hb dX8_settle_108 (by decide) ?_
              refine mr_pt hC hin hL hI k_152 dX8_settle_112 (fun H locs hI => ?_)
              refine lv_aload_n hx hb dX8_settle_115 rfl (lv_at hl 1 rfl) ?_
              refine mr_gt hC hin hI k_152 dX8_settle_116 ?_
              refine lv_if_le (tgt := 124) hx hb dX8_settle_119 (by decide) (fun _ => ?_) (fun c => absurd (by decide : (0 : Int32) ≤ 0) c)
              refine lv_aload_n hx hb dX8_settle_124 rfl (lv_at hl 1 rfl) ?_
              refine lv_iload_n hx hb dX8_settle_125 rfl (lv_at hl 2 rfl) ?_
              refine lv_iload_n hx hb dX8_settle_126 rfl (lv_at hl 3 rfl) ?_
              refine mr_callMV (As := [.int k, .int sum]) (rest := []) hC hI (qX8_wins l A D cy o ad hL S 0 hN (ix k) (vp_ixl (isSuit_in hN (by assumption))) (vp_ixe (isSuit_in hN (by assumption))) sum) (cwV 2 hts gX8_settle_X8_wins rfl rfl rfl (by decide +kernel) ⟨Nat.le_of_ble_eq_true rfl, Nat.le_of_ble_eq_true rfl⟩) rfl hl.1 rfl (Nat.le_of_ble_eq_true rfl) dX8_settle_127 ⟨Nat.zero_le _, Nat.zero_le _⟩ (fun H locs hI => ?_)
              refine lv_aload_n hx hb dX8_settle_130 rfl (lv_at hl 1 rfl) ?_
              refine mr_ga hC hin hI 40 (by decide) k_110 dX8_settle_131 ?_
              refine lv_iload_n hx hb dX8_settle_134 rfl (lv_at hl 2 rfl) ?_
              refine mr_ld hC hI 40 (by decide) (by decide) (isSuit_in hN (by assumption)) (v := (((fX8_wins S 0 (ix k) sum).2) 40 (ix k))) rfl dX8_settle_135 ?_
              exact W.iret (v := (((fX8_wins S 0 (ix k) sum).2) 40 (ix k))) hx hb hr (fun t9 ht9 hW9 => ⟨⟨((fX8_wins S 0 (ix k) sum).2) 40 (ix k), (), rfl, (congrArg Prod.fst hG).symm, by show MH D cy o ad _ _ t9.heap; rw [ht9, hG]; exact hI.1⟩, hI.2.F ht9⟩) hI.2.2.2 dX8_settle_136
            · have hG := hG.trans (if_neg c_9)
              refine lv_iconst (v := 5) hx hb dX8_settle_85 (by decide) ?_
              refine lv_iload_n hx hb dX8_settle_86 rfl (lv_at hl 2 rfl) ?_
              refine lv_imul hx hb dX8_settle_87 ?_
              refine lv_aload_n hx hb dX8_settle_88 rfl (lv_at hl 0 rfl) ?_
              refine lv_iload_n hx hb dX8_settle_89 rfl (lv_at hl 1 rfl) ?_
              refine mr_call (As := [.int k]) (rest := [.int (5 * sum)]) hC hI (qX8_dues l D cy o ad S 0 hN (ix k) (vp_ixl (isSuit_in hN (by assumption))) (vp_ixe (isSuit_in hN (by assumption)))) (cwV 1 hts gX8_settle_X8_dues rfl rfl rfl (by decide +kernel) ⟨Nat.le_of_ble_eq_true rfl, Nat.le_of_ble_eq_true rfl⟩) rfl hl.1 rfl (Nat.le_of_ble_eq_true rfl) dX8_settle_90 ⟨Nat.zero_le _, Nat.zero_le _⟩ (fun H locs hI => ?_)
              refine lv_icmp_lt (tgt := 100) hx hb dX8_settle_93 (by decide) (fun c_10 => ?_) (fun c_10 => ?_)
              · have hG := hG.trans (if_pos c_10)
                refine lv_iconst (v := 0) hx hb dX8_settle_100 (by decide) ?_
                refine lv_istore_n (lv' := [(3, .int 0), (0, .ref o), (1, .int k), (2, .int sum)]) hx hb dX8_settle_101 rfl hl (by decide) rfl (fun ls hl => ?_)
                refine lv_aload_n hx hb dX8_settle_102 rfl (lv_at hl 1 rfl) ?_
                refine lv_iload_n hx hb dX8_settle_103 rfl (lv_at hl 0 rfl) ?_
                refine lv_if_eq (tgt := 111) hx hb dX8_settle_104 (by decide) (fun _ => ?_) (fun c => absurd (by decide : (0 : Int32) = 0) c)
                refine lv_iconst (v := 3) hx hb dX8_settle_111 (by decide) ?_
                refine mr_pt hC hin hL hI k_152 dX8_settle_112 (fun H locs hI => ?_)
                refine lv_aload_n hx hb dX8_settle_115 rfl (lv_at hl 1 rfl) ?_
                refine mr_gt hC hin hI k_152 dX8_settle_116 ?_
                refine lv_if_le (tgt := 124) hx hb dX8_settle_119 (by decide) (fun c => absurd c (by decide : ¬ (3 : Int32) ≤ 0)) (fun _ => ?_)
                refine lv_iconst (v := 0) hx hb dX8_settle_122 (by decide) ?_
                exact W.iret (v := 0) hx hb hr (fun t9 ht9 hW9 => ⟨⟨0, (), rfl, (congrArg Prod.fst hG).symm, by show MH D cy o ad _ _ t9.heap; rw [ht9, hG]; exact hI.1⟩, hI.2.F ht9⟩) hI.2.2.2 dX8_settle_123
              · have hG := hG.trans (if_neg c_10)
                refine lv_iconst (v := 1) hx hb dX8_settle_96 (by decide) ?_
                refine lv_goto (tgt := 101) hx hb dX8_settle_97 (by decide) ?_
                refine lv_istore_n (lv' := [(3, .int 1), (0, .ref o), (1, .int k), (2, .int sum)]) hx hb dX8_settle_101 rfl hl (by decide) rfl (fun ls hl => ?_)
                refine lv_aload_n hx hb dX8_settle_102 rfl (lv_at hl 1 rfl) ?_
                refine lv_iload_n hx hb dX8_settle_103 rfl (lv_at hl 0 rfl) ?_
                refine lv_if_eq (tgt := 111) hx hb dX8_settle_104 (by decide) (fun c => absurd c (by decide : ¬ (1 : Int32) = 0)) (fun _ => ?_)
                refine lv_iconst (v := 0) hx hb dX8_settle_107 (by decide) ?_
                refine lv_goto (tgt := 112) hx hb dX8_settle_108 (by decide) ?_
                refine mr_pt hC hin hL hI k_152 dX8_settle_112 (fun H locs hI => ?_)
                refine lv_aload_n hx hb dX8_settle_115 rfl (lv_at hl 1 rfl) ?_
                refine mr_gt hC hin hI k_152 dX8_settle_116 ?_
                refine lv_if_le (tgt := 124) hx hb dX8_settle_119 (by decide) (fun _ => ?_) (fun c => absurd (by decide : (0 : Int32) ≤ 0) c)
                refine lv_aload_n hx hb dX8_settle_124 rfl (lv_at hl 1 rfl) ?_
                refine lv_iload_n hx hb dX8_settle_125 rfl (lv_at hl 2 rfl) ?_
                refine lv_iload_n hx hb dX8_settle_126 rfl (lv_at hl 3 rfl) ?_
                refine mr_callMV (As := [.int k, .int sum]) (rest := []) hC hI (qX8_wins l A D cy o ad hL S 0 hN (ix k) (vp_ixl (isSuit_in hN (by assumption))) (vp_ixe (isSuit_in hN (by assumption))) sum) (cwV 2 hts gX8_settle_X8_wins rfl rfl rfl (by decide +kernel) ⟨Nat.le_of_ble_eq_true rfl, Nat.le_of_ble_eq_true rfl⟩) rfl hl.1 rfl (Nat.le_of_ble_eq_true rfl) dX8_settle_127 ⟨Nat.zero_le _, Nat.zero_le _⟩ (fun H locs hI => ?_)
                refine lv_aload_n hx hb dX8_settle_130 rfl (lv_at hl 1 rfl) ?_
                refine mr_ga hC hin hI 40 (by decide) k_110 dX8_settle_131 ?_
                refine lv_iload_n hx hb dX8_settle_134 rfl (lv_at hl 2 rfl) ?_
                refine mr_ld hC hI 40 (by decide) (by decide) (isSuit_in hN (by assumption)) (v := (((fX8_wins S 0 (ix k) sum).2) 40 (ix k))) rfl dX8_settle_135 ?_
                exact W.iret (v := (((fX8_wins S 0 (ix k) sum).2) 40 (ix k))) hx hb hr (fun t9 ht9 hW9 => ⟨⟨((fX8_wins S 0 (ix k) sum).2) 40 (ix k), (), rfl, (congrArg Prod.fst hG).symm, by show MH D cy o ad _ _ t9.heap; rw [ht9, hG]; exact hI.1⟩, hI.2.F ht9⟩) hI.2.2.2 dX8_settle_136
    · have hG := hG.trans (if_pos c_2)
      refine lv_iconst (v := 2) hx hb dX8_settle_23 (by decide) ?_
      refine lv_goto (tgt := 28) hx hb dX8_settle_24 (by decide) ?_
      refine mr_pt hC hin hL hI k_152 dX8_settle_28 (fun H locs hI => ?_)
      refine lv_aload_n hx hb dX8_settle_31 rfl (lv_at hl 0 rfl) ?_
      refine mr_gt hC hin hI k_152 dX8_settle_32 ?_
      refine lv_if_le (tgt := 40) hx hb dX8_settle_35 (by decide) (fun c => absurd c (by decide : ¬ (2 : Int32) ≤ 0)) (fun _ => ?_)
      refine lv_iconst (v := 0) hx hb dX8_settle_38 (by decide) ?_
      exact W.iret (v := 0) hx hb hr (fun t9 ht9 hW9 => ⟨⟨0, (), rfl, (congrArg Prod.fst hG).symm, by show MH D cy o ad _ _ t9.heap; rw [ht9, hG]; exact hI.1⟩, hI.2.F ht9⟩) hI.2.2.2 dX8_settle_39
  · have hG := hG.trans (if_pos c_1)
    refine lv_iconst (v := 1) hx hb dX8_settle_9 (by decide) ?_
    refine lv_goto (tgt := 28) hx hb dX8_settle_10 (by decide) ?_
    refine mr_pt hC hin hL hI k_152 dX8_settle_28 (fun H locs hI => ?_)
    refine lv_aload_n hx hb dX8_settle_31 rfl (lv_at hl 0 rfl) ?_
    refine mr_gt hC hin hI k_152 dX8_settle_32 ?_
    refine lv_if_le (tgt := 40) hx hb dX8_settle_35 (by decide) (fun c => absurd c (by decide : ¬ (1 : Int32) ≤ 0)) (fun _ => ?_)
    refine lv_iconst (v := 0) hx hb dX8_settle_38 (by decide) ?_
    exact W.iret (v := 0) hx hb hr (fun t9 ht9 hW9 => ⟨⟨0, (), rfl, (congrArg Prod.fst hG).symm, by show MH D cy o ad _ _ t9.heap; rw [ht9, hG]; exact hI.1⟩, hI.2.F ht9⟩) hI.2.2.2 dX8_settle_39
set_option maxHeartbeats 4000000 in
set_option maxRecDepth 100000 in
theorem qX8_work (l : Launch) (A : Nat → Prop) (D : va_G) (cy : Nat → ClassId) (o : Nat) (ad : Nat → Nat) (hL : ML A o ad) (S : St) (th : Int32) (hN : MInv S) (t : Int32) (f : Int32) (its : Int32) : MMut l A D cy o ad S th yX8_work wsX8_work ({ frames := 2, cells := 0, slots := 0, locals := 42 } : Room) [.int t, .int f, .int its] (fX8_work S t f its).1 (fX8_work S t f its).2.2 (fX8_work S t f its).2.1 := by
  refine Met.ofW (cc := cX8_work) (maxL := 5) (ret := (some .int)) (by decide) rfl ?_
  intro p e s m args below meth c s₁ B hml hv
  obtain ⟨rfl, hM, hK⟩ := hv
  have hx := B.exec
  have hb := B.bytes
  have hr := B.returns
  have hts := atoms_spec (ws := wsX8_work) B.pre
  have hown : s.vm.findClass RX8 = some m.cls := findClass_of_methodNamed B.named
  have hlocks := B.notSynchronized
  have hC : MC p s m _ c cX8_work 5 D cy wsX8_work := ⟨⟨hx, hb, hml, hown, hts⟩, hK⟩
  have hin : ∀ w ∈ wsX80, w ∈ wsX8_work := fun _ h => List.mem_cons_of_mem _ (List.mem_append_right _ (h))
  have hI : MI A D cy o ad s S th s.heap [] := ⟨hM, va_S.rf⟩
  have hb7 := hN.b7
  have hb15 := hN.b15
  have hb23 := hN.b23
  have hb28 := hN.b28
  have hb42 := hN.b42
  have k_152 := hts (.fieldLink RX8 152 "RelatorsBenchModel" "thrown" "I") (List.mem_cons_of_mem _ (List.mem_append_left _ (List.mem_of_getElem? (i := 0) rfl)))
  have k_134 := hts (.fieldLink RX8 134 "RelatorsBenchModel" "worksFor" "[I") (List.mem_cons_of_mem _ (List.mem_append_left _ (List.mem_of_getElem? (i := 1) rfl)))
  have k_137 := hts (.fieldLink RX8 137 "RelatorsBenchModel" "wage" "[I") (List.mem_cons_of_mem _ (List.mem_append_left _ (List.mem_of_getElem? (i := 2) rfl)))
  have hl := lv_entry ([.ref o, .int t, .int f, .int its]) (n := 5) (Nat.le_of_ble_eq_true rfl)
  rw [lg_entry_eq]
  generalize (lg_sl ([.ref o, .int t, .int f, .int its]) ++ List.replicate (5 - (lg_sl ([.ref o, .int t, .int f, .int its])).length) Slot.unset).toArray = ls at hl ⊢
  have hl : lv_has ls 5 [(0, .ref o), (1, .int t), (2, .int f), (3, .int its)] := hl
  have hG : fX8_work S t f its = fX8_work S t f its := rfl
  refine lv_aload_n hx hb dX8_work_0 rfl (lv_at hl 0 rfl) ?_
  refine lv_iload_n hx hb dX8_work_1 rfl (lv_at hl 1 rfl) ?_
  refine mr_callS (As := [.int t]) (rest := [.ref o]) hC hI (qX8_isTeller l t) (va_cwS 1 hts gX8_work_X8_isTeller rfl rfl rfl (by decide +kernel) ⟨Nat.le_of_ble_eq_true rfl, Nat.le_of_ble_eq_true rfl⟩) rfl hl.1 rfl (Nat.le_of_ble_eq_true rfl) dX8_work_2 ⟨Nat.zero_le _, Nat.zero_le _⟩ (fun H locs hI => ?_)
  refine lv_if_eq (tgt := 15) hx hb dX8_work_5 (by decide) (fun c_1 => ?_) (fun c_1 => ?_)
  · have hG := hG.trans (if_pos c_1)
    refine lv_iconst (v := 1) hx hb dX8_work_15 (by decide) ?_
    refine lv_goto (tgt := 35) hx hb dX8_work_16 (by decide) ?_
    refine mr_pt hC hin hL hI k_152 dX8_work_35 (fun H locs hI => ?_)
    refine lv_aload_n hx hb dX8_work_38 rfl (lv_at hl 0 rfl) ?_
    refine mr_gt hC hin hI k_152 dX8_work_39 ?_
    refine lv_if_le (tgt := 47) hx hb dX8_work_42 (by decide) (fun c => absurd c (by decide : ¬ (1 : Int32) ≤ 0)) (fun _ => ?_)
    refine lv_iconst (v := 0) hx hb dX8_work_45 (by decide) ?_
    exact W.iret (v := 0) hx hb hr (fun t9 ht9 hW9 => ⟨⟨0, (), rfl, (congrArg Prod.fst hG).symm, by show MH D cy o ad _ _ t9.heap; rw [ht9, hG]; exact hI.1⟩, hI.2.F ht9⟩) hI.2.2.2 dX8_work_46
  · have hG := hG.trans (if_neg c_1)
    refine lv_iload_n hx hb dX8_work_8 rfl (lv_at hl 2 rfl) ?_
    refine mr_callS (As := [.int f]) (rest := [.ref o]) hC hI (qX8_isFirm l f) (va_cwS 1 hts gX8_work_X8_isFirm rfl rfl rfl (by decide +kernel) ⟨Nat.le_of_ble_eq_true rfl, Nat.le_of_ble_eq_true rfl⟩) rfl hl.1 rfl (Nat.le_of_ble_eq_true rfl) dX8_work_9 ⟨Nat.zero_le _, Nat.zero_le _⟩ (fun H locs hI => ?_)
    refine lv_if_ne (tgt := 19) hx hb dX8_work_12 (by decide) (fun c_2 => ?_) (fun c_2 => ?_)
    · have hG := hG.trans (if_neg c_2)
      refine lv_iload_n hx hb dX8_work_19 rfl (lv_at hl 3 rfl) ?_
      refine lv_iconst (v := 0) hx hb dX8_work_20 (by decide) ?_
      refine lv_sipush (v := 999) hx hb dX8_work_21 (by decide) ?_
      refine mr_callS (As := [.int its, .int 0, .int 999]) (rest := [.ref o]) hC hI (qX8_in l its 0 999) (va_cwS 3 hts gX8_work_X8_in rfl rfl rfl (by decide +kernel) ⟨Nat.le_of_ble_eq_true rfl, Nat.le_of_ble_eq_true rfl⟩) rfl hl.1 rfl (Nat.le_of_ble_eq_true rfl) dX8_work_24 ⟨Nat.zero_le _, Nat.zero_le _⟩ (fun H locs hI => ?_)
      refine lv_if_ne (tgt := 34) hx hb dX8_work_27 (by decide) (fun c_3 => ?_) (fun c_3 => ?_)
      · have hG := hG.trans (if_neg c_3)
        refine lv_iconst (v := 0) hx hb dX8_work_34 (by decide) ?_
        refine mr_pt hC hin hL hI k_152 dX8_work_35 (fun H locs hI => ?_)
        refine lv_aload_n hx hb dX8_work_38 rfl (lv_at hl 0 rfl) ?_
        refine mr_gt hC hin hI k_152 dX8_work_39 ?_
        refine lv_if_le (tgt := 47) hx hb dX8_work_42 (by decide) (fun _ => ?_) (fun c => absurd (by decide : (0 : Int32) ≤ 0) c)
        refine lv_aload_n hx hb dX8_work_47 rfl (lv_at hl 0 rfl) ?_
        refine mr_ga hC hin hI 49 (by decide) k_134 dX8_work_48 ?_
        refine lv_iload_n hx hb dX8_work_51 rfl (lv_at hl 1 rfl) ?_
        refine mr_ld hC hI 49 (by decide) (by decide) (isTeller_in (by assumption)) (v := (S 49 (ix t))) rfl dX8_work_52 ?_
        refine lv_istore (lv' := [(4, .int (S 49 (ix t))), (0, .ref o), (1, .int t), (2, .int f), (3, .int its)]) hx hb dX8_work_53 hl (by decide) rfl (fun ls hl => ?_)
        refine lv_aload_n hx hb dX8_work_55 rfl (lv_at hl 1 rfl) ?_
        refine mr_ga hC hin hI 49 (by decide) k_134 dX8_work_56 ?_
        refine lv_iload_n hx hb dX8_work_59 rfl (lv_at hl 2 rfl) ?_
        refine lv_iload_n hx hb dX8_work_60 rfl (lv_at hl 3 rfl) ?_
        refine mr_st hC hL hI 49 (by decide) (by decide) (isTeller_in (by assumption)) (n := (ix t)) rfl dX8_work_61 (fun H locs hI => ?_)
        refine lv_aload_n hx hb dX8_work_62 rfl (lv_at hl 1 rfl) ?_
        refine mr_ga hC hin hI 50 (by decide) k_137 dX8_work_63 ?_
        refine lv_iload_n hx hb dX8_work_66 rfl (lv_at hl 2 rfl) ?_
        refine lv_iload_n hx hb dX8_work_67 rfl (lv_at hl 4 rfl) ?_
        refine mr_st hC hL hI 50 (by decide) (by decide) (isTeller_in (by assumption)) (n := (ix t)) rfl dX8_work_68 (fun H locs hI => ?_)
        refine lv_iload hx hb dX8_work_69 (lv_at hl 0 rfl) ?_
        exact W.iret (v := (S 49 (ix t))) hx hb hr (fun t9 ht9 hW9 => ⟨⟨S 49 (ix t), (), rfl, (congrArg Prod.fst hG).symm, by show MH D cy o ad _ _ t9.heap; rw [ht9, hG]; exact hI.1⟩, hI.2.F ht9⟩) hI.2.2.2 dX8_work_71
      · have hG := hG.trans (if_pos c_3)
        refine lv_iconst (v := 2) hx hb dX8_work_30 (by decide) ?_
        refine lv_goto (tgt := 35) hx hb dX8_work_31 (by decide) ?_
        refine mr_pt hC hin hL hI k_152 dX8_work_35 (fun H locs hI => ?_)
        refine lv_aload_n hx hb dX8_work_38 rfl (lv_at hl 0 rfl) ?_
        refine mr_gt hC hin hI k_152 dX8_work_39 ?_
        refine lv_if_le (tgt := 47) hx hb dX8_work_42 (by decide) (fun c => absurd c (by decide : ¬ (2 : Int32) ≤ 0)) (fun _ => ?_)
        refine lv_iconst (v := 0) hx hb dX8_work_45 (by decide) ?_
        exact W.iret (v := 0) hx hb hr (fun t9 ht9 hW9 => ⟨⟨0, (), rfl, (congrArg Prod.fst hG).symm, by show MH D cy o ad _ _ t9.heap; rw [ht9, hG]; exact hI.1⟩, hI.2.F ht9⟩) hI.2.2.2 dX8_work_46
    · have hG := hG.trans (if_pos c_2)
      refine lv_iconst (v := 1) hx hb dX8_work_15 (by decide) ?_
      refine lv_goto (tgt := 35) hx hb dX8_work_16 (by decide) ?_
      refine mr_pt hC hin hL hI k_152 dX8_work_35 (fun H locs hI => ?_)
      refine lv_aload_n hx hb dX8_work_38 rfl (lv_at hl 0 rfl) ?_
      refine mr_gt hC hin hI k_152 dX8_work_39 ?_
      refine lv_if_le (tgt := 47) hx hb dX8_work_42 (by decide) (fun c => absurd c (by decide : ¬ (1 : Int32) ≤ 0)) (fun _ => ?_)
      refine lv_iconst (v := 0) hx hb dX8_work_45 (by decide) ?_
      exact W.iret (v := 0) hx hb hr (fun t9 ht9 hW9 => ⟨⟨0, (), rfl, (congrArg Prod.fst hG).symm, by show MH D cy o ad _ _ t9.heap; rw [ht9, hG]; exact hI.1⟩, hI.2.F ht9⟩) hI.2.2.2 dX8_work_46
set_option maxHeartbeats 4000000 in
set_option maxRecDepth 100000 in
theorem qX8_tell (l : Launch) (A : Nat → Prop) (D : va_G) (cy : Nat → ClassId) (o : Nat) (ad : Nat → Nat) (hL : ML A o ad) (S : St) (th : Int32) (hN : MInv S) (f : Int32) (t : Int32) : MMut l A D cy o ad S th yX8_tell wsX8_tell ({ frames := 2, cells := 0, slots := 0, locals := 45 } : Room) [.int f, .int t] (fX8_tell S f t).1 (fX8_tell S f t).2.2 (fX8_tell S f t).2.1 := by
  refine Met.ofW (cc := cX8_tell) (maxL := 3) (ret := (some .int)) (by decide) rfl ?_
  intro p e s m args below meth c s₁ B hml hv
  obtain ⟨rfl, hM, hK⟩ := hv
  have hx := B.exec
  have hb := B.bytes
  have hr := B.returns
  have hts := atoms_spec (ws := wsX8_tell) B.pre
  have hown : s.vm.findClass RX8 = some m.cls := findClass_of_methodNamed B.named
  have hlocks := B.notSynchronized
  have hC : MC p s m _ c cX8_tell 3 D cy wsX8_tell := ⟨⟨hx, hb, hml, hown, hts⟩, hK⟩
  have hin : ∀ w ∈ wsX80, w ∈ wsX8_tell := fun _ h => List.mem_cons_of_mem _ (List.mem_append_right _ (h))
  have hI : MI A D cy o ad s S th s.heap [] := ⟨hM, va_S.rf⟩
  have hb7 := hN.b7
  have hb15 := hN.b15
  have hb23 := hN.b23
  have hb28 := hN.b28
  have hb42 := hN.b42
  have k_152 := hts (.fieldLink RX8 152 "RelatorsBenchModel" "thrown" "I") (List.mem_cons_of_mem _ (List.mem_append_left _ (List.mem_of_getElem? (i := 0) rfl)))
  have k_140 := hts (.fieldLink RX8 140 "RelatorsBenchModel" "toldOn" "[I") (List.mem_cons_of_mem _ (List.mem_append_left _ (List.mem_of_getElem? (i := 1) rfl)))
  have k_179 := hts (.fieldLink RX8 179 "RelatorsBenchModel" "today" "I") (List.mem_cons_of_mem _ (List.mem_append_left _ (List.mem_of_getElem? (i := 2) rfl)))
  have hl := lv_entry ([.ref o, .int f, .int t]) (n := 3) (Nat.le_of_ble_eq_true rfl)
  rw [lg_entry_eq]
  generalize (lg_sl ([.ref o, .int f, .int t]) ++ List.replicate (3 - (lg_sl ([.ref o, .int f, .int t])).length) Slot.unset).toArray = ls at hl ⊢
  have hl : lv_has ls 3 [(0, .ref o), (1, .int f), (2, .int t)] := hl
  have hG : fX8_tell S f t = fX8_tell S f t := rfl
  refine lv_aload_n hx hb dX8_tell_0 rfl (lv_at hl 0 rfl) ?_
  refine lv_iload_n hx hb dX8_tell_1 rfl (lv_at hl 1 rfl) ?_
  refine mr_callS (As := [.int f]) (rest := [.ref o]) hC hI (qX8_isFirm l f) (va_cwS 1 hts gX8_tell_X8_isFirm rfl rfl rfl (by decide +kernel) ⟨Nat.le_of_ble_eq_true rfl, Nat.le_of_ble_eq_true rfl⟩) rfl hl.1 rfl (Nat.le_of_ble_eq_true rfl) dX8_tell_2 ⟨Nat.zero_le _, Nat.zero_le _⟩ (fun H locs hI => ?_)
  refine lv_if_eq (tgt := 19) hx hb dX8_tell_5 (by decide) (fun c_1 => ?_) (fun c_1 => ?_)
  · have hG := hG.trans (if_pos c_1)
    refine lv_iconst (v := 1) hx hb dX8_tell_19 (by decide) ?_
    refine mr_pt hC hin hL hI k_152 dX8_tell_20 (fun H locs hI => ?_)
    refine lv_aload_n hx hb dX8_tell_23 rfl (lv_at hl 0 rfl) ?_
    refine mr_gt hC hin hI k_152 dX8_tell_24 ?_
    refine lv_if_le (tgt := 32) hx hb dX8_tell_27 (by decide) (fun c => absurd c (by decide : ¬ (1 : Int32) ≤ 0)) (fun _ => ?_)
    refine lv_iconst (v := 0) hx hb dX8_tell_30 (by decide) ?_
    exact W.iret (v := 0) hx hb hr (fun t9 ht9 hW9 => ⟨⟨0, (), rfl, (congrArg Prod.fst hG).symm, by show MH D cy o ad _ _ t9.heap; rw [ht9, hG]; exact hI.1⟩, hI.2.F ht9⟩) hI.2.2.2 dX8_tell_31
  · have hG := hG.trans (if_neg c_1)
    refine lv_iload_n hx hb dX8_tell_8 rfl (lv_at hl 2 rfl) ?_
    refine mr_callS (As := [.int t]) (rest := [.ref o]) hC hI (qX8_isTeller l t) (va_cwS 1 hts gX8_tell_X8_isTeller rfl rfl rfl (by decide +kernel) ⟨Nat.le_of_ble_eq_true rfl, Nat.le_of_ble_eq_true rfl⟩) rfl hl.1 rfl (Nat.le_of_ble_eq_true rfl) dX8_tell_9 ⟨Nat.zero_le _, Nat.zero_le _⟩ (fun H locs hI => ?_)
    refine lv_if_eq (tgt := 19) hx hb dX8_tell_12 (by decide) (fun c_2 => ?_) (fun c_2 => ?_)
    · have hG := hG.trans (if_pos c_2)
      refine lv_iconst (v := 1) hx hb dX8_tell_19 (by decide) ?_
      refine mr_pt hC hin hL hI k_152 dX8_tell_20 (fun H locs hI => ?_)
      refine lv_aload_n hx hb dX8_tell_23 rfl (lv_at hl 0 rfl) ?_
      refine mr_gt hC hin hI k_152 dX8_tell_24 ?_
      refine lv_if_le (tgt := 32) hx hb dX8_tell_27 (by decide) (fun c => absurd c (by decide : ¬ (1 : Int32) ≤ 0)) (fun _ => ?_)
      refine lv_iconst (v := 0) hx hb dX8_tell_30 (by decide) ?_
      exact W.iret (v := 0) hx hb hr (fun t9 ht9 hW9 => ⟨⟨0, (), rfl, (congrArg Prod.fst hG).symm, by show MH D cy o ad _ _ t9.heap; rw [ht9, hG]; exact hI.1⟩, hI.2.F ht9⟩) hI.2.2.2 dX8_tell_31
    · have hG := hG.trans (if_neg c_2)
      refine lv_iconst (v := 0) hx hb dX8_tell_15 (by decide) ?_
      refine lv_goto (tgt := 20) hx hb dX8_tell_16 (by decide) ?_
      refine mr_pt hC hin hL hI k_152 dX8_tell_20 (fun H locs hI => ?_)
      refine lv_aload_n hx hb dX8_tell_23 rfl (lv_at hl 0 rfl) ?_
      refine mr_gt hC hin hI k_152 dX8_tell_24 ?_
      refine lv_if_le (tgt := 32) hx hb dX8_tell_27 (by decide) (fun _ => ?_) (fun c => absurd (by decide : (0 : Int32) ≤ 0) c)
      refine lv_aload_n hx hb dX8_tell_32 rfl (lv_at hl 0 rfl) ?_
      refine mr_ga hC hin hI 51 (by decide) k_140 dX8_tell_33 ?_
      refine lv_iload_n hx hb dX8_tell_36 rfl (lv_at hl 1 rfl) ?_
      refine lv_iload_n hx hb dX8_tell_37 rfl (lv_at hl 2 rfl) ?_
      refine mr_callS (As := [.int f, .int t]) (rest := [.ref (ad 51)]) hC hI (qX8_place l f t) (va_cwS 2 hts gX8_tell_X8_place rfl rfl rfl (by decide +kernel) ⟨Nat.le_of_ble_eq_true rfl, Nat.le_of_ble_eq_true rfl⟩) rfl hl.1 rfl (Nat.le_of_ble_eq_true rfl) dX8_tell_38 ⟨Nat.zero_le _, Nat.zero_le _⟩ (fun H locs hI => ?_)
      refine lv_aload_n hx hb dX8_tell_41 rfl (lv_at hl 0 rfl) ?_
      refine mr_ga hC hin hI 51 (by decide) k_140 dX8_tell_42 ?_
      refine lv_iload_n hx hb dX8_tell_45 rfl (lv_at hl 1 rfl) ?_
      refine lv_iload_n hx hb dX8_tell_46 rfl (lv_at hl 2 rfl) ?_
      refine mr_callS (As := [.int f, .int t]) (rest := [.ref (ad 51), .int (fX8_place f t), .ref (ad 51)]) hC hI (qX8_place l f t) (va_cwS 2 hts gX8_tell_X8_place rfl rfl rfl (by decide +kernel) ⟨Nat.le_of_ble_eq_true rfl, Nat.le_of_ble_eq_true rfl⟩) rfl hl.1 rfl (Nat.le_of_ble_eq_true rfl) dX8_tell_47 ⟨Nat.zero_le _, Nat.zero_le _⟩ (fun H locs hI => ?_)
      refine mr_ld hC hI 51 (by decide) (by decide) (place_in2 (isFirm_in (by assumption)) (isTeller_in (by assumption))) (v := (S 51 (ix (fX8_place f t)))) rfl dX8_tell_50 ?_
      refine lv_iconst (v := (-1)) hx hb dX8_tell_51 (by decide) ?_
      refine lv_icmp_ne (tgt := 62) hx hb dX8_tell_52 (by decide) (fun c_3 => ?_) (fun c_3 => ?_)
      · have hG := hG.trans (if_neg c_3)
        refine lv_aload_n hx hb dX8_tell_62 rfl (lv_at hl 0 rfl) ?_
        refine mr_ga hC hin hI 51 (by decide) k_140 dX8_tell_63 ?_
        refine lv_iload_n hx hb dX8_tell_66 rfl (lv_at hl 1 rfl) ?_
        refine lv_iload_n hx hb dX8_tell_67 rfl (lv_at hl 2 rfl) ?_
        refine mr_callS (As := [.int f, .int t]) (rest := [.ref (ad 51), .int (fX8_place f t), .ref (ad 51)]) hC hI (qX8_place l f t) (va_cwS 2 hts gX8_tell_X8_place rfl rfl rfl (by decide +kernel) ⟨Nat.le_of_ble_eq_true rfl, Nat.le_of_ble_eq_true rfl⟩) rfl hl.1 rfl (Nat.le_of_ble_eq_true rfl) dX8_tell_68 ⟨Nat.zero_le _, Nat.zero_le _⟩ (fun H locs hI => ?_)
        refine mr_ld hC hI 51 (by decide) (by decide) (place_in2 (isFirm_in (by assumption)) (isTeller_in (by assumption))) (v := (S 51 (ix (fX8_place f t)))) rfl dX8_tell_71 ?_
        refine mr_st hC hL hI 51 (by decide) (by decide) (place_in2 (isFirm_in (by assumption)) (isTeller_in (by assumption))) (n := (ix (fX8_place f t))) rfl dX8_tell_72 (fun H locs hI => ?_)
        refine lv_aload_n hx hb dX8_tell_73 rfl (lv_at hl 0 rfl) ?_
        refine lv_iload_n hx hb dX8_tell_74 rfl (lv_at hl 1 rfl) ?_
        refine lv_iload_n hx hb dX8_tell_75 rfl (lv_at hl 2 rfl) ?_
        refine mr_call (As := [.int f, .int t]) (rest := []) hC hI (qX8_tellsFrom l D cy o ad (up S 51 (ix (fX8_place f t)) (S 51 (ix (fX8_place f t)))) 0 (hN.congr ⟨rfl, rfl, rfl, rfl, rfl, rfl, rfl, rfl, rfl, rfl, rfl, rfl, rfl, rfl⟩) (ix f) (vp_ixl (isFirm_in (by assumption))) (vp_ixe (isFirm_in (by assumption))) (ix t) (vp_ixl (isTeller_in (by assumption))) (vp_ixe (isTeller_in (by assumption)))) (cwV 2 hts gX8_tell_X8_tellsFrom rfl rfl rfl (by decide +kernel) ⟨Nat.le_of_ble_eq_true rfl, Nat.le_of_ble_eq_true rfl⟩) rfl hl.1 rfl (Nat.le_of_ble_eq_true rfl) dX8_tell_76 ⟨Nat.zero_le _, Nat.zero_le _⟩ (fun H locs hI => ?_)
        exact W.iret (v := (fX8_tellsFrom (up S 51 (ix (fX8_place f t)) (S 51 (ix (fX8_place f t)))) (ix f) (ix t))) hx hb hr (fun t9 ht9 hW9 => ⟨⟨(fX8_tellsFrom (up S 51 (ix (fX8_place f t)) (S 51 (ix (fX8_place f t)))) (ix f) (ix t)), (), rfl, (congrArg Prod.fst hG).symm, by show MH D cy o ad _ _ t9.heap; rw [ht9, hG]; exact hI.1⟩, hI.2.F ht9⟩) hI.2.2.2 dX8_tell_79
      · have hG := hG.trans (if_pos c_3)
        refine lv_aload_n hx hb dX8_tell_55 rfl (lv_at hl 0 rfl) ?_
        refine mr_gi hC hin hI 1 (by decide) (by decide) (by decide) k_179 (v := (S 1 0)) rfl dX8_tell_56 ?_
        refine lv_goto (tgt := 72) hx hb dX8_tell_59 (by decide) ?_
        refine mr_st hC hL hI 51 (by decide) (by decide) (place_in2 (isFirm_in (by assumption)) (isTeller_in (by assumption))) (n := (ix (fX8_place f t))) rfl dX8_tell_72 (fun H locs hI => ?_)
        refine lv_aload_n hx hb dX8_tell_73 rfl (lv_at hl 0 rfl) ?_
        refine lv_iload_n hx hb dX8_tell_74 rfl (lv_at hl 1 rfl) ?_
        refine lv_iload_n hx hb dX8_tell_75 rfl (lv_at hl 2 rfl) ?_
        refine mr_call (As := [.int f, .int t]) (rest := []) hC hI (qX8_tellsFrom l D cy o ad (up S 51 (ix (fX8_place f t)) (S 1 0)) 0 (hN.congr ⟨rfl, rfl, rfl, rfl, rfl, rfl, rfl, rfl, rfl, rfl, rfl, rfl, rfl, rfl⟩) (ix f) (vp_ixl (isFirm_in (by assumption))) (vp_ixe (isFirm_in (by assumption))) (ix t) (vp_ixl (isTeller_in (by assumption))) (vp_ixe (isTeller_in (by assumption)))) (cwV 2 hts gX8_tell_X8_tellsFrom rfl rfl rfl (by decide +kernel) ⟨Nat.le_of_ble_eq_true rfl, Nat.le_of_ble_eq_true rfl⟩) rfl hl.1 rfl (Nat.le_of_ble_eq_true rfl) dX8_tell_76 ⟨Nat.zero_le _, Nat.zero_le _⟩ (fun H locs hI => ?_)
        exact W.iret (v := (fX8_tellsFrom (up S 51 (ix (fX8_place f t)) (S 1 0)) (ix f) (ix t))) hx hb hr (fun t9 ht9 hW9 => ⟨⟨(fX8_tellsFrom (up S 51 (ix (fX8_place f t)) (S 1 0)) (ix f) (ix t)), (), rfl, (congrArg Prod.fst hG).symm, by show MH D cy o ad _ _ t9.heap; rw [ht9, hG]; exact hI.1⟩, hI.2.F ht9⟩) hI.2.2.2 dX8_tell_79
set_option maxHeartbeats 4000000 in
set_option maxRecDepth 100000 in
theorem qX8_fire (l : Launch) (A : Nat → Prop) (D : va_G) (cy : Nat → ClassId) (o : Nat) (ad : Nat → Nat) (hL : ML A o ad) (S : St) (th : Int32) (hN : MInv S) (f : Int32) (t : Int32) : MMut l A D cy o ad S th yX8_fire wsX8_fire ({ frames := 2, cells := 0, slots := 0, locals := 45 } : Room) [.int f, .int t] (fX8_fire S f t).1 (fX8_fire S f t).2.2 (fX8_fire S f t).2.1 := by
  refine Met.ofW (cc := cX8_fire) (maxL := 5) (ret := (some .boolean)) (by decide) rfl ?_
  intro p e s m args below meth c s₁ B hml hv
  obtain ⟨rfl, hM, hK⟩ := hv
  have hx := B.exec
  have hb := B.bytes
  have hr := B.returns
  have hts := atoms_spec (ws := wsX8_fire) B.pre
  have hown : s.vm.findClass RX8 = some m.cls := findClass_of_methodNamed B.named
  have hlocks := B.notSynchronized
  have hC : MC p s m _ c cX8_fire 5 D cy wsX8_fire := ⟨⟨hx, hb, hml, hown, hts⟩, hK⟩
  have hin : ∀ w ∈ wsX80, w ∈ wsX8_fire := fun _ h => List.mem_cons_of_mem _ (List.mem_append_right _ (h))
  have hI : MI A D cy o ad s S th s.heap [] := ⟨hM, va_S.rf⟩
  have hb7 := hN.b7
  have hb15 := hN.b15
  have hb23 := hN.b23
  have hb28 := hN.b28
  have hb42 := hN.b42
  have k_152 := hts (.fieldLink RX8 152 "RelatorsBenchModel" "thrown" "I") (List.mem_cons_of_mem _ (List.mem_append_left _ (List.mem_append_left _ (List.mem_of_getElem? (i := 1) rfl))))
  have k_134 := hts (.fieldLink RX8 134 "RelatorsBenchModel" "worksFor" "[I") (List.mem_cons_of_mem _ (List.mem_append_left _ (List.mem_append_left _ (List.mem_of_getElem? (i := 0) rfl))))
  have k_143 := hts (.fieldLink RX8 143 "RelatorsBenchModel" "firedOn" "[I") (List.mem_cons_of_mem _ (List.mem_append_left _ (List.mem_append_left _ (List.mem_of_getElem? (i := 2) rfl))))
  have k_179 := hts (.fieldLink RX8 179 "RelatorsBenchModel" "today" "I") (List.mem_cons_of_mem _ (List.mem_append_left _ (List.mem_append_left _ (List.mem_of_getElem? (i := 3) rfl))))
  have k_146 := hts (.fieldLink RX8 146 "RelatorsBenchModel" "firedWage" "[I") (List.mem_cons_of_mem _ (List.mem_append_left _ (List.mem_append_left _ (List.mem_of_getElem? (i := 4) rfl))))
  have k_137 := hts (.fieldLink RX8 137 "RelatorsBenchModel" "wage" "[I") (List.mem_cons_of_mem _ (List.mem_append_left _ (List.mem_append_left _ (List.mem_of_getElem? (i := 5) rfl))))
  have k_149 := hts (.fieldLink RX8 149 "RelatorsBenchModel" "isForTelling" "[Z") (List.mem_cons_of_mem _ (List.mem_append_left _ (List.mem_append_left _ (List.mem_of_getElem? (i := 6) rfl))))
  have hl := lv_entry ([.ref o, .int f, .int t]) (n := 5) (Nat.le_of_ble_eq_true rfl)
  rw [lg_entry_eq]
  generalize (lg_sl ([.ref o, .int f, .int t]) ++ List.replicate (5 - (lg_sl ([.ref o, .int f, .int t])).length) Slot.unset).toArray = ls at hl ⊢
  have hl : lv_has ls 5 [(0, .ref o), (1, .int f), (2, .int t)] := hl
  have hG : fX8_fire S f t = fX8_fire S f t := rfl
  refine lv_aload_n hx hb dX8_fire_0 rfl (lv_at hl 0 rfl) ?_
  refine lv_iload_n hx hb dX8_fire_1 rfl (lv_at hl 1 rfl) ?_
  refine mr_callS (As := [.int f]) (rest := [.ref o]) hC hI (qX8_isFirm l f) (va_cwS 1 hts gX8_fire_X8_isFirm rfl rfl rfl (by decide +kernel) ⟨Nat.le_of_ble_eq_true rfl, Nat.le_of_ble_eq_true rfl⟩) rfl hl.1 rfl (Nat.le_of_ble_eq_true rfl) dX8_fire_2 ⟨Nat.zero_le _, Nat.zero_le _⟩ (fun H locs hI => ?_)
  refine lv_if_eq (tgt := 15) hx hb dX8_fire_5 (by decide) (fun c_1 => ?_) (fun c_1 => ?_)
  · have hG := hG.trans (if_pos c_1)
    refine lv_iconst (v := 1) hx hb dX8_fire_15 (by decide) ?_
    refine lv_goto (tgt := 34) hx hb dX8_fire_16 (by decide) ?_
    refine mr_pt hC hin hL hI k_152 dX8_fire_34 (fun H locs hI => ?_)
    refine lv_aload_n hx hb dX8_fire_37 rfl (lv_at hl 0 rfl) ?_
    refine mr_gt hC hin hI k_152 dX8_fire_38 ?_
    refine lv_if_le (tgt := 46) hx hb dX8_fire_41 (by decide) (fun c => absurd c (by decide : ¬ (1 : Int32) ≤ 0)) (fun _ => ?_)
    refine lv_iconst (v := 0) hx hb dX8_fire_44 (by decide) ?_
    exact W.zret (v := 0) (ty := .boolean) hx hb hr rfl (fun t9 ht9 hW9 => ⟨⟨0, (), rfl, (congrArg Prod.fst hG).symm, by show MH D cy o ad _ _ t9.heap; rw [ht9, hG]; exact hI.1⟩, hI.2.F ht9⟩) hI.2.2.2 dX8_fire_45
  · have hG := hG.trans (if_neg c_1)
    refine lv_iload_n hx hb dX8_fire_8 rfl (lv_at hl 2 rfl) ?_
    refine mr_callS (As := [.int t]) (rest := [.ref o]) hC hI (qX8_isTeller l t) (va_cwS 1 hts gX8_fire_X8_isTeller rfl rfl rfl (by decide +kernel) ⟨Nat.le_of_ble_eq_true rfl, Nat.le_of_ble_eq_true rfl⟩) rfl hl.1 rfl (Nat.le_of_ble_eq_true rfl) dX8_fire_9 ⟨Nat.zero_le _, Nat.zero_le _⟩ (fun H locs hI => ?_)
    refine lv_if_ne (tgt := 19) hx hb dX8_fire_12 (by decide) (fun c_2 => ?_) (fun c_2 => ?_)
    · have hG := hG.trans (if_neg c_2)
      refine lv_aload_n hx hb dX8_fire_19 rfl (lv_at hl 0 rfl) ?_
      refine mr_ga hC hin hI 49 (by decide) k_134 dX8_fire_20 ?_
      refine lv_iload_n hx hb dX8_fire_23 rfl (lv_at hl 2 rfl) ?_
      refine mr_ld hC hI 49 (by decide) (by decide) (isTeller_in (by assumption)) (v := (S 49 (ix t))) rfl dX8_fire_24 ?_
      refine lv_iload_n hx hb dX8_fire_25 rfl (lv_at hl 1 rfl) ?_
      refine lv_icmp_eq (tgt := 33) hx hb dX8_fire_26 (by decide) (fun c_3 => ?_) (fun c_3 => ?_)
      · have hG := hG.trans (if_pos c_3)
        refine lv_iconst (v := 0) hx hb dX8_fire_33 (by decide) ?_
        refine mr_pt hC hin hL hI k_152 dX8_fire_34 (fun H locs hI => ?_)
        refine lv_aload_n hx hb dX8_fire_37 rfl (lv_at hl 0 rfl) ?_
        refine mr_gt hC hin hI k_152 dX8_fire_38 ?_
        refine lv_if_le (tgt := 46) hx hb dX8_fire_41 (by decide) (fun _ => ?_) (fun c => absurd (by decide : (0 : Int32) ≤ 0) c)
        refine lv_iload_n hx hb dX8_fire_46 rfl (lv_at hl 1 rfl) ?_
        refine lv_iload_n hx hb dX8_fire_47 rfl (lv_at hl 2 rfl) ?_
        refine mr_callS (As := [.int f, .int t]) (rest := []) hC hI (qX8_place l f t) (va_cwS 2 hts gX8_fire_X8_place rfl rfl rfl (by decide +kernel) ⟨Nat.le_of_ble_eq_true rfl, Nat.le_of_ble_eq_true rfl⟩) rfl hl.1 rfl (Nat.le_of_ble_eq_true rfl) dX8_fire_48 ⟨Nat.zero_le _, Nat.zero_le _⟩ (fun H locs hI => ?_)
        refine lv_istore_n (lv' := [(3, .int (fX8_place f t)), (0, .ref o), (1, .int f), (2, .int t)]) hx hb dX8_fire_51 rfl hl (by decide) rfl (fun ls hl => ?_)
        refine lv_aload_n hx hb dX8_fire_52 rfl (lv_at hl 1 rfl) ?_
        refine lv_iload_n hx hb dX8_fire_53 rfl (lv_at hl 2 rfl) ?_
        refine lv_iload_n hx hb dX8_fire_54 rfl (lv_at hl 3 rfl) ?_
        refine mr_call (As := [.int f, .int t]) (rest := []) hC hI (qX8_tellsFrom l D cy o ad S 0 hN (ix f) (vp_ixl (isFirm_in (by assumption))) (vp_ixe (isFirm_in (by assumption))) (ix t) (vp_ixl (isTeller_in (by assumption))) (vp_ixe (isTeller_in (by assumption)))) (cwV 2 hts gX8_fire_X8_tellsFrom rfl rfl rfl (by decide +kernel) ⟨Nat.le_of_ble_eq_true rfl, Nat.le_of_ble_eq_true rfl⟩) rfl hl.1 rfl (Nat.le_of_ble_eq_true rfl) dX8_fire_55 ⟨Nat.zero_le _, Nat.zero_le _⟩ (fun H locs hI => ?_)
        refine lv_istore (lv' := [(4, .int (fX8_tellsFrom S (ix f) (ix t))), (3, .int (fX8_place f t)), (0, .ref o), (1, .int f), (2, .int t)]) hx hb dX8_fire_58 hl (by decide) rfl (fun ls hl => ?_)
        refine lv_aload_n hx hb dX8_fire_60 rfl (lv_at hl 2 rfl) ?_
        refine mr_ga hC hin hI 49 (by decide) k_134 dX8_fire_61 ?_
        refine lv_iload_n hx hb dX8_fire_64 rfl (lv_at hl 4 rfl) ?_
        refine lv_iconst (v := (-1)) hx hb dX8_fire_65 (by decide) ?_
        refine mr_st hC hL hI 49 (by decide) (by decide) (isTeller_in (by assumption)) (n := (ix t)) rfl dX8_fire_66 (fun H locs hI => ?_)
        refine lv_aload_n hx hb dX8_fire_67 rfl (lv_at hl 2 rfl) ?_
        refine mr_ga hC hin hI 52 (by decide) k_143 dX8_fire_68 ?_
        refine lv_iload_n hx hb dX8_fire_71 rfl (lv_at hl 1 rfl) ?_
        refine lv_aload_n hx hb dX8_fire_72 rfl (lv_at hl 2 rfl) ?_
        refine mr_gi hC hin hI 1 (by decide) (by decide) (by decide) k_179 (v := (S 1 0)) (congrFun (up_ne (by decide)) _) dX8_fire_73 ?_
        refine mr_st hC hL hI 52 (by decide) (by decide) (place_in2 (isFirm_in (by assumption)) (isTeller_in (by assumption))) (n := (ix (fX8_place f t))) rfl dX8_fire_76 (fun H locs hI => ?_)
        refine lv_aload_n hx hb dX8_fire_77 rfl (lv_at hl 2 rfl) ?_
        refine mr_ga hC hin hI 53 (by decide) k_146 dX8_fire_78 ?_
        refine lv_iload_n hx hb dX8_fire_81 rfl (lv_at hl 1 rfl) ?_
        refine lv_aload_n hx hb dX8_fire_82 rfl (lv_at hl 2 rfl) ?_
        refine mr_ga hC hin hI 50 (by decide) k_137 dX8_fire_83 ?_
        refine lv_iload_n hx hb dX8_fire_86 rfl (lv_at hl 4 rfl) ?_
        refine mr_ld hC hI 50 (by decide) (by decide) (isTeller_in (by assumption)) (v := (S 50 (ix t))) ((congrFun (up_ne (by decide)) _).trans (congrFun (up_ne (by decide)) _)) dX8_fire_87 ?_
        refine mr_st hC hL hI 53 (by decide) (by decide) (place_in2 (isFirm_in (by assumption)) (isTeller_in (by assumption))) (n := (ix (fX8_place f t))) rfl dX8_fire_88 (fun H locs hI => ?_)
        refine lv_aload_n hx hb dX8_fire_89 rfl (lv_at hl 2 rfl) ?_
        refine mr_ga hC hin hI 54 (by decide) k_149 dX8_fire_90 ?_
        refine lv_iload_n hx hb dX8_fire_93 rfl (lv_at hl 1 rfl) ?_
        refine lv_iload hx hb dX8_fire_94 (lv_at hl 0 rfl) ?_
        refine lv_aload_n hx hb dX8_fire_96 rfl (lv_at hl 2 rfl) ?_
        refine mr_gi hC hin hI 1 (by decide) (by decide) (by decide) k_179 (v := (S 1 0)) ((congrFun (up_ne (by decide)) _).trans ((congrFun (up_ne (by decide)) _).trans (congrFun (up_ne (by decide)) _))) dX8_fire_97 ?_
        refine lv_icmp_gt (tgt := 119) hx hb dX8_fire_100 (by decide) (fun c_4 => ?_) (fun c_4 => ?_)
        · have hG := hG.trans (if_pos c_4)
          refine lv_iconst (v := 0) hx hb dX8_fire_119 (by decide) ?_
          refine mr_stz hC hL hI 54 (by decide) (by decide) (place_in2 (isFirm_in (by assumption)) (isTeller_in (by assumption))) (n := (ix (fX8_place f t))) rfl (by decide) dX8_fire_120 (fun H locs hI => ?_)
          refine lv_aload_n hx hb dX8_fire_121 rfl (lv_at hl 2 rfl) ?_
          refine mr_ga hC hin hI 54 (by decide) k_149 dX8_fire_122 ?_
          refine lv_iload_n hx hb dX8_fire_125 rfl (lv_at hl 1 rfl) ?_
          refine mr_ldz hC hI 54 (by decide) (by decide) (place_in2 (isFirm_in (by assumption)) (isTeller_in (by assumption))) (v := 0) (up_at _ _ _ _) dX8_fire_126 ?_
          exact W.zret (v := 0) (ty := .boolean) hx hb hr rfl (fun t9 ht9 hW9 => ⟨⟨0, (), rfl, (congrArg Prod.fst hG).symm, by show MH D cy o ad _ _ t9.heap; rw [ht9, hG]; exact hI.1⟩, hI.2.F ht9⟩) hI.2.2.2 dX8_fire_127
        · have hG := hG.trans (if_neg c_4)
          refine lv_aload_n hx hb dX8_fire_103 rfl (lv_at hl 2 rfl) ?_
          refine mr_gi hC hin hI 1 (by decide) (by decide) (by decide) k_179 (v := (S 1 0)) ((congrFun (up_ne (by decide)) _).trans ((congrFun (up_ne (by decide)) _).trans (congrFun (up_ne (by decide)) _))) dX8_fire_104 ?_
          refine lv_iload hx hb dX8_fire_107 (lv_at hl 0 rfl) ?_
          refine lv_isub hx hb dX8_fire_109 ?_
          refine lv_bipush (v := 90) hx hb dX8_fire_110 (by decide) ?_
          refine lv_icmp_gt (tgt := 119) hx hb dX8_fire_112 (by decide) (fun c_5 => ?_) (fun c_5 => ?_)
          · have hG := hG.trans (if_pos c_5)
            refine lv_iconst (v := 0) hx hb dX8_fire_119 (by decide) ?_
            refine mr_stz hC hL hI 54 (by decide) (by decide) (place_in2 (isFirm_in (by assumption)) (isTeller_in (by assumption))) (n := (ix (fX8_place f t))) rfl (by decide) dX8_fire_120 (fun H locs hI => ?_)
            refine lv_aload_n hx hb dX8_fire_121 rfl (lv_at hl 2 rfl) ?_
            refine mr_ga hC hin hI 54 (by decide) k_149 dX8_fire_122 ?_
            refine lv_iload_n hx hb dX8_fire_125 rfl (lv_at hl 1 rfl) ?_
            refine mr_ldz hC hI 54 (by decide) (by decide) (place_in2 (isFirm_in (by assumption)) (isTeller_in (by assumption))) (v := 0) (up_at _ _ _ _) dX8_fire_126 ?_
            exact W.zret (v := 0) (ty := .boolean) hx hb hr rfl (fun t9 ht9 hW9 => ⟨⟨0, (), rfl, (congrArg Prod.fst hG).symm, by show MH D cy o ad _ _ t9.heap; rw [ht9, hG]; exact hI.1⟩, hI.2.F ht9⟩) hI.2.2.2 dX8_fire_127
          · have hG := hG.trans (if_neg c_5)
            refine lv_iconst (v := 1) hx hb dX8_fire_115 (by decide) ?_
            refine lv_goto (tgt := 120) hx hb dX8_fire_116 (by decide) ?_
            refine mr_stz hC hL hI 54 (by decide) (by decide) (place_in2 (isFirm_in (by assumption)) (isTeller_in (by assumption))) (n := (ix (fX8_place f t))) rfl (by decide) dX8_fire_120 (fun H locs hI => ?_)
            refine lv_aload_n hx hb dX8_fire_121 rfl (lv_at hl 2 rfl) ?_
            refine mr_ga hC hin hI 54 (by decide) k_149 dX8_fire_122 ?_
            refine lv_iload_n hx hb dX8_fire_125 rfl (lv_at hl 1 rfl) ?_
            refine mr_ldz hC hI 54 (by decide) (by decide) (place_in2 (isFirm_in (by assumption)) (isTeller_in (by assumption))) (v := 1) (up_at _ _ _ _) dX8_fire_126 ?_
            exact W.zret (v := 1) (ty := .boolean) hx hb hr rfl (fun t9 ht9 hW9 => ⟨⟨1, (), rfl, (congrArg Prod.fst hG).symm, by show MH D cy o ad _ _ t9.heap; rw [ht9, hG]; exact hI.1⟩, hI.2.F ht9⟩) hI.2.2.2 dX8_fire_127
      · have hG := hG.trans (if_neg c_3)
        refine lv_iconst (v := 2) hx hb dX8_fire_29 (by decide) ?_
        refine lv_goto (tgt := 34) hx hb dX8_fire_30 (by decide) ?_
        refine mr_pt hC hin hL hI k_152 dX8_fire_34 (fun H locs hI => ?_)
        refine lv_aload_n hx hb dX8_fire_37 rfl (lv_at hl 0 rfl) ?_
        refine mr_gt hC hin hI k_152 dX8_fire_38 ?_
        refine lv_if_le (tgt := 46) hx hb dX8_fire_41 (by decide) (fun c => absurd c (by decide : ¬ (2 : Int32) ≤ 0)) (fun _ => ?_)
        refine lv_iconst (v := 0) hx hb dX8_fire_44 (by decide) ?_
        exact W.zret (v := 0) (ty := .boolean) hx hb hr rfl (fun t9 ht9 hW9 => ⟨⟨0, (), rfl, (congrArg Prod.fst hG).symm, by show MH D cy o ad _ _ t9.heap; rw [ht9, hG]; exact hI.1⟩, hI.2.F ht9⟩) hI.2.2.2 dX8_fire_45
    · have hG := hG.trans (if_pos c_2)
      refine lv_iconst (v := 1) hx hb dX8_fire_15 (by decide) ?_
      refine lv_goto (tgt := 34) hx hb dX8_fire_16 (by decide) ?_
      refine mr_pt hC hin hL hI k_152 dX8_fire_34 (fun H locs hI => ?_)
      refine lv_aload_n hx hb dX8_fire_37 rfl (lv_at hl 0 rfl) ?_
      refine mr_gt hC hin hI k_152 dX8_fire_38 ?_
      refine lv_if_le (tgt := 46) hx hb dX8_fire_41 (by decide) (fun c => absurd c (by decide : ¬ (1 : Int32) ≤ 0)) (fun _ => ?_)
      refine lv_iconst (v := 0) hx hb dX8_fire_44 (by decide) ?_
      exact W.zret (v := 0) (ty := .boolean) hx hb hr rfl (fun t9 ht9 hW9 => ⟨⟨0, (), rfl, (congrArg Prod.fst hG).symm, by show MH D cy o ad _ _ t9.heap; rw [ht9, hG]; exact hI.1⟩, hI.2.F ht9⟩) hI.2.2.2 dX8_fire_45
set_option maxHeartbeats 4000000 in
set_option maxRecDepth 100000 in
theorem qX8_award (l : Launch) (A : Nat → Prop) (D : va_G) (cy : Nat → ClassId) (o : Nat) (ad : Nat → Nat) (hL : ML A o ad) (S : St) (th : Int32) (hN : MInv S) (f : Int32) (t : Int32) : MMut l A D cy o ad S th yX8_award wsX8_award ({ frames := 2, cells := 0, slots := 0, locals := 42 } : Room) [.int f, .int t] (fX8_award S f t).1 (fX8_award S f t).2.2 (fX8_award S f t).2.1 := by
  refine Met.ofW (cc := cX8_award) (maxL := 6) (ret := (some .int)) (by decide) rfl ?_
  intro p e s m args below meth c s₁ B hml hv
  obtain ⟨rfl, hM, hK⟩ := hv
  have hx := B.exec
  have hb := B.bytes
  have hr := B.returns
  have hts := atoms_spec (ws := wsX8_award) B.pre
  have hown : s.vm.findClass RX8 = some m.cls := findClass_of_methodNamed B.named
  have hlocks := B.notSynchronized
  have hC : MC p s m _ c cX8_award 6 D cy wsX8_award := ⟨⟨hx, hb, hml, hown, hts⟩, hK⟩
  have hin : ∀ w ∈ wsX80, w ∈ wsX8_award := fun _ h => List.mem_cons_of_mem _ (List.mem_append_right _ (h))
  have hI : MI A D cy o ad s S th s.heap [] := ⟨hM, va_S.rf⟩
  have hb7 := hN.b7
  have hb15 := hN.b15
  have hb23 := hN.b23
  have hb28 := hN.b28
  have hb42 := hN.b42
  have k_152 := hts (.fieldLink RX8 152 "RelatorsBenchModel" "thrown" "I") (List.mem_cons_of_mem _ (List.mem_append_left _ (List.mem_of_getElem? (i := 1) rfl)))
  have k_149 := hts (.fieldLink RX8 149 "RelatorsBenchModel" "isForTelling" "[Z") (List.mem_cons_of_mem _ (List.mem_append_left _ (List.mem_of_getElem? (i := 0) rfl)))
  have k_179 := hts (.fieldLink RX8 179 "RelatorsBenchModel" "today" "I") (List.mem_cons_of_mem _ (List.mem_append_left _ (List.mem_of_getElem? (i := 2) rfl)))
  have k_143 := hts (.fieldLink RX8 143 "RelatorsBenchModel" "firedOn" "[I") (List.mem_cons_of_mem _ (List.mem_append_left _ (List.mem_of_getElem? (i := 3) rfl)))
  have k_146 := hts (.fieldLink RX8 146 "RelatorsBenchModel" "firedWage" "[I") (List.mem_cons_of_mem _ (List.mem_append_left _ (List.mem_of_getElem? (i := 4) rfl)))
  have k_7 := hts (.fieldLink RX8 7 "RelatorsBenchModel" "money" "[I") (List.mem_cons_of_mem _ (List.mem_append_left _ (List.mem_of_getElem? (i := 5) rfl)))
  have k_19 := hts (.fieldLink RX8 19 "RelatorsBenchModel" "byAwards" "[I") (List.mem_cons_of_mem _ (List.mem_append_left _ (List.mem_of_getElem? (i := 6) rfl)))
  have k_131 := hts (.fieldLink RX8 131 "RelatorsBenchModel" "awards" "[I") (List.mem_cons_of_mem _ (List.mem_append_left _ (List.mem_of_getElem? (i := 7) rfl)))
  have hl := lv_entry ([.ref o, .int f, .int t]) (n := 6) (Nat.le_of_ble_eq_true rfl)
  rw [lg_entry_eq]
  generalize (lg_sl ([.ref o, .int f, .int t]) ++ List.replicate (6 - (lg_sl ([.ref o, .int f, .int t])).length) Slot.unset).toArray = ls at hl ⊢
  have hl : lv_has ls 6 [(0, .ref o), (1, .int f), (2, .int t)] := hl
  have hG : fX8_award S f t = fX8_award S f t := rfl
  refine lv_aload_n hx hb dX8_award_0 rfl (lv_at hl 0 rfl) ?_
  refine lv_iload_n hx hb dX8_award_1 rfl (lv_at hl 1 rfl) ?_
  refine mr_callS (As := [.int f]) (rest := [.ref o]) hC hI (qX8_isFirm l f) (va_cwS 1 hts gX8_award_X8_isFirm rfl rfl rfl (by decide +kernel) ⟨Nat.le_of_ble_eq_true rfl, Nat.le_of_ble_eq_true rfl⟩) rfl hl.1 rfl (Nat.le_of_ble_eq_true rfl) dX8_award_2 ⟨Nat.zero_le _, Nat.zero_le _⟩ (fun H locs hI => ?_)
  refine lv_if_eq (tgt := 15) hx hb dX8_award_5 (by decide) (fun c_1 => ?_) (fun c_1 => ?_)
  · have hG := hG.trans (if_pos c_1)
    refine lv_iconst (v := 1) hx hb dX8_award_15 (by decide) ?_
    refine lv_goto (tgt := 37) hx hb dX8_award_16 (by decide) ?_
    refine mr_pt hC hin hL hI k_152 dX8_award_37 (fun H locs hI => ?_)
    refine lv_aload_n hx hb dX8_award_40 rfl (lv_at hl 0 rfl) ?_
    refine mr_gt hC hin hI k_152 dX8_award_41 ?_
    refine lv_if_le (tgt := 49) hx hb dX8_award_44 (by decide) (fun c => absurd c (by decide : ¬ (1 : Int32) ≤ 0)) (fun _ => ?_)
    refine lv_iconst (v := 0) hx hb dX8_award_47 (by decide) ?_
    exact W.iret (v := 0) hx hb hr (fun t9 ht9 hW9 => ⟨⟨0, (), rfl, (congrArg Prod.fst hG).symm, by show MH D cy o ad _ _ t9.heap; rw [ht9, hG]; exact hI.1⟩, hI.2.F ht9⟩) hI.2.2.2 dX8_award_48
  · have hG := hG.trans (if_neg c_1)
    refine lv_iload_n hx hb dX8_award_8 rfl (lv_at hl 2 rfl) ?_
    refine mr_callS (As := [.int t]) (rest := [.ref o]) hC hI (qX8_isTeller l t) (va_cwS 1 hts gX8_award_X8_isTeller rfl rfl rfl (by decide +kernel) ⟨Nat.le_of_ble_eq_true rfl, Nat.le_of_ble_eq_true rfl⟩) rfl hl.1 rfl (Nat.le_of_ble_eq_true rfl) dX8_award_9 ⟨Nat.zero_le _, Nat.zero_le _⟩ (fun H locs hI => ?_)
    refine lv_if_ne (tgt := 19) hx hb dX8_award_12 (by decide) (fun c_2 => ?_) (fun c_2 => ?_)
    · have hG := hG.trans (if_neg c_2)
      refine lv_aload_n hx hb dX8_award_19 rfl (lv_at hl 0 rfl) ?_
      refine mr_ga hC hin hI 54 (by decide) k_149 dX8_award_20 ?_
      refine lv_iload_n hx hb dX8_award_23 rfl (lv_at hl 1 rfl) ?_
      refine lv_iload_n hx hb dX8_award_24 rfl (lv_at hl 2 rfl) ?_
      refine mr_callS (As := [.int f, .int t]) (rest := [.ref (ad 54), .ref o]) hC hI (qX8_place l f t) (va_cwS 2 hts gX8_award_X8_place rfl rfl rfl (by decide +kernel) ⟨Nat.le_of_ble_eq_true rfl, Nat.le_of_ble_eq_true rfl⟩) rfl hl.1 rfl (Nat.le_of_ble_eq_true rfl) dX8_award_25 ⟨Nat.zero_le _, Nat.zero_le _⟩ (fun H locs hI => ?_)
      refine mr_ldz hC hI 54 (by decide) (by decide) (place_in2 (isFirm_in (by assumption)) (isTeller_in (by assumption))) (v := (S 54 (ix (fX8_place f t)))) rfl dX8_award_28 ?_
      refine lv_if_ne (tgt := 36) hx hb dX8_award_29 (by decide) (fun c_3 => ?_) (fun c_3 => ?_)
      · have hG := hG.trans (if_neg c_3)
        refine lv_iconst (v := 0) hx hb dX8_award_36 (by decide) ?_
        refine mr_pt hC hin hL hI k_152 dX8_award_37 (fun H locs hI => ?_)
        refine lv_aload_n hx hb dX8_award_40 rfl (lv_at hl 0 rfl) ?_
        refine mr_gt hC hin hI k_152 dX8_award_41 ?_
        refine lv_if_le (tgt := 49) hx hb dX8_award_44 (by decide) (fun _ => ?_) (fun c => absurd (by decide : (0 : Int32) ≤ 0) c)
        refine lv_iload_n hx hb dX8_award_49 rfl (lv_at hl 1 rfl) ?_
        refine lv_iload_n hx hb dX8_award_50 rfl (lv_at hl 2 rfl) ?_
        refine mr_callS (As := [.int f, .int t]) (rest := []) hC hI (qX8_place l f t) (va_cwS 2 hts gX8_award_X8_place rfl rfl rfl (by decide +kernel) ⟨Nat.le_of_ble_eq_true rfl, Nat.le_of_ble_eq_true rfl⟩) rfl hl.1 rfl (Nat.le_of_ble_eq_true rfl) dX8_award_51 ⟨Nat.zero_le _, Nat.zero_le _⟩ (fun H locs hI => ?_)
        refine lv_istore_n (lv' := [(3, .int (fX8_place f t)), (0, .ref o), (1, .int f), (2, .int t)]) hx hb dX8_award_54 rfl hl (by decide) rfl (fun ls hl => ?_)
        refine lv_aload_n hx hb dX8_award_55 rfl (lv_at hl 1 rfl) ?_
        refine mr_gi hC hin hI 1 (by decide) (by decide) (by decide) k_179 (v := (S 1 0)) rfl dX8_award_56 ?_
        refine lv_aload_n hx hb dX8_award_59 rfl (lv_at hl 1 rfl) ?_
        refine mr_ga hC hin hI 52 (by decide) k_143 dX8_award_60 ?_
        refine lv_iload_n hx hb dX8_award_63 rfl (lv_at hl 0 rfl) ?_
        refine mr_ld hC hI 52 (by decide) (by decide) (place_in2 (isFirm_in (by assumption)) (isTeller_in (by assumption))) (v := (S 52 (ix (fX8_place f t)))) rfl dX8_award_64 ?_
        refine lv_isub hx hb dX8_award_65 ?_
        refine lv_sipush (v := 400) hx hb dX8_award_66 (by decide) ?_
        refine lv_icmp_le (tgt := 78) hx hb dX8_award_69 (by decide) (fun c_4 => ?_) (fun c_4 => ?_)
        · have hG := hG.trans (if_pos c_4)
          refine lv_aload_n hx hb dX8_award_78 rfl (lv_at hl 1 rfl) ?_
          refine mr_gi hC hin hI 1 (by decide) (by decide) (by decide) k_179 (v := (S 1 0)) rfl dX8_award_79 ?_
          refine lv_aload_n hx hb dX8_award_82 rfl (lv_at hl 1 rfl) ?_
          refine mr_ga hC hin hI 52 (by decide) k_143 dX8_award_83 ?_
          refine lv_iload_n hx hb dX8_award_86 rfl (lv_at hl 0 rfl) ?_
          refine mr_ld hC hI 52 (by decide) (by decide) (place_in2 (isFirm_in (by assumption)) (isTeller_in (by assumption))) (v := (S 52 (ix (fX8_place f t)))) rfl dX8_award_87 ?_
          refine lv_isub hx hb dX8_award_88 ?_
          refine lv_istore (lv' := [(4, .int ((S 1 0) - (S 52 (ix (fX8_place f t))))), (3, .int (fX8_place f t)), (0, .ref o), (1, .int f), (2, .int t)]) hx hb dX8_award_89 hl (by decide) rfl (fun ls hl => ?_)
          refine lv_iconst (v := 2) hx hb dX8_award_91 (by decide) ?_
          refine lv_aload_n hx hb dX8_award_92 rfl (lv_at hl 2 rfl) ?_
          refine mr_ga hC hin hI 53 (by decide) k_146 dX8_award_93 ?_
          refine lv_iload_n hx hb dX8_award_96 rfl (lv_at hl 1 rfl) ?_
          refine mr_ld hC hI 53 (by decide) (by decide) (place_in2 (isFirm_in (by assumption)) (isTeller_in (by assumption))) (v := (S 53 (ix (fX8_place f t)))) rfl dX8_award_97 ?_
          refine lv_imul hx hb dX8_award_98 ?_
          refine lv_iload hx hb dX8_award_99 (lv_at hl 0 rfl) ?_
          refine lv_imul hx hb dX8_award_101 ?_
          refine lv_aload_n hx hb dX8_award_102 rfl (lv_at hl 2 rfl) ?_
          refine mr_ga hC hin hI 2 (by decide) k_7 dX8_award_103 ?_
          refine lv_iload_n hx hb dX8_award_106 rfl (lv_at hl 3 rfl) ?_
          refine mr_ld hC hI 2 (by decide) (by decide) (isFirm_in (by assumption)) (v := (S 2 (ix f))) rfl dX8_award_107 ?_
          have hG : fX8_award S f t = bX8_award_131 S f t (jX8_award_131 S f t) := hG
          refine w_join (σ := Int32) 131 (fun y131_0 H locs ls => jX8_award_131 S f t = y131_0 ∧ MI A D cy o ad s S 0 H locs ∧ lv_has ls 6 [(4, .int ((S 1 0) - (S 52 (ix (fX8_place f t))))), (3, .int (fX8_place f t)), (0, .ref o), (1, .int f), (2, .int t)]) (fun y131_0 => [.int y131_0]) ?_ (fun J131 => ?_)
          · intro y131_0 H locs ls ⟨hy131_0, hI, hl⟩
            rw [hy131_0] at hG
            refine lv_istore (lv' := [(5, .int y131_0), (4, .int ((S 1 0) - (S 52 (ix (fX8_place f t))))), (3, .int (fX8_place f t)), (0, .ref o), (1, .int f), (2, .int t)]) hx hb dX8_award_131 hl (by decide) rfl (fun ls hl => ?_)
            refine lv_aload_n hx hb dX8_award_133 rfl (lv_at hl 3 rfl) ?_
            refine mr_ga hC hin hI 54 (by decide) k_149 dX8_award_134 ?_
            refine lv_iload_n hx hb dX8_award_137 rfl (lv_at hl 2 rfl) ?_
            refine lv_iconst (v := 0) hx hb dX8_award_138 (by decide) ?_
            refine mr_stz hC hL hI 54 (by decide) (by decide) (place_in2 (isFirm_in (by assumption)) (isTeller_in (by assumption))) (n := (ix (fX8_place f t))) rfl (by decide) dX8_award_139 (fun H locs hI => ?_)
            refine lv_aload_n hx hb dX8_award_140 rfl (lv_at hl 3 rfl) ?_
            refine mr_ga hC hin hI 2 (by decide) k_7 dX8_award_141 ?_
            refine lv_iload_n hx hb dX8_award_144 rfl (lv_at hl 4 rfl) ?_
            refine lv_dup2_11 hx hb dX8_award_145 rfl rfl ?_
            refine mr_ld hC hI 2 (by decide) (by decide) (isFirm_in (by assumption)) (v := (S 2 (ix f))) (congrFun (up_ne (by decide)) _) dX8_award_146 ?_
            refine lv_iload hx hb dX8_award_147 (lv_at hl 0 rfl) ?_
            refine lv_isub hx hb dX8_award_149 ?_
            refine mr_st hC hL hI 2 (by decide) (by decide) (isFirm_in (by assumption)) (n := (ix f)) rfl dX8_award_150 (fun H locs hI => ?_)
            refine lv_aload_n hx hb dX8_award_151 rfl (lv_at hl 3 rfl) ?_
            refine mr_ga hC hin hI 5 (by decide) k_19 dX8_award_152 ?_
            refine lv_iload_n hx hb dX8_award_155 rfl (lv_at hl 4 rfl) ?_
            refine lv_dup2_11 hx hb dX8_award_156 rfl rfl ?_
            refine mr_ld hC hI 5 (by decide) (by decide) (isFirm_in (by assumption)) (v := (S 5 (ix f))) ((congrFun (up_ne (by decide)) _).trans (congrFun (up_ne (by decide)) _)) dX8_award_157 ?_
            refine lv_iload hx hb dX8_award_158 (lv_at hl 0 rfl) ?_
            refine lv_iadd hx hb dX8_award_160 ?_
            refine mr_st hC hL hI 5 (by decide) (by decide) (isFirm_in (by assumption)) (n := (ix f)) rfl dX8_award_161 (fun H locs hI => ?_)
            refine lv_aload_n hx hb dX8_award_162 rfl (lv_at hl 3 rfl) ?_
            refine mr_ga hC hin hI 48 (by decide) k_131 dX8_award_163 ?_
            refine lv_iload_n hx hb dX8_award_166 rfl (lv_at hl 5 rfl) ?_
            refine lv_dup2_11 hx hb dX8_award_167 rfl rfl ?_
            refine mr_ld hC hI 48 (by decide) (by decide) (isTeller_in (by assumption)) (v := (S 48 (ix t))) ((congrFun (up_ne (by decide)) _).trans ((congrFun (up_ne (by decide)) _).trans (congrFun (up_ne (by decide)) _))) dX8_award_168 ?_
            refine lv_iload hx hb dX8_award_169 (lv_at hl 0 rfl) ?_
            refine lv_iadd hx hb dX8_award_171 ?_
            refine mr_st hC hL hI 48 (by decide) (by decide) (isTeller_in (by assumption)) (n := (ix t)) rfl dX8_award_172 (fun H locs hI => ?_)
            refine lv_iload hx hb dX8_award_173 (lv_at hl 0 rfl) ?_
            exact W.iret (v := y131_0) hx hb hr (fun t9 ht9 hW9 => ⟨⟨y131_0, (), rfl, (congrArg Prod.fst hG).symm, by show MH D cy o ad _ _ t9.heap; rw [ht9, hG]; exact hI.1⟩, hI.2.F ht9⟩) hI.2.2.2 dX8_award_175
          · have hB131 : jX8_award_131 S f t = jX8_award_131 S f t := rfl
            refine lv_icmp_ge (tgt := 125) hx hb dX8_award_108 (by decide) (fun c_5 => ?_) (fun c_5 => ?_)
            · have hB131 := hB131.trans (if_pos c_5)
              refine lv_aload_n hx hb dX8_award_125 rfl (lv_at hl 2 rfl) ?_
              refine mr_ga hC hin hI 2 (by decide) k_7 dX8_award_126 ?_
              refine lv_iload_n hx hb dX8_award_129 rfl (lv_at hl 3 rfl) ?_
              refine mr_ld hC hI 2 (by decide) (by decide) (isFirm_in (by assumption)) (v := (S 2 (ix f))) rfl dX8_award_130 ?_
              exact J131 (S 2 (ix f)) _ _ ls ⟨hB131, hI, lv_sub hl [0, 1, 2, 3, 4] rfl⟩
            · have hB131 := hB131.trans (if_neg c_5)
              refine lv_iconst (v := 2) hx hb dX8_award_111 (by decide) ?_
              refine lv_aload_n hx hb dX8_award_112 rfl (lv_at hl 2 rfl) ?_
              refine mr_ga hC hin hI 53 (by decide) k_146 dX8_award_113 ?_
              refine lv_iload_n hx hb dX8_award_116 rfl (lv_at hl 1 rfl) ?_
              refine mr_ld hC hI 53 (by decide) (by decide) (place_in2 (isFirm_in (by assumption)) (isTeller_in (by assumption))) (v := (S 53 (ix (fX8_place f t)))) rfl dX8_award_117 ?_
              refine lv_imul hx hb dX8_award_118 ?_
              refine lv_iload hx hb dX8_award_119 (lv_at hl 0 rfl) ?_
              refine lv_imul hx hb dX8_award_121 ?_
              refine lv_goto (tgt := 131) hx hb dX8_award_122 (by decide) ?_
              exact J131 ((2 * (S 53 (ix (fX8_place f t)))) * ((S 1 0) - (S 52 (ix (fX8_place f t))))) _ _ ls ⟨hB131, hI, lv_sub hl [0, 1, 2, 3, 4] rfl⟩
        · have hG := hG.trans (if_neg c_4)
          refine lv_sipush (v := 400) hx hb dX8_award_72 (by decide) ?_
          refine lv_goto (tgt := 89) hx hb dX8_award_75 (by decide) ?_
          refine lv_istore (lv' := [(4, .int 400), (3, .int (fX8_place f t)), (0, .ref o), (1, .int f), (2, .int t)]) hx hb dX8_award_89 hl (by decide) rfl (fun ls hl => ?_)
          refine lv_iconst (v := 2) hx hb dX8_award_91 (by decide) ?_
          refine lv_aload_n hx hb dX8_award_92 rfl (lv_at hl 2 rfl) ?_
          refine mr_ga hC hin hI 53 (by decide) k_146 dX8_award_93 ?_
          refine lv_iload_n hx hb dX8_award_96 rfl (lv_at hl 1 rfl) ?_
          refine mr_ld hC hI 53 (by decide) (by decide) (place_in2 (isFirm_in (by assumption)) (isTeller_in (by assumption))) (v := (S 53 (ix (fX8_place f t)))) rfl dX8_award_97 ?_
          refine lv_imul hx hb dX8_award_98 ?_
          refine lv_iload hx hb dX8_award_99 (lv_at hl 0 rfl) ?_
          refine lv_imul hx hb dX8_award_101 ?_
          refine lv_aload_n hx hb dX8_award_102 rfl (lv_at hl 2 rfl) ?_
          refine mr_ga hC hin hI 2 (by decide) k_7 dX8_award_103 ?_
          refine lv_iload_n hx hb dX8_award_106 rfl (lv_at hl 3 rfl) ?_
          refine mr_ld hC hI 2 (by decide) (by decide) (isFirm_in (by assumption)) (v := (S 2 (ix f))) rfl dX8_award_107 ?_
          have hG : fX8_award S f t = bX8_award_131 S f t (jX8_award_131_v2 S f t) := hG
          refine w_join (σ := Int32) 131 (fun y131_0 H locs ls => jX8_award_131_v2 S f t = y131_0 ∧ MI A D cy o ad s S 0 H locs ∧ lv_has ls 6 [(4, .int 400), (3, .int (fX8_place f t)), (0, .ref o), (1, .int f), (2, .int t)]) (fun y131_0 => [.int y131_0]) ?_ (fun J131 => ?_)
          · intro y131_0 H locs ls ⟨hy131_0, hI, hl⟩
            rw [hy131_0] at hG
            refine lv_istore (lv' := [(5, .int y131_0), (4, .int 400), (3, .int (fX8_place f t)), (0, .ref o), (1, .int f), (2, .int t)]) hx hb dX8_award_131 hl (by decide) rfl (fun ls hl => ?_)
            refine lv_aload_n hx hb dX8_award_133 rfl (lv_at hl 3 rfl) ?_
            refine mr_ga hC hin hI 54 (by decide) k_149 dX8_award_134 ?_
            refine lv_iload_n hx hb dX8_award_137 rfl (lv_at hl 2 rfl) ?_
            refine lv_iconst (v := 0) hx hb dX8_award_138 (by decide) ?_
            refine mr_stz hC hL hI 54 (by decide) (by decide) (place_in2 (isFirm_in (by assumption)) (isTeller_in (by assumption))) (n := (ix (fX8_place f t))) rfl (by decide) dX8_award_139 (fun H locs hI => ?_)
            refine lv_aload_n hx hb dX8_award_140 rfl (lv_at hl 3 rfl) ?_
            refine mr_ga hC hin hI 2 (by decide) k_7 dX8_award_141 ?_
            refine lv_iload_n hx hb dX8_award_144 rfl (lv_at hl 4 rfl) ?_
            refine lv_dup2_11 hx hb dX8_award_145 rfl rfl ?_
            refine mr_ld hC hI 2 (by decide) (by decide) (isFirm_in (by assumption)) (v := (S 2 (ix f))) (congrFun (up_ne (by decide)) _) dX8_award_146 ?_
            refine lv_iload hx hb dX8_award_147 (lv_at hl 0 rfl) ?_
            refine lv_isub hx hb dX8_award_149 ?_
            refine mr_st hC hL hI 2 (by decide) (by decide) (isFirm_in (by assumption)) (n := (ix f)) rfl dX8_award_150 (fun H locs hI => ?_)
            refine lv_aload_n hx hb dX8_award_151 rfl (lv_at hl 3 rfl) ?_
            refine mr_ga hC hin hI 5 (by decide) k_19 dX8_award_152 ?_
            refine lv_iload_n hx hb dX8_award_155 rfl (lv_at hl 4 rfl) ?_
            refine lv_dup2_11 hx hb dX8_award_156 rfl rfl ?_
            refine mr_ld hC hI 5 (by decide) (by decide) (isFirm_in (by assumption)) (v := (S 5 (ix f))) ((congrFun (up_ne (by decide)) _).trans (congrFun (up_ne (by decide)) _)) dX8_award_157 ?_
            refine lv_iload hx hb dX8_award_158 (lv_at hl 0 rfl) ?_
            refine lv_iadd hx hb dX8_award_160 ?_
            refine mr_st hC hL hI 5 (by decide) (by decide) (isFirm_in (by assumption)) (n := (ix f)) rfl dX8_award_161 (fun H locs hI => ?_)
            refine lv_aload_n hx hb dX8_award_162 rfl (lv_at hl 3 rfl) ?_
            refine mr_ga hC hin hI 48 (by decide) k_131 dX8_award_163 ?_
            refine lv_iload_n hx hb dX8_award_166 rfl (lv_at hl 5 rfl) ?_
            refine lv_dup2_11 hx hb dX8_award_167 rfl rfl ?_
            refine mr_ld hC hI 48 (by decide) (by decide) (isTeller_in (by assumption)) (v := (S 48 (ix t))) ((congrFun (up_ne (by decide)) _).trans ((congrFun (up_ne (by decide)) _).trans (congrFun (up_ne (by decide)) _))) dX8_award_168 ?_
            refine lv_iload hx hb dX8_award_169 (lv_at hl 0 rfl) ?_
            refine lv_iadd hx hb dX8_award_171 ?_
            refine mr_st hC hL hI 48 (by decide) (by decide) (isTeller_in (by assumption)) (n := (ix t)) rfl dX8_award_172 (fun H locs hI => ?_)
            refine lv_iload hx hb dX8_award_173 (lv_at hl 0 rfl) ?_
            exact W.iret (v := y131_0) hx hb hr (fun t9 ht9 hW9 => ⟨⟨y131_0, (), rfl, (congrArg Prod.fst hG).symm, by show MH D cy o ad _ _ t9.heap; rw [ht9, hG]; exact hI.1⟩, hI.2.F ht9⟩) hI.2.2.2 dX8_award_175
          · have hB131 : jX8_award_131_v2 S f t = jX8_award_131_v2 S f t := rfl
            refine lv_icmp_ge (tgt := 125) hx hb dX8_award_108 (by decide) (fun c_6 => ?_) (fun c_6 => ?_)
            · have hB131 := hB131.trans (if_pos c_6)
              refine lv_aload_n hx hb dX8_award_125 rfl (lv_at hl 2 rfl) ?_
              refine mr_ga hC hin hI 2 (by decide) k_7 dX8_award_126 ?_
              refine lv_iload_n hx hb dX8_award_129 rfl (lv_at hl 3 rfl) ?_
              refine mr_ld hC hI 2 (by decide) (by decide) (isFirm_in (by assumption)) (v := (S 2 (ix f))) rfl dX8_award_130 ?_
              exact J131 (S 2 (ix f)) _ _ ls ⟨hB131, hI, lv_sub hl [0, 1, 2, 3, 4] rfl⟩
            · have hB131 := hB131.trans (if_neg c_6)
              refine lv_iconst (v := 2) hx hb dX8_award_111 (by decide) ?_
              refine lv_aload_n hx hb dX8_award_112 rfl (lv_at hl 2 rfl) ?_
              refine mr_ga hC hin hI 53 (by decide) k_146 dX8_award_113 ?_
              refine lv_iload_n hx hb dX8_award_116 rfl (lv_at hl 1 rfl) ?_
              refine mr_ld hC hI 53 (by decide) (by decide) (place_in2 (isFirm_in (by assumption)) (isTeller_in (by assumption))) (v := (S 53 (ix (fX8_place f t)))) rfl dX8_award_117 ?_
              refine lv_imul hx hb dX8_award_118 ?_
              refine lv_iload hx hb dX8_award_119 (lv_at hl 0 rfl) ?_
              refine lv_imul hx hb dX8_award_121 ?_
              refine lv_goto (tgt := 131) hx hb dX8_award_122 (by decide) ?_
              exact J131 ((2 * (S 53 (ix (fX8_place f t)))) * 400) _ _ ls ⟨hB131, hI, lv_sub hl [0, 1, 2, 3, 4] rfl⟩
      · have hG := hG.trans (if_pos c_3)
        refine lv_iconst (v := 2) hx hb dX8_award_32 (by decide) ?_
        refine lv_goto (tgt := 37) hx hb dX8_award_33 (by decide) ?_
        refine mr_pt hC hin hL hI k_152 dX8_award_37 (fun H locs hI => ?_)
        refine lv_aload_n hx hb dX8_award_40 rfl (lv_at hl 0 rfl) ?_
        refine mr_gt hC hin hI k_152 dX8_award_41 ?_
        refine lv_if_le (tgt := 49) hx hb dX8_award_44 (by decide) (fun c => absurd c (by decide : ¬ (2 : Int32) ≤ 0)) (fun _ => ?_)
        refine lv_iconst (v := 0) hx hb dX8_award_47 (by decide) ?_
        exact W.iret (v := 0) hx hb hr (fun t9 ht9 hW9 => ⟨⟨0, (), rfl, (congrArg Prod.fst hG).symm, by show MH D cy o ad _ _ t9.heap; rw [ht9, hG]; exact hI.1⟩, hI.2.F ht9⟩) hI.2.2.2 dX8_award_48
    · have hG := hG.trans (if_pos c_2)
      refine lv_iconst (v := 1) hx hb dX8_award_15 (by decide) ?_
      refine lv_goto (tgt := 37) hx hb dX8_award_16 (by decide) ?_
      refine mr_pt hC hin hL hI k_152 dX8_award_37 (fun H locs hI => ?_)
      refine lv_aload_n hx hb dX8_award_40 rfl (lv_at hl 0 rfl) ?_
      refine mr_gt hC hin hI k_152 dX8_award_41 ?_
      refine lv_if_le (tgt := 49) hx hb dX8_award_44 (by decide) (fun c => absurd c (by decide : ¬ (1 : Int32) ≤ 0)) (fun _ => ?_)
      refine lv_iconst (v := 0) hx hb dX8_award_47 (by decide) ?_
      exact W.iret (v := 0) hx hb hr (fun t9 ht9 hW9 => ⟨⟨0, (), rfl, (congrArg Prod.fst hG).symm, by show MH D cy o ad _ _ t9.heap; rw [ht9, hG]; exact hI.1⟩, hI.2.F ht9⟩) hI.2.2.2 dX8_award_48
set_option maxHeartbeats 4000000 in
set_option maxRecDepth 100000 in
theorem qX8_pass (l : Launch) (A : Nat → Prop) (D : va_G) (cy : Nat → ClassId) (o : Nat) (ad : Nat → Nat) (hL : ML A o ad) (S : St) (th : Int32) (hN : MInv S) (days : Int32) : MMut l A D cy o ad S th yX8_pass wsX8_pass ({ frames := 1, cells := 0, slots := 0, locals := 22 } : Room) [.int days] (fX8_pass S days).1 (fX8_pass S days).2.2 (fX8_pass S days).2.1 := by
  refine Met.ofW (cc := cX8_pass) (maxL := 2) (ret := (some .int)) (by decide) rfl ?_
  intro p e s m args below meth c s₁ B hml hv
  obtain ⟨rfl, hM, hK⟩ := hv
  have hx := B.exec
  have hb := B.bytes
  have hr := B.returns
  have hts := atoms_spec (ws := wsX8_pass) B.pre
  have hown : s.vm.findClass RX8 = some m.cls := findClass_of_methodNamed B.named
  have hlocks := B.notSynchronized
  have hC : MC p s m _ c cX8_pass 2 D cy wsX8_pass := ⟨⟨hx, hb, hml, hown, hts⟩, hK⟩
  have hin : ∀ w ∈ wsX80, w ∈ wsX8_pass := fun _ h => List.mem_cons_of_mem _ (List.mem_append_right _ (h))
  have hI : MI A D cy o ad s S th s.heap [] := ⟨hM, va_S.rf⟩
  have hb7 := hN.b7
  have hb15 := hN.b15
  have hb23 := hN.b23
  have hb28 := hN.b28
  have hb42 := hN.b42
  have k_179 := hts (.fieldLink RX8 179 "RelatorsBenchModel" "today" "I") (List.mem_cons_of_mem _ (List.mem_append_left _ (List.mem_of_getElem? (i := 0) rfl)))
  have k_152 := hts (.fieldLink RX8 152 "RelatorsBenchModel" "thrown" "I") (List.mem_cons_of_mem _ (List.mem_append_left _ (List.mem_of_getElem? (i := 1) rfl)))
  have hl := lv_entry ([.ref o, .int days]) (n := 2) (Nat.le_of_ble_eq_true rfl)
  rw [lg_entry_eq]
  generalize (lg_sl ([.ref o, .int days]) ++ List.replicate (2 - (lg_sl ([.ref o, .int days])).length) Slot.unset).toArray = ls at hl ⊢
  have hl : lv_has ls 2 [(0, .ref o), (1, .int days)] := hl
  have hG : fX8_pass S days = fX8_pass S days := rfl
  refine lv_aload_n hx hb dX8_pass_0 rfl (lv_at hl 0 rfl) ?_
  refine lv_iload_n hx hb dX8_pass_1 rfl (lv_at hl 1 rfl) ?_
  refine lv_iconst (v := 1) hx hb dX8_pass_2 (by decide) ?_
  refine lv_sipush (v := 300) hx hb dX8_pass_3 (by decide) ?_
  refine mr_callS (As := [.int days, .int 1, .int 300]) (rest := [.ref o]) hC hI (qX8_in l days 1 300) (va_cwS 3 hts gX8_pass_X8_in rfl rfl rfl (by decide +kernel) ⟨Nat.le_of_ble_eq_true rfl, Nat.le_of_ble_eq_true rfl⟩) rfl hl.1 rfl (Nat.le_of_ble_eq_true rfl) dX8_pass_6 ⟨Nat.zero_le _, Nat.zero_le _⟩ (fun H locs hI => ?_)
  refine lv_if_ne (tgt := 16) hx hb dX8_pass_9 (by decide) (fun c_1 => ?_) (fun c_1 => ?_)
  · have hG := hG.trans (if_neg c_1)
    refine lv_aload_n hx hb dX8_pass_16 rfl (lv_at hl 0 rfl) ?_
    refine mr_gi hC hin hI 1 (by decide) (by decide) (by decide) k_179 (v := (S 1 0)) rfl dX8_pass_17 ?_
    refine lv_iload_n hx hb dX8_pass_20 rfl (lv_at hl 1 rfl) ?_
    refine lv_iadd hx hb dX8_pass_21 ?_
    refine lv_sipush (v := 3000) hx hb dX8_pass_22 (by decide) ?_
    refine lv_icmp_le (tgt := 32) hx hb dX8_pass_25 (by decide) (fun c_2 => ?_) (fun c_2 => ?_)
    · have hG := hG.trans (if_pos c_2)
      refine lv_iconst (v := 0) hx hb dX8_pass_32 (by decide) ?_
      refine mr_pt hC hin hL hI k_152 dX8_pass_33 (fun H locs hI => ?_)
      refine lv_aload_n hx hb dX8_pass_36 rfl (lv_at hl 0 rfl) ?_
      refine mr_gt hC hin hI k_152 dX8_pass_37 ?_
      refine lv_if_le (tgt := 45) hx hb dX8_pass_40 (by decide) (fun _ => ?_) (fun c => absurd (by decide : (0 : Int32) ≤ 0) c)
      refine lv_aload_n hx hb dX8_pass_45 rfl (lv_at hl 0 rfl) ?_
      refine lv_dup hx hb dX8_pass_46 rfl ?_
      refine mr_gi hC hin hI 1 (by decide) (by decide) (by decide) k_179 (v := (S 1 0)) rfl dX8_pass_47 ?_
      refine lv_iload_n hx hb dX8_pass_50 rfl (lv_at hl 1 rfl) ?_
      refine lv_iadd hx hb dX8_pass_51 ?_
      refine mr_pi hC hin hL hI 1 (by decide) (by decide) (by decide) k_179 dX8_pass_52 (fun H locs hI => ?_)
      refine lv_aload_n hx hb dX8_pass_55 rfl (lv_at hl 0 rfl) ?_
      refine mr_gi hC hin hI 1 (by decide) (by decide) (by decide) k_179 (v := ((S 1 0) + days)) (up_at _ _ _ _) dX8_pass_56 ?_
      exact W.iret (v := ((S 1 0) + days)) hx hb hr (fun t9 ht9 hW9 => ⟨⟨((S 1 0) + days), (), rfl, (congrArg Prod.fst hG).symm, by show MH D cy o ad _ _ t9.heap; rw [ht9, hG]; exact hI.1⟩, hI.2.F ht9⟩) hI.2.2.2 dX8_pass_59
    · have hG := hG.trans (if_neg c_2)
      refine lv_iconst (v := 2) hx hb dX8_pass_28 (by decide) ?_
      refine lv_goto (tgt := 33) hx hb dX8_pass_29 (by decide) ?_
      refine mr_pt hC hin hL hI k_152 dX8_pass_33 (fun H locs hI => ?_)
      refine lv_aload_n hx hb dX8_pass_36 rfl (lv_at hl 0 rfl) ?_
      refine mr_gt hC hin hI k_152 dX8_pass_37 ?_
      refine lv_if_le (tgt := 45) hx hb dX8_pass_40 (by decide) (fun c => absurd c (by decide : ¬ (2 : Int32) ≤ 0)) (fun _ => ?_)
      refine lv_iconst (v := 0) hx hb dX8_pass_43 (by decide) ?_
      exact W.iret (v := 0) hx hb hr (fun t9 ht9 hW9 => ⟨⟨0, (), rfl, (congrArg Prod.fst hG).symm, by show MH D cy o ad _ _ t9.heap; rw [ht9, hG]; exact hI.1⟩, hI.2.F ht9⟩) hI.2.2.2 dX8_pass_44
  · have hG := hG.trans (if_pos c_1)
    refine lv_iconst (v := 1) hx hb dX8_pass_12 (by decide) ?_
    refine lv_goto (tgt := 33) hx hb dX8_pass_13 (by decide) ?_
    refine mr_pt hC hin hL hI k_152 dX8_pass_33 (fun H locs hI => ?_)
    refine lv_aload_n hx hb dX8_pass_36 rfl (lv_at hl 0 rfl) ?_
    refine mr_gt hC hin hI k_152 dX8_pass_37 ?_
    refine lv_if_le (tgt := 45) hx hb dX8_pass_40 (by decide) (fun c => absurd c (by decide : ¬ (1 : Int32) ≤ 0)) (fun _ => ?_)
    refine lv_iconst (v := 0) hx hb dX8_pass_43 (by decide) ?_
    exact W.iret (v := 0) hx hb hr (fun t9 ht9 hW9 => ⟨⟨0, (), rfl, (congrArg Prod.fst hG).symm, by show MH D cy o ad _ _ t9.heap; rw [ht9, hG]; exact hI.1⟩, hI.2.F ht9⟩) hI.2.2.2 dX8_pass_44
set_option maxHeartbeats 4000000 in
set_option maxRecDepth 100000 in
theorem qX8_covers (l : Launch) (A : Nat → Prop) (D : va_G) (cy : Nat → ClassId) (o : Nat) (ad : Nat → Nat) (hL : ML A o ad) (S : St) (th : Int32) (hN : MInv S) (k : Int32) (s_ : Int32) : MMut l A D cy o ad S th yX8_covers wsX8_covers ({ frames := 3, cells := 0, slots := 0, locals := 67 } : Room) [.int k, .int s_] (fX8_covers S k s_).1 (fX8_covers S k s_).2.2 (fX8_covers S k s_).2.1 := by
  refine Met.ofW (cc := cX8_covers) (maxL := 3) (ret := (some .int)) (by decide) rfl ?_
  intro p e s m args below meth c s₁ B hml hv
  obtain ⟨rfl, hM, hK⟩ := hv
  have hx := B.exec
  have hb := B.bytes
  have hr := B.returns
  have hts := atoms_spec (ws := wsX8_covers) B.pre
  have hown : s.vm.findClass RX8 = some m.cls := findClass_of_methodNamed B.named
  have hlocks := B.notSynchronized
  have hC : MC p s m _ c cX8_covers 3 D cy wsX8_covers := ⟨⟨hx, hb, hml, hown, hts⟩, hK⟩
  have hin : ∀ w ∈ wsX80, w ∈ wsX8_covers := fun _ h => List.mem_cons_of_mem _ (List.mem_append_right _ (h))
  have hI : MI A D cy o ad s S th s.heap [] := ⟨hM, va_S.rf⟩
  have hb7 := hN.b7
  have hb15 := hN.b15
  have hb23 := hN.b23
  have hb28 := hN.b28
  have hb42 := hN.b42
  have k_152 := hts (.fieldLink RX8 152 "RelatorsBenchModel" "thrown" "I") (List.mem_cons_of_mem _ (List.mem_append_left _ (List.mem_append_left _ (List.mem_of_getElem? (i := 0) rfl))))
  have hl := lv_entry ([.ref o, .int k, .int s_]) (n := 3) (Nat.le_of_ble_eq_true rfl)
  rw [lg_entry_eq]
  generalize (lg_sl ([.ref o, .int k, .int s_]) ++ List.replicate (3 - (lg_sl ([.ref o, .int k, .int s_])).length) Slot.unset).toArray = ls at hl ⊢
  have hl : lv_has ls 3 [(0, .ref o), (1, .int k), (2, .int s_)] := hl
  have hG : fX8_covers S k s_ = fX8_covers S k s_ := rfl
  refine lv_aload_n hx hb dX8_covers_0 rfl (lv_at hl 0 rfl) ?_
  refine lv_aload_n hx hb dX8_covers_1 rfl (lv_at hl 0 rfl) ?_
  refine lv_iload_n hx hb dX8_covers_2 rfl (lv_at hl 1 rfl) ?_
  refine mr_call (As := [.int k]) (rest := [.ref o]) hC hI (qX8_isSuit l D cy o ad S th k) (cwV 1 hts gX8_covers_X8_isSuit rfl rfl rfl (by decide +kernel) ⟨Nat.le_of_ble_eq_true rfl, Nat.le_of_ble_eq_true rfl⟩) rfl hl.1 rfl (Nat.le_of_ble_eq_true rfl) dX8_covers_3 ⟨Nat.zero_le _, Nat.zero_le _⟩ (fun H locs hI => ?_)
  refine lv_if_eq (tgt := 21) hx hb dX8_covers_6 (by decide) (fun c_1 => ?_) (fun c_1 => ?_)
  · have hG := hG.trans (if_pos c_1)
    refine lv_iconst (v := 1) hx hb dX8_covers_21 (by decide) ?_
    refine mr_pt hC hin hL hI k_152 dX8_covers_22 (fun H locs hI => ?_)
    refine lv_aload_n hx hb dX8_covers_25 rfl (lv_at hl 0 rfl) ?_
    refine mr_gt hC hin hI k_152 dX8_covers_26 ?_
    refine lv_if_le (tgt := 36) hx hb dX8_covers_29 (by decide) (fun c => absurd c (by decide : ¬ (1 : Int32) ≤ 0)) (fun _ => ?_)
    refine lv_iconst (v := 0) hx hb dX8_covers_32 (by decide) ?_
    refine lv_goto (tgt := 42) hx hb dX8_covers_33 (by decide) ?_
    exact W.iret (v := 0) hx hb hr (fun t9 ht9 hW9 => ⟨⟨0, (), rfl, (congrArg Prod.fst hG).symm, by show MH D cy o ad _ _ t9.heap; rw [ht9, hG]; exact hI.1⟩, hI.2.F ht9⟩) hI.2.2.2 dX8_covers_42
  · have hG := hG.trans (if_neg c_1)
    refine lv_aload_n hx hb dX8_covers_9 rfl (lv_at hl 0 rfl) ?_
    refine lv_iload_n hx hb dX8_covers_10 rfl (lv_at hl 2 rfl) ?_
    refine mr_call (As := [.int s_]) (rest := [.ref o]) hC hI (qX8_isScheme l D cy o ad S th s_) (cwV 1 hts gX8_covers_X8_isScheme rfl rfl rfl (by decide +kernel) ⟨Nat.le_of_ble_eq_true rfl, Nat.le_of_ble_eq_true rfl⟩) rfl hl.1 rfl (Nat.le_of_ble_eq_true rfl) dX8_covers_11 ⟨Nat.zero_le _, Nat.zero_le _⟩ (fun H locs hI => ?_)
    refine lv_if_eq (tgt := 21) hx hb dX8_covers_14 (by decide) (fun c_2 => ?_) (fun c_2 => ?_)
    · have hG := hG.trans (if_pos c_2)
      refine lv_iconst (v := 1) hx hb dX8_covers_21 (by decide) ?_
      refine mr_pt hC hin hL hI k_152 dX8_covers_22 (fun H locs hI => ?_)
      refine lv_aload_n hx hb dX8_covers_25 rfl (lv_at hl 0 rfl) ?_
      refine mr_gt hC hin hI k_152 dX8_covers_26 ?_
      refine lv_if_le (tgt := 36) hx hb dX8_covers_29 (by decide) (fun c => absurd c (by decide : ¬ (1 : Int32) ≤ 0)) (fun _ => ?_)
      refine lv_iconst (v := 0) hx hb dX8_covers_32 (by decide) ?_
      refine lv_goto (tgt := 42) hx hb dX8_covers_33 (by decide) ?_
      exact W.iret (v := 0) hx hb hr (fun t9 ht9 hW9 => ⟨⟨0, (), rfl, (congrArg Prod.fst hG).symm, by show MH D cy o ad _ _ t9.heap; rw [ht9, hG]; exact hI.1⟩, hI.2.F ht9⟩) hI.2.2.2 dX8_covers_42
    · have hG := hG.trans (if_neg c_2)
      refine lv_iconst (v := 0) hx hb dX8_covers_17 (by decide) ?_
      refine lv_goto (tgt := 22) hx hb dX8_covers_18 (by decide) ?_
      refine mr_pt hC hin hL hI k_152 dX8_covers_22 (fun H locs hI => ?_)
      refine lv_aload_n hx hb dX8_covers_25 rfl (lv_at hl 0 rfl) ?_
      refine mr_gt hC hin hI k_152 dX8_covers_26 ?_
      refine lv_if_le (tgt := 36) hx hb dX8_covers_29 (by decide) (fun _ => ?_) (fun c => absurd (by decide : (0 : Int32) ≤ 0) c)
      refine lv_aload_n hx hb dX8_covers_36 rfl (lv_at hl 0 rfl) ?_
      refine lv_iload_n hx hb dX8_covers_37 rfl (lv_at hl 1 rfl) ?_
      refine lv_iload_n hx hb dX8_covers_38 rfl (lv_at hl 2 rfl) ?_
      refine mr_call (As := [.int k, .int s_]) (rest := []) hC hI (qX8_dayOf l D cy o ad S 0 hN (ix k) (vp_ixl (isSuit_in hN (by assumption))) (vp_ixe (isSuit_in hN (by assumption))) (ix s_) (vp_ixl (isScheme_in hN (by assumption))) (vp_ixe (isScheme_in hN (by assumption)))) (cwV 2 hts gX8_covers_X8_dayOf rfl rfl rfl (by decide +kernel) ⟨Nat.le_of_ble_eq_true rfl, Nat.le_of_ble_eq_true rfl⟩) rfl hl.1 rfl (Nat.le_of_ble_eq_true rfl) dX8_covers_39 ⟨Nat.zero_le _, Nat.zero_le _⟩ (fun H locs hI => ?_)
      exact W.iret (v := (fX8_dayOf S (ix k) (ix s_))) hx hb hr (fun t9 ht9 hW9 => ⟨⟨(fX8_dayOf S (ix k) (ix s_)), (), rfl, (congrArg Prod.fst hG).symm, by show MH D cy o ad _ _ t9.heap; rw [ht9, hG]; exact hI.1⟩, hI.2.F ht9⟩) hI.2.2.2 dX8_covers_42
set_option maxHeartbeats 4000000 in
set_option maxRecDepth 100000 in
theorem qX8_bars (l : Launch) (A : Nat → Prop) (D : va_G) (cy : Nat → ClassId) (o : Nat) (ad : Nat → Nat) (hL : ML A o ad) (S : St) (th : Int32) (hN : MInv S) (k : Int32) (s_ : Int32) : MMut l A D cy o ad S th yX8_bars wsX8_bars ({ frames := 5, cells := 0, slots := 0, locals := 116 } : Room) [.int k, .int s_] (fX8_bars S k s_).1 (fX8_bars S k s_).2.2 (fX8_bars S k s_).2.1 := by
  refine Met.ofW (cc := cX8_bars) (maxL := 3) (ret := (some .int)) (by decide) rfl ?_
  intro p e s m args below meth c s₁ B hml hv
  obtain ⟨rfl, hM, hK⟩ := hv
  have hx := B.exec
  have hb := B.bytes
  have hr := B.returns
  have hts := atoms_spec (ws := wsX8_bars) B.pre
  have hown : s.vm.findClass RX8 = some m.cls := findClass_of_methodNamed B.named
  have hlocks := B.notSynchronized
  have hC : MC p s m _ c cX8_bars 3 D cy wsX8_bars := ⟨⟨hx, hb, hml, hown, hts⟩, hK⟩
  have hin : ∀ w ∈ wsX80, w ∈ wsX8_bars := fun _ h => List.mem_cons_of_mem _ (List.mem_append_right _ (h))
  have hI : MI A D cy o ad s S th s.heap [] := ⟨hM, va_S.rf⟩
  have hb7 := hN.b7
  have hb15 := hN.b15
  have hb23 := hN.b23
  have hb28 := hN.b28
  have hb42 := hN.b42
  have k_152 := hts (.fieldLink RX8 152 "RelatorsBenchModel" "thrown" "I") (List.mem_cons_of_mem _ (List.mem_append_left _ (List.mem_append_left _ (List.mem_of_getElem? (i := 0) rfl))))
  have hl := lv_entry ([.ref o, .int k, .int s_]) (n := 3) (Nat.le_of_ble_eq_true rfl)
  rw [lg_entry_eq]
  generalize (lg_sl ([.ref o, .int k, .int s_]) ++ List.replicate (3 - (lg_sl ([.ref o, .int k, .int s_])).length) Slot.unset).toArray = ls at hl ⊢
  have hl : lv_has ls 3 [(0, .ref o), (1, .int k), (2, .int s_)] := hl
  have hG : fX8_bars S k s_ = fX8_bars S k s_ := rfl
  refine lv_aload_n hx hb dX8_bars_0 rfl (lv_at hl 0 rfl) ?_
  refine lv_aload_n hx hb dX8_bars_1 rfl (lv_at hl 0 rfl) ?_
  refine lv_iload_n hx hb dX8_bars_2 rfl (lv_at hl 1 rfl) ?_
  refine mr_call (As := [.int k]) (rest := [.ref o]) hC hI (qX8_isSuit l D cy o ad S th k) (cwV 1 hts gX8_bars_X8_isSuit rfl rfl rfl (by decide +kernel) ⟨Nat.le_of_ble_eq_true rfl, Nat.le_of_ble_eq_true rfl⟩) rfl hl.1 rfl (Nat.le_of_ble_eq_true rfl) dX8_bars_3 ⟨Nat.zero_le _, Nat.zero_le _⟩ (fun H locs hI => ?_)
  refine lv_if_eq (tgt := 21) hx hb dX8_bars_6 (by decide) (fun c_1 => ?_) (fun c_1 => ?_)
  · have hG := hG.trans (if_pos c_1)
    refine lv_iconst (v := 1) hx hb dX8_bars_21 (by decide) ?_
    refine mr_pt hC hin hL hI k_152 dX8_bars_22 (fun H locs hI => ?_)
    refine lv_aload_n hx hb dX8_bars_25 rfl (lv_at hl 0 rfl) ?_
    refine mr_gt hC hin hI k_152 dX8_bars_26 ?_
    refine lv_if_le (tgt := 36) hx hb dX8_bars_29 (by decide) (fun c => absurd c (by decide : ¬ (1 : Int32) ≤ 0)) (fun _ => ?_)
    refine lv_iconst (v := 0) hx hb dX8_bars_32 (by decide) ?_
    refine lv_goto (tgt := 42) hx hb dX8_bars_33 (by decide) ?_
    exact W.iret (v := 0) hx hb hr (fun t9 ht9 hW9 => ⟨⟨0, (), rfl, (congrArg Prod.fst hG).symm, by show MH D cy o ad _ _ t9.heap; rw [ht9, hG]; exact hI.1⟩, hI.2.F ht9⟩) hI.2.2.2 dX8_bars_42
  · have hG := hG.trans (if_neg c_1)
    refine lv_aload_n hx hb dX8_bars_9 rfl (lv_at hl 0 rfl) ?_
    refine lv_iload_n hx hb dX8_bars_10 rfl (lv_at hl 2 rfl) ?_
    refine mr_call (As := [.int s_]) (rest := [.ref o]) hC hI (qX8_isScheme l D cy o ad S th s_) (cwV 1 hts gX8_bars_X8_isScheme rfl rfl rfl (by decide +kernel) ⟨Nat.le_of_ble_eq_true rfl, Nat.le_of_ble_eq_true rfl⟩) rfl hl.1 rfl (Nat.le_of_ble_eq_true rfl) dX8_bars_11 ⟨Nat.zero_le _, Nat.zero_le _⟩ (fun H locs hI => ?_)
    refine lv_if_eq (tgt := 21) hx hb dX8_bars_14 (by decide) (fun c_2 => ?_) (fun c_2 => ?_)
    · have hG := hG.trans (if_pos c_2)
      refine lv_iconst (v := 1) hx hb dX8_bars_21 (by decide) ?_
      refine mr_pt hC hin hL hI k_152 dX8_bars_22 (fun H locs hI => ?_)
      refine lv_aload_n hx hb dX8_bars_25 rfl (lv_at hl 0 rfl) ?_
      refine mr_gt hC hin hI k_152 dX8_bars_26 ?_
      refine lv_if_le (tgt := 36) hx hb dX8_bars_29 (by decide) (fun c => absurd c (by decide : ¬ (1 : Int32) ≤ 0)) (fun _ => ?_)
      refine lv_iconst (v := 0) hx hb dX8_bars_32 (by decide) ?_
      refine lv_goto (tgt := 42) hx hb dX8_bars_33 (by decide) ?_
      exact W.iret (v := 0) hx hb hr (fun t9 ht9 hW9 => ⟨⟨0, (), rfl, (congrArg Prod.fst hG).symm, by show MH D cy o ad _ _ t9.heap; rw [ht9, hG]; exact hI.1⟩, hI.2.F ht9⟩) hI.2.2.2 dX8_bars_42
    · have hG := hG.trans (if_neg c_2)
      refine lv_iconst (v := 0) hx hb dX8_bars_17 (by decide) ?_
      refine lv_goto (tgt := 22) hx hb dX8_bars_18 (by decide) ?_
      refine mr_pt hC hin hL hI k_152 dX8_bars_22 (fun H locs hI => ?_)
      refine lv_aload_n hx hb dX8_bars_25 rfl (lv_at hl 0 rfl) ?_
      refine mr_gt hC hin hI k_152 dX8_bars_26 ?_
      refine lv_if_le (tgt := 36) hx hb dX8_bars_29 (by decide) (fun _ => ?_) (fun c => absurd (by decide : (0 : Int32) ≤ 0) c)
      refine lv_aload_n hx hb dX8_bars_36 rfl (lv_at hl 0 rfl) ?_
      refine lv_iload_n hx hb dX8_bars_37 rfl (lv_at hl 1 rfl) ?_
      refine lv_iload_n hx hb dX8_bars_38 rfl (lv_at hl 2 rfl) ?_
      refine mr_call (As := [.int k, .int s_]) (rest := []) hC hI (qX8_bar l D cy o ad S 0 hN (ix k) (vp_ixl (isSuit_in hN (by assumption))) (vp_ixe (isSuit_in hN (by assumption))) (ix s_) (vp_ixl (isScheme_in hN (by assumption))) (vp_ixe (isScheme_in hN (by assumption)))) (cwV 2 hts gX8_bars_X8_bar rfl rfl rfl (by decide +kernel) ⟨Nat.le_of_ble_eq_true rfl, Nat.le_of_ble_eq_true rfl⟩) rfl hl.1 rfl (Nat.le_of_ble_eq_true rfl) dX8_bars_39 ⟨Nat.zero_le _, Nat.zero_le _⟩ (fun H locs hI => ?_)
      exact W.iret (v := (fX8_bar S (ix k) (ix s_))) hx hb hr (fun t9 ht9 hW9 => ⟨⟨(fX8_bar S (ix k) (ix s_)), (), rfl, (congrArg Prod.fst hG).symm, by show MH D cy o ad _ _ t9.heap; rw [ht9, hG]; exact hI.1⟩, hI.2.F ht9⟩) hI.2.2.2 dX8_bars_42
set_option maxHeartbeats 4000000 in
set_option maxRecDepth 100000 in
theorem qX8_first (l : Launch) (A : Nat → Prop) (D : va_G) (cy : Nat → ClassId) (o : Nat) (ad : Nat → Nat) (hL : ML A o ad) (S : St) (th : Int32) (hN : MInv S) (s_ : Int32) : MMut l A D cy o ad S th yX8_first wsX8_first ({ frames := 4, cells := 0, slots := 0, locals := 91 } : Room) [.int s_] (fX8_first S s_).1 (fX8_first S s_).2.2 (fX8_first S s_).2.1 := by
  refine Met.ofW (cc := cX8_first) (maxL := 2) (ret := (some .int)) (by decide) rfl ?_
  intro p e s m args below meth c s₁ B hml hv
  obtain ⟨rfl, hM, hK⟩ := hv
  have hx := B.exec
  have hb := B.bytes
  have hr := B.returns
  have hts := atoms_spec (ws := wsX8_first) B.pre
  have hown : s.vm.findClass RX8 = some m.cls := findClass_of_methodNamed B.named
  have hlocks := B.notSynchronized
  have hC : MC p s m _ c cX8_first 2 D cy wsX8_first := ⟨⟨hx, hb, hml, hown, hts⟩, hK⟩
  have hin : ∀ w ∈ wsX80, w ∈ wsX8_first := fun _ h => List.mem_cons_of_mem _ (List.mem_append_right _ (h))
  have hI : MI A D cy o ad s S th s.heap [] := ⟨hM, va_S.rf⟩
  have hb7 := hN.b7
  have hb15 := hN.b15
  have hb23 := hN.b23
  have hb28 := hN.b28
  have hb42 := hN.b42
  have k_152 := hts (.fieldLink RX8 152 "RelatorsBenchModel" "thrown" "I") (List.mem_cons_of_mem _ (List.mem_append_left _ (List.mem_append_left _ (List.mem_of_getElem? (i := 0) rfl))))
  have hl := lv_entry ([.ref o, .int s_]) (n := 2) (Nat.le_of_ble_eq_true rfl)
  rw [lg_entry_eq]
  generalize (lg_sl ([.ref o, .int s_]) ++ List.replicate (2 - (lg_sl ([.ref o, .int s_])).length) Slot.unset).toArray = ls at hl ⊢
  have hl : lv_has ls 2 [(0, .ref o), (1, .int s_)] := hl
  have hG : fX8_first S s_ = fX8_first S s_ := rfl
  refine lv_aload_n hx hb dX8_first_0 rfl (lv_at hl 0 rfl) ?_
  refine lv_aload_n hx hb dX8_first_1 rfl (lv_at hl 0 rfl) ?_
  refine lv_iload_n hx hb dX8_first_2 rfl (lv_at hl 1 rfl) ?_
  refine mr_call (As := [.int s_]) (rest := [.ref o]) hC hI (qX8_isScheme l D cy o ad S th s_) (cwV 1 hts gX8_first_X8_isScheme rfl rfl rfl (by decide +kernel) ⟨Nat.le_of_ble_eq_true rfl, Nat.le_of_ble_eq_true rfl⟩) rfl hl.1 rfl (Nat.le_of_ble_eq_true rfl) dX8_first_3 ⟨Nat.zero_le _, Nat.zero_le _⟩ (fun H locs hI => ?_)
  refine lv_if_eq (tgt := 13) hx hb dX8_first_6 (by decide) (fun c_1 => ?_) (fun c_1 => ?_)
  · have hG := hG.trans (if_pos c_1)
    refine lv_iconst (v := 1) hx hb dX8_first_13 (by decide) ?_
    refine mr_pt hC hin hL hI k_152 dX8_first_14 (fun H locs hI => ?_)
    refine lv_aload_n hx hb dX8_first_17 rfl (lv_at hl 0 rfl) ?_
    refine mr_gt hC hin hI k_152 dX8_first_18 ?_
    refine lv_if_le (tgt := 28) hx hb dX8_first_21 (by decide) (fun c => absurd c (by decide : ¬ (1 : Int32) ≤ 0)) (fun _ => ?_)
    refine lv_iconst (v := 0) hx hb dX8_first_24 (by decide) ?_
    refine lv_goto (tgt := 33) hx hb dX8_first_25 (by decide) ?_
    exact W.iret (v := 0) hx hb hr (fun t9 ht9 hW9 => ⟨⟨0, (), rfl, (congrArg Prod.fst hG).symm, by show MH D cy o ad _ _ t9.heap; rw [ht9, hG]; exact hI.1⟩, hI.2.F ht9⟩) hI.2.2.2 dX8_first_33
  · have hG := hG.trans (if_neg c_1)
    refine lv_iconst (v := 0) hx hb dX8_first_9 (by decide) ?_
    refine lv_goto (tgt := 14) hx hb dX8_first_10 (by decide) ?_
    refine mr_pt hC hin hL hI k_152 dX8_first_14 (fun H locs hI => ?_)
    refine lv_aload_n hx hb dX8_first_17 rfl (lv_at hl 0 rfl) ?_
    refine mr_gt hC hin hI k_152 dX8_first_18 ?_
    refine lv_if_le (tgt := 28) hx hb dX8_first_21 (by decide) (fun _ => ?_) (fun c => absurd (by decide : (0 : Int32) ≤ 0) c)
    refine lv_aload_n hx hb dX8_first_28 rfl (lv_at hl 0 rfl) ?_
    refine lv_iload_n hx hb dX8_first_29 rfl (lv_at hl 1 rfl) ?_
    refine mr_call (As := [.int s_]) (rest := []) hC hI (qX8_firstOf l D cy o ad S 0 hN (ix s_) (vp_ixl (isScheme_in hN (by assumption))) (vp_ixe (isScheme_in hN (by assumption)))) (cwV 1 hts gX8_first_X8_firstOf rfl rfl rfl (by decide +kernel) ⟨Nat.le_of_ble_eq_true rfl, Nat.le_of_ble_eq_true rfl⟩) rfl hl.1 rfl (Nat.le_of_ble_eq_true rfl) dX8_first_30 ⟨Nat.zero_le _, Nat.zero_le _⟩ (fun H locs hI => ?_)
    exact W.iret (v := (fX8_firstOf S (ix s_))) hx hb hr (fun t9 ht9 hW9 => ⟨⟨(fX8_firstOf S (ix s_)), (), rfl, (congrArg Prod.fst hG).symm, by show MH D cy o ad _ _ t9.heap; rw [ht9, hG]; exact hI.1⟩, hI.2.F ht9⟩) hI.2.2.2 dX8_first_33
set_option maxHeartbeats 4000000 in
set_option maxRecDepth 100000 in
theorem qX8_firstAnew (l : Launch) (A : Nat → Prop) (D : va_G) (cy : Nat → ClassId) (o : Nat) (ad : Nat → Nat) (hL : ML A o ad) (S : St) (th : Int32) (hN : MInv S) (s_ : Int32) : MMut l A D cy o ad S th yX8_firstAnew wsX8_firstAnew ({ frames := 5, cells := 0, slots := 0, locals := 112 } : Room) [.int s_] (fX8_firstAnew S s_).1 (fX8_firstAnew S s_).2.2 (fX8_firstAnew S s_).2.1 := by
  refine Met.ofW (cc := cX8_firstAnew) (maxL := 2) (ret := (some .int)) (by decide) rfl ?_
  intro p e s m args below meth c s₁ B hml hv
  obtain ⟨rfl, hM, hK⟩ := hv
  have hx := B.exec
  have hb := B.bytes
  have hr := B.returns
  have hts := atoms_spec (ws := wsX8_firstAnew) B.pre
  have hown : s.vm.findClass RX8 = some m.cls := findClass_of_methodNamed B.named
  have hlocks := B.notSynchronized
  have hC : MC p s m _ c cX8_firstAnew 2 D cy wsX8_firstAnew := ⟨⟨hx, hb, hml, hown, hts⟩, hK⟩
  have hin : ∀ w ∈ wsX80, w ∈ wsX8_firstAnew := fun _ h => List.mem_cons_of_mem _ (List.mem_append_right _ (h))
  have hI : MI A D cy o ad s S th s.heap [] := ⟨hM, va_S.rf⟩
  have hb7 := hN.b7
  have hb15 := hN.b15
  have hb23 := hN.b23
  have hb28 := hN.b28
  have hb42 := hN.b42
  have hl := lv_entry ([.ref o, .int s_]) (n := 2) (Nat.le_of_ble_eq_true rfl)
  rw [lg_entry_eq]
  generalize (lg_sl ([.ref o, .int s_]) ++ List.replicate (2 - (lg_sl ([.ref o, .int s_])).length) Slot.unset).toArray = ls at hl ⊢
  have hl : lv_has ls 2 [(0, .ref o), (1, .int s_)] := hl
  have hG : fX8_firstAnew S s_ = fX8_firstAnew S s_ := rfl
  refine lv_aload_n hx hb dX8_firstAnew_0 rfl (lv_at hl 0 rfl) ?_
  refine lv_iload_n hx hb dX8_firstAnew_1 rfl (lv_at hl 1 rfl) ?_
  refine mr_callM (As := [.int s_]) (rest := []) hC hI (qX8_first l A D cy o ad hL S th hN s_) (cwV 1 hts gX8_firstAnew_X8_first rfl rfl rfl (by decide +kernel) ⟨Nat.le_of_ble_eq_true rfl, Nat.le_of_ble_eq_true rfl⟩) rfl hl.1 rfl (Nat.le_of_ble_eq_true rfl) dX8_firstAnew_2 ⟨Nat.zero_le _, Nat.zero_le _⟩ (fun H locs hI => ?_)
  exact W.iret (v := ((fX8_first S s_).1)) hx hb hr (fun t9 ht9 hW9 => ⟨⟨(fX8_first S s_).1, (), rfl, (congrArg Prod.fst hG).symm, by show MH D cy o ad _ _ t9.heap; rw [ht9, hG]; exact hI.1⟩, hI.2.F ht9⟩) hI.2.2.2 dX8_firstAnew_5
set_option maxHeartbeats 4000000 in
set_option maxRecDepth 100000 in
theorem qX8_due (l : Launch) (A : Nat → Prop) (D : va_G) (cy : Nat → ClassId) (o : Nat) (ad : Nat → Nat) (hL : ML A o ad) (S : St) (th : Int32) (hN : MInv S) (k : Int32) : MMut l A D cy o ad S th yX8_due wsX8_due ({ frames := 7, cells := 0, slots := 0, locals := 166 } : Room) [.int k] (fX8_due S k).1 (fX8_due S k).2.2 (fX8_due S k).2.1 := by
  refine Met.ofW (cc := cX8_due) (maxL := 2) (ret := (some .int)) (by decide) rfl ?_
  intro p e s m args below meth c s₁ B hml hv
  obtain ⟨rfl, hM, hK⟩ := hv
  have hx := B.exec
  have hb := B.bytes
  have hr := B.returns
  have hts := atoms_spec (ws := wsX8_due) B.pre
  have hown : s.vm.findClass RX8 = some m.cls := findClass_of_methodNamed B.named
  have hlocks := B.notSynchronized
  have hC : MC p s m _ c cX8_due 2 D cy wsX8_due := ⟨⟨hx, hb, hml, hown, hts⟩, hK⟩
  have hin : ∀ w ∈ wsX80, w ∈ wsX8_due := fun _ h => List.mem_cons_of_mem _ (List.mem_append_right _ (h))
  have hI : MI A D cy o ad s S th s.heap [] := ⟨hM, va_S.rf⟩
  have hb7 := hN.b7
  have hb15 := hN.b15
  have hb23 := hN.b23
  have hb28 := hN.b28
  have hb42 := hN.b42
  have k_152 := hts (.fieldLink RX8 152 "RelatorsBenchModel" "thrown" "I") (List.mem_cons_of_mem _ (List.mem_append_left _ (List.mem_append_left _ (List.mem_of_getElem? (i := 0) rfl))))
  have hl := lv_entry ([.ref o, .int k]) (n := 2) (Nat.le_of_ble_eq_true rfl)
  rw [lg_entry_eq]
  generalize (lg_sl ([.ref o, .int k]) ++ List.replicate (2 - (lg_sl ([.ref o, .int k])).length) Slot.unset).toArray = ls at hl ⊢
  have hl : lv_has ls 2 [(0, .ref o), (1, .int k)] := hl
  have hG : fX8_due S k = fX8_due S k := rfl
  refine lv_aload_n hx hb dX8_due_0 rfl (lv_at hl 0 rfl) ?_
  refine lv_aload_n hx hb dX8_due_1 rfl (lv_at hl 0 rfl) ?_
  refine lv_iload_n hx hb dX8_due_2 rfl (lv_at hl 1 rfl) ?_
  refine mr_call (As := [.int k]) (rest := [.ref o]) hC hI (qX8_isSuit l D cy o ad S th k) (cwV 1 hts gX8_due_X8_isSuit rfl rfl rfl (by decide +kernel) ⟨Nat.le_of_ble_eq_true rfl, Nat.le_of_ble_eq_true rfl⟩) rfl hl.1 rfl (Nat.le_of_ble_eq_true rfl) dX8_due_3 ⟨Nat.zero_le _, Nat.zero_le _⟩ (fun H locs hI => ?_)
  refine lv_if_eq (tgt := 13) hx hb dX8_due_6 (by decide) (fun c_1 => ?_) (fun c_1 => ?_)
  · have hG := hG.trans (if_pos c_1)
    refine lv_iconst (v := 1) hx hb dX8_due_13 (by decide) ?_
    refine mr_pt hC hin hL hI k_152 dX8_due_14 (fun H locs hI => ?_)
    refine lv_aload_n hx hb dX8_due_17 rfl (lv_at hl 0 rfl) ?_
    refine mr_gt hC hin hI k_152 dX8_due_18 ?_
    refine lv_if_le (tgt := 28) hx hb dX8_due_21 (by decide) (fun c => absurd c (by decide : ¬ (1 : Int32) ≤ 0)) (fun _ => ?_)
    refine lv_iconst (v := 0) hx hb dX8_due_24 (by decide) ?_
    refine lv_goto (tgt := 33) hx hb dX8_due_25 (by decide) ?_
    exact W.iret (v := 0) hx hb hr (fun t9 ht9 hW9 => ⟨⟨0, (), rfl, (congrArg Prod.fst hG).symm, by show MH D cy o ad _ _ t9.heap; rw [ht9, hG]; exact hI.1⟩, hI.2.F ht9⟩) hI.2.2.2 dX8_due_33
  · have hG := hG.trans (if_neg c_1)
    refine lv_iconst (v := 0) hx hb dX8_due_9 (by decide) ?_
    refine lv_goto (tgt := 14) hx hb dX8_due_10 (by decide) ?_
    refine mr_pt hC hin hL hI k_152 dX8_due_14 (fun H locs hI => ?_)
    refine lv_aload_n hx hb dX8_due_17 rfl (lv_at hl 0 rfl) ?_
    refine mr_gt hC hin hI k_152 dX8_due_18 ?_
    refine lv_if_le (tgt := 28) hx hb dX8_due_21 (by decide) (fun _ => ?_) (fun c => absurd (by decide : (0 : Int32) ≤ 0) c)
    refine lv_aload_n hx hb dX8_due_28 rfl (lv_at hl 0 rfl) ?_
    refine lv_iload_n hx hb dX8_due_29 rfl (lv_at hl 1 rfl) ?_
    refine mr_call (As := [.int k]) (rest := []) hC hI (qX8_dues l D cy o ad S 0 hN (ix k) (vp_ixl (isSuit_in hN (by assumption))) (vp_ixe (isSuit_in hN (by assumption)))) (cwV 1 hts gX8_due_X8_dues rfl rfl rfl (by decide +kernel) ⟨Nat.le_of_ble_eq_true rfl, Nat.le_of_ble_eq_true rfl⟩) rfl hl.1 rfl (Nat.le_of_ble_eq_true rfl) dX8_due_30 ⟨Nat.zero_le _, Nat.zero_le _⟩ (fun H locs hI => ?_)
    exact W.iret (v := (fX8_dues S (ix k))) hx hb hr (fun t9 ht9 hW9 => ⟨⟨(fX8_dues S (ix k)), (), rfl, (congrArg Prod.fst hG).symm, by show MH D cy o ad _ _ t9.heap; rw [ht9, hG]; exact hI.1⟩, hI.2.F ht9⟩) hI.2.2.2 dX8_due_33
set_option maxHeartbeats 4000000 in
set_option maxRecDepth 100000 in
theorem qX8_sees (l : Launch) (A : Nat → Prop) (D : va_G) (cy : Nat → ClassId) (o : Nat) (ad : Nat → Nat) (hL : ML A o ad) (S : St) (th : Int32) (hN : MInv S) (t : Int32) (k : Int32) : MMut l A D cy o ad S th yX8_sees wsX8_sees ({ frames := 2, cells := 0, slots := 0, locals := 43 } : Room) [.int t, .int k] (fX8_sees S t k).1 (fX8_sees S t k).2.2 (fX8_sees S t k).2.1 := by
  refine Met.ofW (cc := cX8_sees) (maxL := 3) (ret := (some .boolean)) (by decide) rfl ?_
  intro p e s m args below meth c s₁ B hml hv
  obtain ⟨rfl, hM, hK⟩ := hv
  have hx := B.exec
  have hb := B.bytes
  have hr := B.returns
  have hts := atoms_spec (ws := wsX8_sees) B.pre
  have hown : s.vm.findClass RX8 = some m.cls := findClass_of_methodNamed B.named
  have hlocks := B.notSynchronized
  have hC : MC p s m _ c cX8_sees 3 D cy wsX8_sees := ⟨⟨hx, hb, hml, hown, hts⟩, hK⟩
  have hin : ∀ w ∈ wsX80, w ∈ wsX8_sees := fun _ h => List.mem_cons_of_mem _ (List.mem_append_right _ (h))
  have hI : MI A D cy o ad s S th s.heap [] := ⟨hM, va_S.rf⟩
  have hb7 := hN.b7
  have hb15 := hN.b15
  have hb23 := hN.b23
  have hb28 := hN.b28
  have hb42 := hN.b42
  have k_152 := hts (.fieldLink RX8 152 "RelatorsBenchModel" "thrown" "I") (List.mem_cons_of_mem _ (List.mem_append_left _ (List.mem_of_getElem? (i := 0) rfl)))
  have k_77 := hts (.fieldLink RX8 77 "RelatorsBenchModel" "teller" "[I") (List.mem_cons_of_mem _ (List.mem_append_left _ (List.mem_of_getElem? (i := 1) rfl)))
  have hl := lv_entry ([.ref o, .int t, .int k]) (n := 3) (Nat.le_of_ble_eq_true rfl)
  rw [lg_entry_eq]
  generalize (lg_sl ([.ref o, .int t, .int k]) ++ List.replicate (3 - (lg_sl ([.ref o, .int t, .int k])).length) Slot.unset).toArray = ls at hl ⊢
  have hl : lv_has ls 3 [(0, .ref o), (1, .int t), (2, .int k)] := hl
  have hG : fX8_sees S t k = fX8_sees S t k := rfl
  refine lv_aload_n hx hb dX8_sees_0 rfl (lv_at hl 0 rfl) ?_
  refine lv_iload_n hx hb dX8_sees_1 rfl (lv_at hl 1 rfl) ?_
  refine mr_callS (As := [.int t]) (rest := [.ref o]) hC hI (qX8_isTeller l t) (va_cwS 1 hts gX8_sees_X8_isTeller rfl rfl rfl (by decide +kernel) ⟨Nat.le_of_ble_eq_true rfl, Nat.le_of_ble_eq_true rfl⟩) rfl hl.1 rfl (Nat.le_of_ble_eq_true rfl) dX8_sees_2 ⟨Nat.zero_le _, Nat.zero_le _⟩ (fun H locs hI => ?_)
  refine lv_if_eq (tgt := 20) hx hb dX8_sees_5 (by decide) (fun c_1 => ?_) (fun c_1 => ?_)
  · have hG := hG.trans (if_pos c_1)
    refine lv_iconst (v := 1) hx hb dX8_sees_20 (by decide) ?_
    refine mr_pt hC hin hL hI k_152 dX8_sees_21 (fun H locs hI => ?_)
    refine lv_aload_n hx hb dX8_sees_24 rfl (lv_at hl 0 rfl) ?_
    refine mr_gt hC hin hI k_152 dX8_sees_25 ?_
    refine lv_if_ne (tgt := 53) hx hb dX8_sees_28 (by decide) (fun _ => ?_) (fun c => absurd c (by decide : ¬ (1 : Int32) = 0))
    refine lv_iconst (v := 0) hx hb dX8_sees_53 (by decide) ?_
    exact W.zret (v := 0) (ty := .boolean) hx hb hr rfl (fun t9 ht9 hW9 => ⟨⟨0, (), rfl, (congrArg Prod.fst hG).symm, by show MH D cy o ad _ _ t9.heap; rw [ht9, hG]; exact hI.1⟩, hI.2.F ht9⟩) hI.2.2.2 dX8_sees_54
  · have hG := hG.trans (if_neg c_1)
    refine lv_aload_n hx hb dX8_sees_8 rfl (lv_at hl 0 rfl) ?_
    refine lv_iload_n hx hb dX8_sees_9 rfl (lv_at hl 2 rfl) ?_
    refine mr_call (As := [.int k]) (rest := [.ref o]) hC hI (qX8_isSuit l D cy o ad S th k) (cwV 1 hts gX8_sees_X8_isSuit rfl rfl rfl (by decide +kernel) ⟨Nat.le_of_ble_eq_true rfl, Nat.le_of_ble_eq_true rfl⟩) rfl hl.1 rfl (Nat.le_of_ble_eq_true rfl) dX8_sees_10 ⟨Nat.zero_le _, Nat.zero_le _⟩ (fun H locs hI => ?_)
    refine lv_if_eq (tgt := 20) hx hb dX8_sees_13 (by decide) (fun c_2 => ?_) (fun c_2 => ?_)
    · have hG := hG.trans (if_pos c_2)
      refine lv_iconst (v := 1) hx hb dX8_sees_20 (by decide) ?_
      refine mr_pt hC hin hL hI k_152 dX8_sees_21 (fun H locs hI => ?_)
      refine lv_aload_n hx hb dX8_sees_24 rfl (lv_at hl 0 rfl) ?_
      refine mr_gt hC hin hI k_152 dX8_sees_25 ?_
      refine lv_if_ne (tgt := 53) hx hb dX8_sees_28 (by decide) (fun _ => ?_) (fun c => absurd c (by decide : ¬ (1 : Int32) = 0))
      refine lv_iconst (v := 0) hx hb dX8_sees_53 (by decide) ?_
      exact W.zret (v := 0) (ty := .boolean) hx hb hr rfl (fun t9 ht9 hW9 => ⟨⟨0, (), rfl, (congrArg Prod.fst hG).symm, by show MH D cy o ad _ _ t9.heap; rw [ht9, hG]; exact hI.1⟩, hI.2.F ht9⟩) hI.2.2.2 dX8_sees_54
    · have hG := hG.trans (if_neg c_2)
      refine lv_iconst (v := 0) hx hb dX8_sees_16 (by decide) ?_
      refine lv_goto (tgt := 21) hx hb dX8_sees_17 (by decide) ?_
      refine mr_pt hC hin hL hI k_152 dX8_sees_21 (fun H locs hI => ?_)
      refine lv_aload_n hx hb dX8_sees_24 rfl (lv_at hl 0 rfl) ?_
      refine mr_gt hC hin hI k_152 dX8_sees_25 ?_
      refine lv_if_ne (tgt := 53) hx hb dX8_sees_28 (by decide) (fun c => absurd (by decide : (0 : Int32) = 0) c) (fun _ => ?_)
      refine lv_aload_n hx hb dX8_sees_31 rfl (lv_at hl 0 rfl) ?_
      refine mr_ga hC hin hI 29 (by decide) k_77 dX8_sees_32 ?_
      refine lv_iload_n hx hb dX8_sees_35 rfl (lv_at hl 2 rfl) ?_
      refine mr_ld hC hI 29 (by decide) (by decide) (isSuit_in hN (by assumption)) (v := (S 29 (ix k))) rfl dX8_sees_36 ?_
      refine lv_iload_n hx hb dX8_sees_37 rfl (lv_at hl 1 rfl) ?_
      refine lv_icmp_eq (tgt := 49) hx hb dX8_sees_38 (by decide) (fun c_3 => ?_) (fun c_3 => ?_)
      · have hG := hG.trans (if_pos c_3)
        refine lv_iconst (v := 1) hx hb dX8_sees_49 (by decide) ?_
        refine lv_goto (tgt := 54) hx hb dX8_sees_50 (by decide) ?_
        exact W.zret (v := 1) (ty := .boolean) hx hb hr rfl (fun t9 ht9 hW9 => ⟨⟨1, (), rfl, (congrArg Prod.fst hG).symm, by show MH D cy o ad _ _ t9.heap; rw [ht9, hG]; exact hI.1⟩, hI.2.F ht9⟩) hI.2.2.2 dX8_sees_54
      · have hG := hG.trans (if_neg c_3)
        refine lv_aload_n hx hb dX8_sees_41 rfl (lv_at hl 0 rfl) ?_
        refine lv_iload_n hx hb dX8_sees_42 rfl (lv_at hl 2 rfl) ?_
        refine mr_call (As := [.int k]) (rest := []) hC hI (qX8_isSealed l D cy o ad S 0 (ix k) (vp_ixl (isSuit_in hN (by assumption))) (vp_ixe (isSuit_in hN (by assumption)))) (cwV 1 hts gX8_sees_X8_isSealed rfl rfl rfl (by decide +kernel) ⟨Nat.le_of_ble_eq_true rfl, Nat.le_of_ble_eq_true rfl⟩) rfl hl.1 rfl (Nat.le_of_ble_eq_true rfl) dX8_sees_43 ⟨Nat.zero_le _, Nat.zero_le _⟩ (fun H locs hI => ?_)
        refine lv_if_ne (tgt := 53) hx hb dX8_sees_46 (by decide) (fun c_4 => ?_) (fun c_4 => ?_)
        · have hG := hG.trans (if_neg c_4)
          refine lv_iconst (v := 0) hx hb dX8_sees_53 (by decide) ?_
          exact W.zret (v := 0) (ty := .boolean) hx hb hr rfl (fun t9 ht9 hW9 => ⟨⟨0, (), rfl, (congrArg Prod.fst hG).symm, by show MH D cy o ad _ _ t9.heap; rw [ht9, hG]; exact hI.1⟩, hI.2.F ht9⟩) hI.2.2.2 dX8_sees_54
        · have hG := hG.trans (if_pos c_4)
          refine lv_iconst (v := 1) hx hb dX8_sees_49 (by decide) ?_
          refine lv_goto (tgt := 54) hx hb dX8_sees_50 (by decide) ?_
          exact W.zret (v := 1) (ty := .boolean) hx hb hr rfl (fun t9 ht9 hW9 => ⟨⟨1, (), rfl, (congrArg Prod.fst hG).symm, by show MH D cy o ad _ _ t9.heap; rw [ht9, hG]; exact hI.1⟩, hI.2.F ht9⟩) hI.2.2.2 dX8_sees_54
set_option maxHeartbeats 4000000 in
set_option maxRecDepth 100000 in
theorem qX8_ofSuit (l : Launch) (A : Nat → Prop) (D : va_G) (cy : Nat → ClassId) (o : Nat) (ad : Nat → Nat) (hL : ML A o ad) (S : St) (th : Int32) (hN : MInv S) (k : Int32) (what : Int32) : MMut l A D cy o ad S th yX8_ofSuit wsX8_ofSuit ({ frames := 6, cells := 0, slots := 0, locals := 140 } : Room) [.int k, .int what] (fX8_ofSuit S k what).1 (fX8_ofSuit S k what).2.2 (fX8_ofSuit S k what).2.1 := by
  refine Met.ofW (cc := cX8_ofSuit) (maxL := 3) (ret := (some .int)) (by decide) rfl ?_
  intro p e s m args below meth c s₁ B hml hv
  obtain ⟨rfl, hM, hK⟩ := hv
  have hx := B.exec
  have hb := B.bytes
  have hr := B.returns
  have hts := atoms_spec (ws := wsX8_ofSuit) B.pre
  have hown : s.vm.findClass RX8 = some m.cls := findClass_of_methodNamed B.named
  have hlocks := B.notSynchronized
  have hC : MC p s m _ c cX8_ofSuit 3 D cy wsX8_ofSuit := ⟨⟨hx, hb, hml, hown, hts⟩, hK⟩
  have hin : ∀ w ∈ wsX80, w ∈ wsX8_ofSuit := fun _ h => List.mem_cons_of_mem _ (List.mem_append_right _ (h))
  have hI : MI A D cy o ad s S th s.heap [] := ⟨hM, va_S.rf⟩
  have hb7 := hN.b7
  have hb15 := hN.b15
  have hb23 := hN.b23
  have hb28 := hN.b28
  have hb42 := hN.b42
  have k_152 := hts (.fieldLink RX8 152 "RelatorsBenchModel" "thrown" "I") (List.mem_cons_of_mem _ (List.mem_append_left _ (List.mem_append_left _ (List.mem_of_getElem? (i := 0) rfl))))
  have k_77 := hts (.fieldLink RX8 77 "RelatorsBenchModel" "teller" "[I") (List.mem_cons_of_mem _ (List.mem_append_left _ (List.mem_append_left _ (List.mem_of_getElem? (i := 1) rfl))))
  have k_80 := hts (.fieldLink RX8 80 "RelatorsBenchModel" "against" "[I") (List.mem_cons_of_mem _ (List.mem_append_left _ (List.mem_append_left _ (List.mem_of_getElem? (i := 2) rfl))))
  have k_86 := hts (.fieldLink RX8 86 "RelatorsBenchModel" "facts" "[I") (List.mem_cons_of_mem _ (List.mem_append_left _ (List.mem_append_left _ (List.mem_of_getElem? (i := 3) rfl))))
  have k_89 := hts (.fieldLink RX8 89 "RelatorsBenchModel" "filed" "[I") (List.mem_cons_of_mem _ (List.mem_append_left _ (List.mem_append_left _ (List.mem_of_getElem? (i := 4) rfl))))
  have k_92 := hts (.fieldLink RX8 92 "RelatorsBenchModel" "how" "[I") (List.mem_cons_of_mem _ (List.mem_append_left _ (List.mem_append_left _ (List.mem_of_getElem? (i := 5) rfl))))
  have k_98 := hts (.fieldLink RX8 98 "RelatorsBenchModel" "opens" "[I") (List.mem_cons_of_mem _ (List.mem_append_left _ (List.mem_append_left _ (List.mem_of_getElem? (i := 6) rfl))))
  have k_104 := hts (.fieldLink RX8 104 "RelatorsBenchModel" "help" "[I") (List.mem_cons_of_mem _ (List.mem_append_left _ (List.mem_append_left _ (List.mem_of_getElem? (i := 7) rfl))))
  have k_107 := hts (.fieldLink RX8 107 "RelatorsBenchModel" "paid" "[I") (List.mem_cons_of_mem _ (List.mem_append_left _ (List.mem_append_left _ (List.mem_of_getElem? (i := 8) rfl))))
  have k_110 := hts (.fieldLink RX8 110 "RelatorsBenchModel" "share" "[I") (List.mem_cons_of_mem _ (List.mem_append_left _ (List.mem_append_left _ (List.mem_of_getElem? (i := 9) rfl))))
  have hl := lv_entry ([.ref o, .int k, .int what]) (n := 3) (Nat.le_of_ble_eq_true rfl)
  rw [lg_entry_eq]
  generalize (lg_sl ([.ref o, .int k, .int what]) ++ List.replicate (3 - (lg_sl ([.ref o, .int k, .int what])).length) Slot.unset).toArray = ls at hl ⊢
  have hl : lv_has ls 3 [(0, .ref o), (1, .int k), (2, .int what)] := hl
  have hG : fX8_ofSuit S k what = fX8_ofSuit S k what := rfl
  refine lv_aload_n hx hb dX8_ofSuit_0 rfl (lv_at hl 0 rfl) ?_
  refine lv_aload_n hx hb dX8_ofSuit_1 rfl (lv_at hl 0 rfl) ?_
  refine lv_iload_n hx hb dX8_ofSuit_2 rfl (lv_at hl 1 rfl) ?_
  refine mr_call (As := [.int k]) (rest := [.ref o]) hC hI (qX8_isSuit l D cy o ad S th k) (cwV 1 hts gX8_ofSuit_X8_isSuit rfl rfl rfl (by decide +kernel) ⟨Nat.le_of_ble_eq_true rfl, Nat.le_of_ble_eq_true rfl⟩) rfl hl.1 rfl (Nat.le_of_ble_eq_true rfl) dX8_ofSuit_3 ⟨Nat.zero_le _, Nat.zero_le _⟩ (fun H locs hI => ?_)
  refine lv_if_eq (tgt := 23) hx hb dX8_ofSuit_6 (by decide) (fun c_1 => ?_) (fun c_1 => ?_)
  · have hG := hG.trans (if_pos c_1)
    refine lv_iconst (v := 1) hx hb dX8_ofSuit_23 (by decide) ?_
    refine mr_pt hC hin hL hI k_152 dX8_ofSuit_24 (fun H locs hI => ?_)
    refine lv_aload_n hx hb dX8_ofSuit_27 rfl (lv_at hl 0 rfl) ?_
    refine mr_gt hC hin hI k_152 dX8_ofSuit_28 ?_
    refine lv_if_le (tgt := 36) hx hb dX8_ofSuit_31 (by decide) (fun c => absurd c (by decide : ¬ (1 : Int32) ≤ 0)) (fun _ => ?_)
    refine lv_iconst (v := 0) hx hb dX8_ofSuit_34 (by decide) ?_
    exact W.iret (v := 0) hx hb hr (fun t9 ht9 hW9 => ⟨⟨0, (), rfl, (congrArg Prod.fst hG).symm, by show MH D cy o ad _ _ t9.heap; rw [ht9, hG]; exact hI.1⟩, hI.2.F ht9⟩) hI.2.2.2 dX8_ofSuit_35
  · have hG := hG.trans (if_neg c_1)
    refine lv_iload_n hx hb dX8_ofSuit_9 rfl (lv_at hl 2 rfl) ?_
    refine lv_iconst (v := 0) hx hb dX8_ofSuit_10 (by decide) ?_
    refine lv_bipush (v := 9) hx hb dX8_ofSuit_11 (by decide) ?_
    refine mr_callS (As := [.int what, .int 0, .int 9]) (rest := [.ref o]) hC hI (qX8_in l what 0 9) (va_cwS 3 hts gX8_ofSuit_X8_in rfl rfl rfl (by decide +kernel) ⟨Nat.le_of_ble_eq_true rfl, Nat.le_of_ble_eq_true rfl⟩) rfl hl.1 rfl (Nat.le_of_ble_eq_true rfl) dX8_ofSuit_13 ⟨Nat.zero_le _, Nat.zero_le _⟩ (fun H locs hI => ?_)
    refine lv_if_eq (tgt := 23) hx hb dX8_ofSuit_16 (by decide) (fun c_2 => ?_) (fun c_2 => ?_)
    · have hG := hG.trans (if_pos c_2)
      refine lv_iconst (v := 1) hx hb dX8_ofSuit_23 (by decide) ?_
      refine mr_pt hC hin hL hI k_152 dX8_ofSuit_24 (fun H locs hI => ?_)
      refine lv_aload_n hx hb dX8_ofSuit_27 rfl (lv_at hl 0 rfl) ?_
      refine mr_gt hC hin hI k_152 dX8_ofSuit_28 ?_
      refine lv_if_le (tgt := 36) hx hb dX8_ofSuit_31 (by decide) (fun c => absurd c (by decide : ¬ (1 : Int32) ≤ 0)) (fun _ => ?_)
      refine lv_iconst (v := 0) hx hb dX8_ofSuit_34 (by decide) ?_
      exact W.iret (v := 0) hx hb hr (fun t9 ht9 hW9 => ⟨⟨0, (), rfl, (congrArg Prod.fst hG).symm, by show MH D cy o ad _ _ t9.heap; rw [ht9, hG]; exact hI.1⟩, hI.2.F ht9⟩) hI.2.2.2 dX8_ofSuit_35
    · have hG := hG.trans (if_neg c_2)
      refine lv_iconst (v := 0) hx hb dX8_ofSuit_19 (by decide) ?_
      refine lv_goto (tgt := 24) hx hb dX8_ofSuit_20 (by decide) ?_
      refine mr_pt hC hin hL hI k_152 dX8_ofSuit_24 (fun H locs hI => ?_)
      refine lv_aload_n hx hb dX8_ofSuit_27 rfl (lv_at hl 0 rfl) ?_
      refine mr_gt hC hin hI k_152 dX8_ofSuit_28 ?_
      refine lv_if_le (tgt := 36) hx hb dX8_ofSuit_31 (by decide) (fun _ => ?_) (fun c => absurd (by decide : (0 : Int32) ≤ 0) c)
      refine lv_iload_n hx hb dX8_ofSuit_36 rfl (lv_at hl 2 rfl) ?_
      by_cases sw_3_0 : what = 0
      · have hG := hG.trans (if_pos sw_3_0)
        refine lv_tableIn (off := 51) (tgt := 88) hx hb dX8_ofSuit_37 (by rw [sw_3_0]; decide) (by rw [sw_3_0]; decide) (by rw [sw_3_0]; decide) (by decide) ?_
        refine lv_aload_n hx hb dX8_ofSuit_88 rfl (lv_at hl 0 rfl) ?_
        refine mr_ga hC hin hI 29 (by decide) k_77 dX8_ofSuit_89 ?_
        refine lv_iload_n hx hb dX8_ofSuit_92 rfl (lv_at hl 1 rfl) ?_
        refine mr_ld hC hI 29 (by decide) (by decide) (isSuit_in hN (by assumption)) (v := (S 29 (ix k))) rfl dX8_ofSuit_93 ?_
        exact W.iret (v := (S 29 (ix k))) hx hb hr (fun t9 ht9 hW9 => ⟨⟨S 29 (ix k), (), rfl, (congrArg Prod.fst hG).symm, by show MH D cy o ad _ _ t9.heap; rw [ht9, hG]; exact hI.1⟩, hI.2.F ht9⟩) hI.2.2.2 dX8_ofSuit_94
      have hG := hG.trans (if_neg sw_3_0)
      by_cases sw_3_1 : what = 1
      · have hG := hG.trans (if_pos sw_3_1)
        refine lv_tableIn (off := 58) (tgt := 95) hx hb dX8_ofSuit_37 (by rw [sw_3_1]; decide) (by rw [sw_3_1]; decide) (by rw [sw_3_1]; decide) (by decide) ?_
        refine lv_aload_n hx hb dX8_ofSuit_95 rfl (lv_at hl 0 rfl) ?_
        refine mr_ga hC hin hI 30 (by decide) k_80 dX8_ofSuit_96 ?_
        refine lv_iload_n hx hb dX8_ofSuit_99 rfl (lv_at hl 1 rfl) ?_
        refine mr_ld hC hI 30 (by decide) (by decide) (isSuit_in hN (by assumption)) (v := (S 30 (ix k))) rfl dX8_ofSuit_100 ?_
        exact W.iret (v := (S 30 (ix k))) hx hb hr (fun t9 ht9 hW9 => ⟨⟨S 30 (ix k), (), rfl, (congrArg Prod.fst hG).symm, by show MH D cy o ad _ _ t9.heap; rw [ht9, hG]; exact hI.1⟩, hI.2.F ht9⟩) hI.2.2.2 dX8_ofSuit_101
      have hG := hG.trans (if_neg sw_3_1)
      by_cases sw_3_2 : what = 2
      · have hG := hG.trans (if_pos sw_3_2)
        refine lv_tableIn (off := 65) (tgt := 102) hx hb dX8_ofSuit_37 (by rw [sw_3_2]; decide) (by rw [sw_3_2]; decide) (by rw [sw_3_2]; decide) (by decide) ?_
        refine lv_aload_n hx hb dX8_ofSuit_102 rfl (lv_at hl 0 rfl) ?_
        refine mr_ga hC hin hI 32 (by decide) k_86 dX8_ofSuit_103 ?_
        refine lv_iload_n hx hb dX8_ofSuit_106 rfl (lv_at hl 1 rfl) ?_
        refine mr_ld hC hI 32 (by decide) (by decide) (isSuit_in hN (by assumption)) (v := (S 32 (ix k))) rfl dX8_ofSuit_107 ?_
        exact W.iret (v := (S 32 (ix k))) hx hb hr (fun t9 ht9 hW9 => ⟨⟨S 32 (ix k), (), rfl, (congrArg Prod.fst hG).symm, by show MH D cy o ad _ _ t9.heap; rw [ht9, hG]; exact hI.1⟩, hI.2.F ht9⟩) hI.2.2.2 dX8_ofSuit_108
      have hG := hG.trans (if_neg sw_3_2)
      by_cases sw_3_3 : what = 3
      · have hG := hG.trans (if_pos sw_3_3)
        refine lv_tableIn (off := 72) (tgt := 109) hx hb dX8_ofSuit_37 (by rw [sw_3_3]; decide) (by rw [sw_3_3]; decide) (by rw [sw_3_3]; decide) (by decide) ?_
        refine lv_aload_n hx hb dX8_ofSuit_109 rfl (lv_at hl 0 rfl) ?_
        refine mr_ga hC hin hI 33 (by decide) k_89 dX8_ofSuit_110 ?_
        refine lv_iload_n hx hb dX8_ofSuit_113 rfl (lv_at hl 1 rfl) ?_
        refine mr_ld hC hI 33 (by decide) (by decide) (isSuit_in hN (by assumption)) (v := (S 33 (ix k))) rfl dX8_ofSuit_114 ?_
        exact W.iret (v := (S 33 (ix k))) hx hb hr (fun t9 ht9 hW9 => ⟨⟨S 33 (ix k), (), rfl, (congrArg Prod.fst hG).symm, by show MH D cy o ad _ _ t9.heap; rw [ht9, hG]; exact hI.1⟩, hI.2.F ht9⟩) hI.2.2.2 dX8_ofSuit_115
      have hG := hG.trans (if_neg sw_3_3)
      by_cases sw_3_4 : what = 4
      · have hG := hG.trans (if_pos sw_3_4)
        refine lv_tableIn (off := 79) (tgt := 116) hx hb dX8_ofSuit_37 (by rw [sw_3_4]; decide) (by rw [sw_3_4]; decide) (by rw [sw_3_4]; decide) (by decide) ?_
        refine lv_aload_n hx hb dX8_ofSuit_116 rfl (lv_at hl 0 rfl) ?_
        refine mr_ga hC hin hI 34 (by decide) k_92 dX8_ofSuit_117 ?_
        refine lv_iload_n hx hb dX8_ofSuit_120 rfl (lv_at hl 1 rfl) ?_
        refine mr_ld hC hI 34 (by decide) (by decide) (isSuit_in hN (by assumption)) (v := (S 34 (ix k))) rfl dX8_ofSuit_121 ?_
        exact W.iret (v := (S 34 (ix k))) hx hb hr (fun t9 ht9 hW9 => ⟨⟨S 34 (ix k), (), rfl, (congrArg Prod.fst hG).symm, by show MH D cy o ad _ _ t9.heap; rw [ht9, hG]; exact hI.1⟩, hI.2.F ht9⟩) hI.2.2.2 dX8_ofSuit_122
      have hG := hG.trans (if_neg sw_3_4)
      by_cases sw_3_5 : what = 5
      · have hG := hG.trans (if_pos sw_3_5)
        refine lv_tableIn (off := 86) (tgt := 123) hx hb dX8_ofSuit_37 (by rw [sw_3_5]; decide) (by rw [sw_3_5]; decide) (by rw [sw_3_5]; decide) (by decide) ?_
        refine lv_aload_n hx hb dX8_ofSuit_123 rfl (lv_at hl 0 rfl) ?_
        refine mr_ga hC hin hI 36 (by decide) k_98 dX8_ofSuit_124 ?_
        refine lv_iload_n hx hb dX8_ofSuit_127 rfl (lv_at hl 1 rfl) ?_
        refine mr_ld hC hI 36 (by decide) (by decide) (isSuit_in hN (by assumption)) (v := (S 36 (ix k))) rfl dX8_ofSuit_128 ?_
        exact W.iret (v := (S 36 (ix k))) hx hb hr (fun t9 ht9 hW9 => ⟨⟨S 36 (ix k), (), rfl, (congrArg Prod.fst hG).symm, by show MH D cy o ad _ _ t9.heap; rw [ht9, hG]; exact hI.1⟩, hI.2.F ht9⟩) hI.2.2.2 dX8_ofSuit_129
      have hG := hG.trans (if_neg sw_3_5)
      by_cases sw_3_6 : what = 6
      · have hG := hG.trans (if_pos sw_3_6)
        refine lv_tableIn (off := 93) (tgt := 130) hx hb dX8_ofSuit_37 (by rw [sw_3_6]; decide) (by rw [sw_3_6]; decide) (by rw [sw_3_6]; decide) (by decide) ?_
        refine lv_aload_n hx hb dX8_ofSuit_130 rfl (lv_at hl 0 rfl) ?_
        refine mr_ga hC hin hI 38 (by decide) k_104 dX8_ofSuit_131 ?_
        refine lv_iload_n hx hb dX8_ofSuit_134 rfl (lv_at hl 1 rfl) ?_
        refine mr_ld hC hI 38 (by decide) (by decide) (isSuit_in hN (by assumption)) (v := (S 38 (ix k))) rfl dX8_ofSuit_135 ?_
        exact W.iret (v := (S 38 (ix k))) hx hb hr (fun t9 ht9 hW9 => ⟨⟨S 38 (ix k), (), rfl, (congrArg Prod.fst hG).symm, by show MH D cy o ad _ _ t9.heap; rw [ht9, hG]; exact hI.1⟩, hI.2.F ht9⟩) hI.2.2.2 dX8_ofSuit_136
      have hG := hG.trans (if_neg sw_3_6)
      by_cases sw_3_7 : what = 7
      · have hG := hG.trans (if_pos sw_3_7)
        refine lv_tableIn (off := 100) (tgt := 137) hx hb dX8_ofSuit_37 (by rw [sw_3_7]; decide) (by rw [sw_3_7]; decide) (by rw [sw_3_7]; decide) (by decide) ?_
        refine lv_aload_n hx hb dX8_ofSuit_137 rfl (lv_at hl 0 rfl) ?_
        refine mr_ga hC hin hI 39 (by decide) k_107 dX8_ofSuit_138 ?_
        refine lv_iload_n hx hb dX8_ofSuit_141 rfl (lv_at hl 1 rfl) ?_
        refine mr_ld hC hI 39 (by decide) (by decide) (isSuit_in hN (by assumption)) (v := (S 39 (ix k))) rfl dX8_ofSuit_142 ?_
        exact W.iret (v := (S 39 (ix k))) hx hb hr (fun t9 ht9 hW9 => ⟨⟨S 39 (ix k), (), rfl, (congrArg Prod.fst hG).symm, by show MH D cy o ad _ _ t9.heap; rw [ht9, hG]; exact hI.1⟩, hI.2.F ht9⟩) hI.2.2.2 dX8_ofSuit_143
      have hG := hG.trans (if_neg sw_3_7)
      by_cases sw_3_8 : what = 8
      · have hG := hG.trans (if_pos sw_3_8)
        refine lv_tableIn (off := 107) (tgt := 144) hx hb dX8_ofSuit_37 (by rw [sw_3_8]; decide) (by rw [sw_3_8]; decide) (by rw [sw_3_8]; decide) (by decide) ?_
        refine lv_aload_n hx hb dX8_ofSuit_144 rfl (lv_at hl 0 rfl) ?_
        refine mr_ga hC hin hI 40 (by decide) k_110 dX8_ofSuit_145 ?_
        refine lv_iload_n hx hb dX8_ofSuit_148 rfl (lv_at hl 1 rfl) ?_
        refine mr_ld hC hI 40 (by decide) (by decide) (isSuit_in hN (by assumption)) (v := (S 40 (ix k))) rfl dX8_ofSuit_149 ?_
        exact W.iret (v := (S 40 (ix k))) hx hb hr (fun t9 ht9 hW9 => ⟨⟨S 40 (ix k), (), rfl, (congrArg Prod.fst hG).symm, by show MH D cy o ad _ _ t9.heap; rw [ht9, hG]; exact hI.1⟩, hI.2.F ht9⟩) hI.2.2.2 dX8_ofSuit_150
      have hG := hG.trans (if_neg sw_3_8)
      refine lv_tableOut (tgt := 151) hx hb dX8_ofSuit_37 (w_sw 8 (fun j hj => by rcases (show j = 0 ∨ j = 1 ∨ j = 2 ∨ j = 3 ∨ j = 4 ∨ j = 5 ∨ j = 6 ∨ j = 7 ∨ j = 8 by omega) with rfl | rfl | rfl | rfl | rfl | rfl | rfl | rfl | rfl <;> assumption)) (by decide) ?_
      refine lv_aload_n hx hb dX8_ofSuit_151 rfl (lv_at hl 0 rfl) ?_
      refine lv_iload_n hx hb dX8_ofSuit_152 rfl (lv_at hl 1 rfl) ?_
      refine mr_call (As := [.int k]) (rest := []) hC hI (qX8_hundredthsOf l D cy o ad S 0 hN (ix k) (vp_ixl (isSuit_in hN (by assumption))) (vp_ixe (isSuit_in hN (by assumption)))) (cwV 1 hts gX8_ofSuit_X8_hundredthsOf rfl rfl rfl (by decide +kernel) ⟨Nat.le_of_ble_eq_true rfl, Nat.le_of_ble_eq_true rfl⟩) rfl hl.1 rfl (Nat.le_of_ble_eq_true rfl) dX8_ofSuit_153 ⟨Nat.zero_le _, Nat.zero_le _⟩ (fun H locs hI => ?_)
      exact W.iret (v := (fX8_hundredthsOf S (ix k))) hx hb hr (fun t9 ht9 hW9 => ⟨⟨(fX8_hundredthsOf S (ix k)), (), rfl, (congrArg Prod.fst hG).symm, by show MH D cy o ad _ _ t9.heap; rw [ht9, hG]; exact hI.1⟩, hI.2.F ht9⟩) hI.2.2.2 dX8_ofSuit_156
set_option maxHeartbeats 4000000 in
set_option maxRecDepth 100000 in
theorem qX8_ofClaim (l : Launch) (A : Nat → Prop) (D : va_G) (cy : Nat → ClassId) (o : Nat) (ad : Nat → Nat) (hL : ML A o ad) (S : St) (th : Int32) (hN : MInv S) (c_ : Int32) (what : Int32) : MMut l A D cy o ad S th yX8_ofClaim wsX8_ofClaim ({ frames := 1, cells := 0, slots := 0, locals := 22 } : Room) [.int c_, .int what] (fX8_ofClaim S c_ what).1 (fX8_ofClaim S c_ what).2.2 (fX8_ofClaim S c_ what).2.1 := by
  refine Met.ofW (cc := cX8_ofClaim) (maxL := 3) (ret := (some .int)) (by decide) rfl ?_
  intro p e s m args below meth c s₁ B hml hv
  obtain ⟨rfl, hM, hK⟩ := hv
  have hx := B.exec
  have hb := B.bytes
  have hr := B.returns
  have hts := atoms_spec (ws := wsX8_ofClaim) B.pre
  have hown : s.vm.findClass RX8 = some m.cls := findClass_of_methodNamed B.named
  have hlocks := B.notSynchronized
  have hC : MC p s m _ c cX8_ofClaim 3 D cy wsX8_ofClaim := ⟨⟨hx, hb, hml, hown, hts⟩, hK⟩
  have hin : ∀ w ∈ wsX80, w ∈ wsX8_ofClaim := fun _ h => List.mem_cons_of_mem _ (List.mem_append_right _ (h))
  have hI : MI A D cy o ad s S th s.heap [] := ⟨hM, va_S.rf⟩
  have hb7 := hN.b7
  have hb15 := hN.b15
  have hb23 := hN.b23
  have hb28 := hN.b28
  have hb42 := hN.b42
  have k_176 := hts (.fieldLink RX8 176 "RelatorsBenchModel" "claims" "I") (List.mem_cons_of_mem _ (List.mem_append_left _ (List.mem_of_getElem? (i := 0) rfl)))
  have k_152 := hts (.fieldLink RX8 152 "RelatorsBenchModel" "thrown" "I") (List.mem_cons_of_mem _ (List.mem_append_left _ (List.mem_of_getElem? (i := 1) rfl)))
  have k_53 := hts (.fieldLink RX8 53 "RelatorsBenchModel" "paidBy" "[I") (List.mem_cons_of_mem _ (List.mem_append_left _ (List.mem_of_getElem? (i := 5) rfl)))
  have k_50 := hts (.fieldLink RX8 50 "RelatorsBenchModel" "made" "[I") (List.mem_cons_of_mem _ (List.mem_append_left _ (List.mem_of_getElem? (i := 4) rfl)))
  have k_47 := hts (.fieldLink RX8 47 "RelatorsBenchModel" "amount" "[I") (List.mem_cons_of_mem _ (List.mem_append_left _ (List.mem_of_getElem? (i := 3) rfl)))
  have k_44 := hts (.fieldLink RX8 44 "RelatorsBenchModel" "schemeOf" "[I") (List.mem_cons_of_mem _ (List.mem_append_left _ (List.mem_of_getElem? (i := 2) rfl)))
  have hl := lv_entry ([.ref o, .int c_, .int what]) (n := 3) (Nat.le_of_ble_eq_true rfl)
  rw [lg_entry_eq]
  generalize (lg_sl ([.ref o, .int c_, .int what]) ++ List.replicate (3 - (lg_sl ([.ref o, .int c_, .int what])).length) Slot.unset).toArray = ls at hl ⊢
  have hl : lv_has ls 3 [(0, .ref o), (1, .int c_), (2, .int what)] := hl
  have hG : fX8_ofClaim S c_ what = fX8_ofClaim S c_ what := rfl
  refine lv_aload_n hx hb dX8_ofClaim_0 rfl (lv_at hl 0 rfl) ?_
  refine lv_iload_n hx hb dX8_ofClaim_1 rfl (lv_at hl 1 rfl) ?_
  refine lv_iconst (v := 0) hx hb dX8_ofClaim_2 (by decide) ?_
  refine lv_aload_n hx hb dX8_ofClaim_3 rfl (lv_at hl 0 rfl) ?_
  refine mr_gi hC hin hI 15 (by decide) (by decide) (by decide) k_176 (v := (S 15 0)) rfl dX8_ofClaim_4 ?_
  refine lv_iconst (v := 1) hx hb dX8_ofClaim_7 (by decide) ?_
  refine lv_isub hx hb dX8_ofClaim_8 ?_
  refine mr_callS (As := [.int c_, .int 0, .int ((S 15 0) - 1)]) (rest := [.ref o]) hC hI (qX8_in l c_ 0 ((S 15 0) - 1)) (va_cwS 3 hts gX8_ofClaim_X8_in rfl rfl rfl (by decide +kernel) ⟨Nat.le_of_ble_eq_true rfl, Nat.le_of_ble_eq_true rfl⟩) rfl hl.1 rfl (Nat.le_of_ble_eq_true rfl) dX8_ofClaim_9 ⟨Nat.zero_le _, Nat.zero_le _⟩ (fun H locs hI => ?_)
  refine lv_if_eq (tgt := 28) hx hb dX8_ofClaim_12 (by decide) (fun c_1 => ?_) (fun c_1 => ?_)
  · have hG := hG.trans (if_pos c_1)
    refine lv_iconst (v := 1) hx hb dX8_ofClaim_28 (by decide) ?_
    refine mr_pt hC hin hL hI k_152 dX8_ofClaim_29 (fun H locs hI => ?_)
    refine lv_aload_n hx hb dX8_ofClaim_32 rfl (lv_at hl 0 rfl) ?_
    refine mr_gt hC hin hI k_152 dX8_ofClaim_33 ?_
    refine lv_if_le (tgt := 41) hx hb dX8_ofClaim_36 (by decide) (fun c => absurd c (by decide : ¬ (1 : Int32) ≤ 0)) (fun _ => ?_)
    refine lv_iconst (v := 0) hx hb dX8_ofClaim_39 (by decide) ?_
    exact W.iret (v := 0) hx hb hr (fun t9 ht9 hW9 => ⟨⟨0, (), rfl, (congrArg Prod.fst hG).symm, by show MH D cy o ad _ _ t9.heap; rw [ht9, hG]; exact hI.1⟩, hI.2.F ht9⟩) hI.2.2.2 dX8_ofClaim_40
  · have hG := hG.trans (if_neg c_1)
    refine lv_iload_n hx hb dX8_ofClaim_15 rfl (lv_at hl 2 rfl) ?_
    refine lv_iconst (v := 0) hx hb dX8_ofClaim_16 (by decide) ?_
    refine lv_iconst (v := 3) hx hb dX8_ofClaim_17 (by decide) ?_
    refine mr_callS (As := [.int what, .int 0, .int 3]) (rest := [.ref o]) hC hI (qX8_in l what 0 3) (va_cwS 3 hts gX8_ofClaim_X8_in rfl rfl rfl (by decide +kernel) ⟨Nat.le_of_ble_eq_true rfl, Nat.le_of_ble_eq_true rfl⟩) rfl hl.1 rfl (Nat.le_of_ble_eq_true rfl) dX8_ofClaim_18 ⟨Nat.zero_le _, Nat.zero_le _⟩ (fun H locs hI => ?_)
    refine lv_if_eq (tgt := 28) hx hb dX8_ofClaim_21 (by decide) (fun c_2 => ?_) (fun c_2 => ?_)
    · have hG := hG.trans (if_pos c_2)
      refine lv_iconst (v := 1) hx hb dX8_ofClaim_28 (by decide) ?_
      refine mr_pt hC hin hL hI k_152 dX8_ofClaim_29 (fun H locs hI => ?_)
      refine lv_aload_n hx hb dX8_ofClaim_32 rfl (lv_at hl 0 rfl) ?_
      refine mr_gt hC hin hI k_152 dX8_ofClaim_33 ?_
      refine lv_if_le (tgt := 41) hx hb dX8_ofClaim_36 (by decide) (fun c => absurd c (by decide : ¬ (1 : Int32) ≤ 0)) (fun _ => ?_)
      refine lv_iconst (v := 0) hx hb dX8_ofClaim_39 (by decide) ?_
      exact W.iret (v := 0) hx hb hr (fun t9 ht9 hW9 => ⟨⟨0, (), rfl, (congrArg Prod.fst hG).symm, by show MH D cy o ad _ _ t9.heap; rw [ht9, hG]; exact hI.1⟩, hI.2.F ht9⟩) hI.2.2.2 dX8_ofClaim_40
    · have hG := hG.trans (if_neg c_2)
      refine lv_iconst (v := 0) hx hb dX8_ofClaim_24 (by decide) ?_
      refine lv_goto (tgt := 29) hx hb dX8_ofClaim_25 (by decide) ?_
      refine mr_pt hC hin hL hI k_152 dX8_ofClaim_29 (fun H locs hI => ?_)
      refine lv_aload_n hx hb dX8_ofClaim_32 rfl (lv_at hl 0 rfl) ?_
      refine mr_gt hC hin hI k_152 dX8_ofClaim_33 ?_
      refine lv_if_le (tgt := 41) hx hb dX8_ofClaim_36 (by decide) (fun _ => ?_) (fun c => absurd (by decide : (0 : Int32) ≤ 0) c)
      refine lv_iload_n hx hb dX8_ofClaim_41 rfl (lv_at hl 2 rfl) ?_
      refine lv_if_ne (tgt := 54) hx hb dX8_ofClaim_42 (by decide) (fun c_3 => ?_) (fun c_3 => ?_)
      · have hG := hG.trans (if_neg c_3)
        refine lv_iload_n hx hb dX8_ofClaim_54 rfl (lv_at hl 2 rfl) ?_
        refine lv_iconst (v := 1) hx hb dX8_ofClaim_55 (by decide) ?_
        refine lv_icmp_ne (tgt := 68) hx hb dX8_ofClaim_56 (by decide) (fun c_4 => ?_) (fun c_4 => ?_)
        · have hG := hG.trans (if_neg c_4)
          refine lv_iload_n hx hb dX8_ofClaim_68 rfl (lv_at hl 2 rfl) ?_
          refine lv_iconst (v := 2) hx hb dX8_ofClaim_69 (by decide) ?_
          refine lv_icmp_ne (tgt := 82) hx hb dX8_ofClaim_70 (by decide) (fun c_5 => ?_) (fun c_5 => ?_)
          · have hG := hG.trans (if_neg c_5)
            refine lv_aload_n hx hb dX8_ofClaim_82 rfl (lv_at hl 0 rfl) ?_
            refine mr_ga hC hin hI 19 (by decide) k_53 dX8_ofClaim_83 ?_
            refine lv_iload_n hx hb dX8_ofClaim_86 rfl (lv_at hl 1 rfl) ?_
            refine mr_ld hC hI 19 (by decide) (by decide) (isClaim_in hN (by assumption)) (v := (S 19 (ix c_))) rfl dX8_ofClaim_87 ?_
            exact W.iret (v := (S 19 (ix c_))) hx hb hr (fun t9 ht9 hW9 => ⟨⟨S 19 (ix c_), (), rfl, (congrArg Prod.fst hG).symm, by show MH D cy o ad _ _ t9.heap; rw [ht9, hG]; exact hI.1⟩, hI.2.F ht9⟩) hI.2.2.2 dX8_ofClaim_88
          · have hG := hG.trans (if_pos c_5)
            refine lv_aload_n hx hb dX8_ofClaim_73 rfl (lv_at hl 0 rfl) ?_
            refine mr_ga hC hin hI 18 (by decide) k_50 dX8_ofClaim_74 ?_
            refine lv_iload_n hx hb dX8_ofClaim_77 rfl (lv_at hl 1 rfl) ?_
            refine mr_ld hC hI 18 (by decide) (by decide) (isClaim_in hN (by assumption)) (v := (S 18 (ix c_))) rfl dX8_ofClaim_78 ?_
            refine lv_goto (tgt := 88) hx hb dX8_ofClaim_79 (by decide) ?_
            exact W.iret (v := (S 18 (ix c_))) hx hb hr (fun t9 ht9 hW9 => ⟨⟨S 18 (ix c_), (), rfl, (congrArg Prod.fst hG).symm, by show MH D cy o ad _ _ t9.heap; rw [ht9, hG]; exact hI.1⟩, hI.2.F ht9⟩) hI.2.2.2 dX8_ofClaim_88
        · have hG := hG.trans (if_pos c_4)
          refine lv_aload_n hx hb dX8_ofClaim_59 rfl (lv_at hl 0 rfl) ?_
          refine mr_ga hC hin hI 17 (by decide) k_47 dX8_ofClaim_60 ?_
          refine lv_iload_n hx hb dX8_ofClaim_63 rfl (lv_at hl 1 rfl) ?_
          refine mr_ld hC hI 17 (by decide) (by decide) (isClaim_in hN (by assumption)) (v := (S 17 (ix c_))) rfl dX8_ofClaim_64 ?_
          refine lv_goto (tgt := 88) hx hb dX8_ofClaim_65 (by decide) ?_
          exact W.iret (v := (S 17 (ix c_))) hx hb hr (fun t9 ht9 hW9 => ⟨⟨S 17 (ix c_), (), rfl, (congrArg Prod.fst hG).symm, by show MH D cy o ad _ _ t9.heap; rw [ht9, hG]; exact hI.1⟩, hI.2.F ht9⟩) hI.2.2.2 dX8_ofClaim_88
      · have hG := hG.trans (if_pos c_3)
        refine lv_aload_n hx hb dX8_ofClaim_45 rfl (lv_at hl 0 rfl) ?_
        refine mr_ga hC hin hI 16 (by decide) k_44 dX8_ofClaim_46 ?_
        refine lv_iload_n hx hb dX8_ofClaim_49 rfl (lv_at hl 1 rfl) ?_
        refine mr_ld hC hI 16 (by decide) (by decide) (isClaim_in hN (by assumption)) (v := (S 16 (ix c_))) rfl dX8_ofClaim_50 ?_
        refine lv_goto (tgt := 88) hx hb dX8_ofClaim_51 (by decide) ?_
        exact W.iret (v := (S 16 (ix c_))) hx hb hr (fun t9 ht9 hW9 => ⟨⟨S 16 (ix c_), (), rfl, (congrArg Prod.fst hG).symm, by show MH D cy o ad _ _ t9.heap; rw [ht9, hG]; exact hI.1⟩, hI.2.F ht9⟩) hI.2.2.2 dX8_ofClaim_88
set_option maxHeartbeats 4000000 in
set_option maxRecDepth 100000 in
theorem qX8_got (l : Launch) (A : Nat → Prop) (D : va_G) (cy : Nat → ClassId) (o : Nat) (ad : Nat → Nat) (hL : ML A o ad) (S : St) (th : Int32) (hN : MInv S) (t : Int32) (what : Int32) : MMut l A D cy o ad S th yX8_got wsX8_got ({ frames := 2, cells := 0, slots := 0, locals := 42 } : Room) [.int t, .int what] (fX8_got S t what).1 (fX8_got S t what).2.2 (fX8_got S t what).2.1 := by
  refine Met.ofW (cc := cX8_got) (maxL := 3) (ret := (some .int)) (by decide) rfl ?_
  intro p e s m args below meth c s₁ B hml hv
  obtain ⟨rfl, hM, hK⟩ := hv
  have hx := B.exec
  have hb := B.bytes
  have hr := B.returns
  have hts := atoms_spec (ws := wsX8_got) B.pre
  have hown : s.vm.findClass RX8 = some m.cls := findClass_of_methodNamed B.named
  have hlocks := B.notSynchronized
  have hC : MC p s m _ c cX8_got 3 D cy wsX8_got := ⟨⟨hx, hb, hml, hown, hts⟩, hK⟩
  have hin : ∀ w ∈ wsX80, w ∈ wsX8_got := fun _ h => List.mem_cons_of_mem _ (List.mem_append_right _ (h))
  have hI : MI A D cy o ad s S th s.heap [] := ⟨hM, va_S.rf⟩
  have hb7 := hN.b7
  have hb15 := hN.b15
  have hb23 := hN.b23
  have hb28 := hN.b28
  have hb42 := hN.b42
  have k_152 := hts (.fieldLink RX8 152 "RelatorsBenchModel" "thrown" "I") (List.mem_cons_of_mem _ (List.mem_append_left _ (List.mem_of_getElem? (i := 0) rfl)))
  have k_131 := hts (.fieldLink RX8 131 "RelatorsBenchModel" "awards" "[I") (List.mem_cons_of_mem _ (List.mem_append_left _ (List.mem_of_getElem? (i := 3) rfl)))
  have k_128 := hts (.fieldLink RX8 128 "RelatorsBenchModel" "ofOthers" "[I") (List.mem_cons_of_mem _ (List.mem_append_left _ (List.mem_of_getElem? (i := 2) rfl)))
  have k_125 := hts (.fieldLink RX8 125 "RelatorsBenchModel" "own" "[I") (List.mem_cons_of_mem _ (List.mem_append_left _ (List.mem_of_getElem? (i := 1) rfl)))
  have hl := lv_entry ([.ref o, .int t, .int what]) (n := 3) (Nat.le_of_ble_eq_true rfl)
  rw [lg_entry_eq]
  generalize (lg_sl ([.ref o, .int t, .int what]) ++ List.replicate (3 - (lg_sl ([.ref o, .int t, .int what])).length) Slot.unset).toArray = ls at hl ⊢
  have hl : lv_has ls 3 [(0, .ref o), (1, .int t), (2, .int what)] := hl
  have hG : fX8_got S t what = fX8_got S t what := rfl
  refine lv_aload_n hx hb dX8_got_0 rfl (lv_at hl 0 rfl) ?_
  refine lv_iload_n hx hb dX8_got_1 rfl (lv_at hl 1 rfl) ?_
  refine mr_callS (As := [.int t]) (rest := [.ref o]) hC hI (qX8_isTeller l t) (va_cwS 1 hts gX8_got_X8_isTeller rfl rfl rfl (by decide +kernel) ⟨Nat.le_of_ble_eq_true rfl, Nat.le_of_ble_eq_true rfl⟩) rfl hl.1 rfl (Nat.le_of_ble_eq_true rfl) dX8_got_2 ⟨Nat.zero_le _, Nat.zero_le _⟩ (fun H locs hI => ?_)
  refine lv_if_eq (tgt := 21) hx hb dX8_got_5 (by decide) (fun c_1 => ?_) (fun c_1 => ?_)
  · have hG := hG.trans (if_pos c_1)
    refine lv_iconst (v := 1) hx hb dX8_got_21 (by decide) ?_
    refine mr_pt hC hin hL hI k_152 dX8_got_22 (fun H locs hI => ?_)
    refine lv_aload_n hx hb dX8_got_25 rfl (lv_at hl 0 rfl) ?_
    refine mr_gt hC hin hI k_152 dX8_got_26 ?_
    refine lv_if_le (tgt := 36) hx hb dX8_got_29 (by decide) (fun c => absurd c (by decide : ¬ (1 : Int32) ≤ 0)) (fun _ => ?_)
    refine lv_iconst (v := 0) hx hb dX8_got_32 (by decide) ?_
    refine lv_goto (tgt := 69) hx hb dX8_got_33 (by decide) ?_
    exact W.iret (v := 0) hx hb hr (fun t9 ht9 hW9 => ⟨⟨0, (), rfl, (congrArg Prod.fst hG).symm, by show MH D cy o ad _ _ t9.heap; rw [ht9, hG]; exact hI.1⟩, hI.2.F ht9⟩) hI.2.2.2 dX8_got_69
  · have hG := hG.trans (if_neg c_1)
    refine lv_iload_n hx hb dX8_got_8 rfl (lv_at hl 2 rfl) ?_
    refine lv_iconst (v := 0) hx hb dX8_got_9 (by decide) ?_
    refine lv_iconst (v := 2) hx hb dX8_got_10 (by decide) ?_
    refine mr_callS (As := [.int what, .int 0, .int 2]) (rest := [.ref o]) hC hI (qX8_in l what 0 2) (va_cwS 3 hts gX8_got_X8_in rfl rfl rfl (by decide +kernel) ⟨Nat.le_of_ble_eq_true rfl, Nat.le_of_ble_eq_true rfl⟩) rfl hl.1 rfl (Nat.le_of_ble_eq_true rfl) dX8_got_11 ⟨Nat.zero_le _, Nat.zero_le _⟩ (fun H locs hI => ?_)
    refine lv_if_eq (tgt := 21) hx hb dX8_got_14 (by decide) (fun c_2 => ?_) (fun c_2 => ?_)
    · have hG := hG.trans (if_pos c_2)
      refine lv_iconst (v := 1) hx hb dX8_got_21 (by decide) ?_
      refine mr_pt hC hin hL hI k_152 dX8_got_22 (fun H locs hI => ?_)
      refine lv_aload_n hx hb dX8_got_25 rfl (lv_at hl 0 rfl) ?_
      refine mr_gt hC hin hI k_152 dX8_got_26 ?_
      refine lv_if_le (tgt := 36) hx hb dX8_got_29 (by decide) (fun c => absurd c (by decide : ¬ (1 : Int32) ≤ 0)) (fun _ => ?_)
      refine lv_iconst (v := 0) hx hb dX8_got_32 (by decide) ?_
      refine lv_goto (tgt := 69) hx hb dX8_got_33 (by decide) ?_
      exact W.iret (v := 0) hx hb hr (fun t9 ht9 hW9 => ⟨⟨0, (), rfl, (congrArg Prod.fst hG).symm, by show MH D cy o ad _ _ t9.heap; rw [ht9, hG]; exact hI.1⟩, hI.2.F ht9⟩) hI.2.2.2 dX8_got_69
    · have hG := hG.trans (if_neg c_2)
      refine lv_iconst (v := 0) hx hb dX8_got_17 (by decide) ?_
      refine lv_goto (tgt := 22) hx hb dX8_got_18 (by decide) ?_
      refine mr_pt hC hin hL hI k_152 dX8_got_22 (fun H locs hI => ?_)
      refine lv_aload_n hx hb dX8_got_25 rfl (lv_at hl 0 rfl) ?_
      refine mr_gt hC hin hI k_152 dX8_got_26 ?_
      refine lv_if_le (tgt := 36) hx hb dX8_got_29 (by decide) (fun _ => ?_) (fun c => absurd (by decide : (0 : Int32) ≤ 0) c)
      refine lv_iload_n hx hb dX8_got_36 rfl (lv_at hl 2 rfl) ?_
      refine lv_if_ne (tgt := 49) hx hb dX8_got_37 (by decide) (fun c_3 => ?_) (fun c_3 => ?_)
      · have hG := hG.trans (if_neg c_3)
        refine lv_iload_n hx hb dX8_got_49 rfl (lv_at hl 2 rfl) ?_
        refine lv_iconst (v := 1) hx hb dX8_got_50 (by decide) ?_
        refine lv_icmp_ne (tgt := 63) hx hb dX8_got_51 (by decide) (fun c_4 => ?_) (fun c_4 => ?_)
        · have hG := hG.trans (if_neg c_4)
          refine lv_aload_n hx hb dX8_got_63 rfl (lv_at hl 0 rfl) ?_
          refine mr_ga hC hin hI 48 (by decide) k_131 dX8_got_64 ?_
          refine lv_iload_n hx hb dX8_got_67 rfl (lv_at hl 1 rfl) ?_
          refine mr_ld hC hI 48 (by decide) (by decide) (isTeller_in (by assumption)) (v := (S 48 (ix t))) rfl dX8_got_68 ?_
          exact W.iret (v := (S 48 (ix t))) hx hb hr (fun t9 ht9 hW9 => ⟨⟨S 48 (ix t), (), rfl, (congrArg Prod.fst hG).symm, by show MH D cy o ad _ _ t9.heap; rw [ht9, hG]; exact hI.1⟩, hI.2.F ht9⟩) hI.2.2.2 dX8_got_69
        · have hG := hG.trans (if_pos c_4)
          refine lv_aload_n hx hb dX8_got_54 rfl (lv_at hl 0 rfl) ?_
          refine mr_ga hC hin hI 47 (by decide) k_128 dX8_got_55 ?_
          refine lv_iload_n hx hb dX8_got_58 rfl (lv_at hl 1 rfl) ?_
          refine mr_ld hC hI 47 (by decide) (by decide) (isTeller_in (by assumption)) (v := (S 47 (ix t))) rfl dX8_got_59 ?_
          refine lv_goto (tgt := 69) hx hb dX8_got_60 (by decide) ?_
          exact W.iret (v := (S 47 (ix t))) hx hb hr (fun t9 ht9 hW9 => ⟨⟨S 47 (ix t), (), rfl, (congrArg Prod.fst hG).symm, by show MH D cy o ad _ _ t9.heap; rw [ht9, hG]; exact hI.1⟩, hI.2.F ht9⟩) hI.2.2.2 dX8_got_69
      · have hG := hG.trans (if_pos c_3)
        refine lv_aload_n hx hb dX8_got_40 rfl (lv_at hl 0 rfl) ?_
        refine mr_ga hC hin hI 46 (by decide) k_125 dX8_got_41 ?_
        refine lv_iload_n hx hb dX8_got_44 rfl (lv_at hl 1 rfl) ?_
        refine mr_ld hC hI 46 (by decide) (by decide) (isTeller_in (by assumption)) (v := (S 46 (ix t))) rfl dX8_got_45 ?_
        refine lv_goto (tgt := 69) hx hb dX8_got_46 (by decide) ?_
        exact W.iret (v := (S 46 (ix t))) hx hb hr (fun t9 ht9 hW9 => ⟨⟨S 46 (ix t), (), rfl, (congrArg Prod.fst hG).symm, by show MH D cy o ad _ _ t9.heap; rw [ht9, hG]; exact hI.1⟩, hI.2.F ht9⟩) hI.2.2.2 dX8_got_69
set_option maxHeartbeats 4000000 in
set_option maxRecDepth 100000 in
theorem qX8_ofFirm (l : Launch) (A : Nat → Prop) (D : va_G) (cy : Nat → ClassId) (o : Nat) (ad : Nat → Nat) (hL : ML A o ad) (S : St) (th : Int32) (hN : MInv S) (f : Int32) (what : Int32) : MMut l A D cy o ad S th yX8_ofFirm wsX8_ofFirm ({ frames := 2, cells := 0, slots := 0, locals := 42 } : Room) [.int f, .int what] (fX8_ofFirm S f what).1 (fX8_ofFirm S f what).2.2 (fX8_ofFirm S f what).2.1 := by
  refine Met.ofW (cc := cX8_ofFirm) (maxL := 3) (ret := (some .int)) (by decide) rfl ?_
  intro p e s m args below meth c s₁ B hml hv
  obtain ⟨rfl, hM, hK⟩ := hv
  have hx := B.exec
  have hb := B.bytes
  have hr := B.returns
  have hts := atoms_spec (ws := wsX8_ofFirm) B.pre
  have hown : s.vm.findClass RX8 = some m.cls := findClass_of_methodNamed B.named
  have hlocks := B.notSynchronized
  have hC : MC p s m _ c cX8_ofFirm 3 D cy wsX8_ofFirm := ⟨⟨hx, hb, hml, hown, hts⟩, hK⟩
  have hin : ∀ w ∈ wsX80, w ∈ wsX8_ofFirm := fun _ h => List.mem_cons_of_mem _ (List.mem_append_right _ (h))
  have hI : MI A D cy o ad s S th s.heap [] := ⟨hM, va_S.rf⟩
  have hb7 := hN.b7
  have hb15 := hN.b15
  have hb23 := hN.b23
  have hb28 := hN.b28
  have hb42 := hN.b42
  have k_152 := hts (.fieldLink RX8 152 "RelatorsBenchModel" "thrown" "I") (List.mem_cons_of_mem _ (List.mem_append_left _ (List.mem_of_getElem? (i := 0) rfl)))
  have k_19 := hts (.fieldLink RX8 19 "RelatorsBenchModel" "byAwards" "[I") (List.mem_cons_of_mem _ (List.mem_append_left _ (List.mem_of_getElem? (i := 4) rfl)))
  have k_16 := hts (.fieldLink RX8 16 "RelatorsBenchModel" "bySuits" "[I") (List.mem_cons_of_mem _ (List.mem_append_left _ (List.mem_of_getElem? (i := 3) rfl)))
  have k_13 := hts (.fieldLink RX8 13 "RelatorsBenchModel" "given" "[I") (List.mem_cons_of_mem _ (List.mem_append_left _ (List.mem_of_getElem? (i := 2) rfl)))
  have k_7 := hts (.fieldLink RX8 7 "RelatorsBenchModel" "money" "[I") (List.mem_cons_of_mem _ (List.mem_append_left _ (List.mem_of_getElem? (i := 1) rfl)))
  have hl := lv_entry ([.ref o, .int f, .int what]) (n := 3) (Nat.le_of_ble_eq_true rfl)
  rw [lg_entry_eq]
  generalize (lg_sl ([.ref o, .int f, .int what]) ++ List.replicate (3 - (lg_sl ([.ref o, .int f, .int what])).length) Slot.unset).toArray = ls at hl ⊢
  have hl : lv_has ls 3 [(0, .ref o), (1, .int f), (2, .int what)] := hl
  have hG : fX8_ofFirm S f what = fX8_ofFirm S f what := rfl
  refine lv_aload_n hx hb dX8_ofFirm_0 rfl (lv_at hl 0 rfl) ?_
  refine lv_iload_n hx hb dX8_ofFirm_1 rfl (lv_at hl 1 rfl) ?_
  refine mr_callS (As := [.int f]) (rest := [.ref o]) hC hI (qX8_isFirm l f) (va_cwS 1 hts gX8_ofFirm_X8_isFirm rfl rfl rfl (by decide +kernel) ⟨Nat.le_of_ble_eq_true rfl, Nat.le_of_ble_eq_true rfl⟩) rfl hl.1 rfl (Nat.le_of_ble_eq_true rfl) dX8_ofFirm_2 ⟨Nat.zero_le _, Nat.zero_le _⟩ (fun H locs hI => ?_)
  refine lv_if_eq (tgt := 21) hx hb dX8_ofFirm_5 (by decide) (fun c_1 => ?_) (fun c_1 => ?_)
  · have hG := hG.trans (if_pos c_1)
    refine lv_iconst (v := 1) hx hb dX8_ofFirm_21 (by decide) ?_
    refine mr_pt hC hin hL hI k_152 dX8_ofFirm_22 (fun H locs hI => ?_)
    refine lv_aload_n hx hb dX8_ofFirm_25 rfl (lv_at hl 0 rfl) ?_
    refine mr_gt hC hin hI k_152 dX8_ofFirm_26 ?_
    refine lv_if_le (tgt := 36) hx hb dX8_ofFirm_29 (by decide) (fun c => absurd c (by decide : ¬ (1 : Int32) ≤ 0)) (fun _ => ?_)
    refine lv_iconst (v := 0) hx hb dX8_ofFirm_32 (by decide) ?_
    refine lv_goto (tgt := 83) hx hb dX8_ofFirm_33 (by decide) ?_
    exact W.iret (v := 0) hx hb hr (fun t9 ht9 hW9 => ⟨⟨0, (), rfl, (congrArg Prod.fst hG).symm, by show MH D cy o ad _ _ t9.heap; rw [ht9, hG]; exact hI.1⟩, hI.2.F ht9⟩) hI.2.2.2 dX8_ofFirm_83
  · have hG := hG.trans (if_neg c_1)
    refine lv_iload_n hx hb dX8_ofFirm_8 rfl (lv_at hl 2 rfl) ?_
    refine lv_iconst (v := 0) hx hb dX8_ofFirm_9 (by decide) ?_
    refine lv_iconst (v := 3) hx hb dX8_ofFirm_10 (by decide) ?_
    refine mr_callS (As := [.int what, .int 0, .int 3]) (rest := [.ref o]) hC hI (qX8_in l what 0 3) (va_cwS 3 hts gX8_ofFirm_X8_in rfl rfl rfl (by decide +kernel) ⟨Nat.le_of_ble_eq_true rfl, Nat.le_of_ble_eq_true rfl⟩) rfl hl.1 rfl (Nat.le_of_ble_eq_true rfl) dX8_ofFirm_11 ⟨Nat.zero_le _, Nat.zero_le _⟩ (fun H locs hI => ?_)
    refine lv_if_eq (tgt := 21) hx hb dX8_ofFirm_14 (by decide) (fun c_2 => ?_) (fun c_2 => ?_)
    · have hG := hG.trans (if_pos c_2)
      refine lv_iconst (v := 1) hx hb dX8_ofFirm_21 (by decide) ?_
      refine mr_pt hC hin hL hI k_152 dX8_ofFirm_22 (fun H locs hI => ?_)
      refine lv_aload_n hx hb dX8_ofFirm_25 rfl (lv_at hl 0 rfl) ?_
      refine mr_gt hC hin hI k_152 dX8_ofFirm_26 ?_
      refine lv_if_le (tgt := 36) hx hb dX8_ofFirm_29 (by decide) (fun c => absurd c (by decide : ¬ (1 : Int32) ≤ 0)) (fun _ => ?_)
      refine lv_iconst (v := 0) hx hb dX8_ofFirm_32 (by decide) ?_
      refine lv_goto (tgt := 83) hx hb dX8_ofFirm_33 (by decide) ?_
      exact W.iret (v := 0) hx hb hr (fun t9 ht9 hW9 => ⟨⟨0, (), rfl, (congrArg Prod.fst hG).symm, by show MH D cy o ad _ _ t9.heap; rw [ht9, hG]; exact hI.1⟩, hI.2.F ht9⟩) hI.2.2.2 dX8_ofFirm_83
    · have hG := hG.trans (if_neg c_2)
      refine lv_iconst (v := 0) hx hb dX8_ofFirm_17 (by decide) ?_
      refine lv_goto (tgt := 22) hx hb dX8_ofFirm_18 (by decide) ?_
      refine mr_pt hC hin hL hI k_152 dX8_ofFirm_22 (fun H locs hI => ?_)
      refine lv_aload_n hx hb dX8_ofFirm_25 rfl (lv_at hl 0 rfl) ?_
      refine mr_gt hC hin hI k_152 dX8_ofFirm_26 ?_
      refine lv_if_le (tgt := 36) hx hb dX8_ofFirm_29 (by decide) (fun _ => ?_) (fun c => absurd (by decide : (0 : Int32) ≤ 0) c)
      refine lv_iload_n hx hb dX8_ofFirm_36 rfl (lv_at hl 2 rfl) ?_
      refine lv_if_ne (tgt := 49) hx hb dX8_ofFirm_37 (by decide) (fun c_3 => ?_) (fun c_3 => ?_)
      · have hG := hG.trans (if_neg c_3)
        refine lv_iload_n hx hb dX8_ofFirm_49 rfl (lv_at hl 2 rfl) ?_
        refine lv_iconst (v := 1) hx hb dX8_ofFirm_50 (by decide) ?_
        refine lv_icmp_ne (tgt := 63) hx hb dX8_ofFirm_51 (by decide) (fun c_4 => ?_) (fun c_4 => ?_)
        · have hG := hG.trans (if_neg c_4)
          refine lv_iload_n hx hb dX8_ofFirm_63 rfl (lv_at hl 2 rfl) ?_
          refine lv_iconst (v := 2) hx hb dX8_ofFirm_64 (by decide) ?_
          refine lv_icmp_ne (tgt := 77) hx hb dX8_ofFirm_65 (by decide) (fun c_5 => ?_) (fun c_5 => ?_)
          · have hG := hG.trans (if_neg c_5)
            refine lv_aload_n hx hb dX8_ofFirm_77 rfl (lv_at hl 0 rfl) ?_
            refine mr_ga hC hin hI 5 (by decide) k_19 dX8_ofFirm_78 ?_
            refine lv_iload_n hx hb dX8_ofFirm_81 rfl (lv_at hl 1 rfl) ?_
            refine mr_ld hC hI 5 (by decide) (by decide) (isFirm_in (by assumption)) (v := (S 5 (ix f))) rfl dX8_ofFirm_82 ?_
            exact W.iret (v := (S 5 (ix f))) hx hb hr (fun t9 ht9 hW9 => ⟨⟨S 5 (ix f), (), rfl, (congrArg Prod.fst hG).symm, by show MH D cy o ad _ _ t9.heap; rw [ht9, hG]; exact hI.1⟩, hI.2.F ht9⟩) hI.2.2.2 dX8_ofFirm_83
          · have hG := hG.trans (if_pos c_5)
            refine lv_aload_n hx hb dX8_ofFirm_68 rfl (lv_at hl 0 rfl) ?_
            refine mr_ga hC hin hI 4 (by decide) k_16 dX8_ofFirm_69 ?_
            refine lv_iload_n hx hb dX8_ofFirm_72 rfl (lv_at hl 1 rfl) ?_
            refine mr_ld hC hI 4 (by decide) (by decide) (isFirm_in (by assumption)) (v := (S 4 (ix f))) rfl dX8_ofFirm_73 ?_
            refine lv_goto (tgt := 83) hx hb dX8_ofFirm_74 (by decide) ?_
            exact W.iret (v := (S 4 (ix f))) hx hb hr (fun t9 ht9 hW9 => ⟨⟨S 4 (ix f), (), rfl, (congrArg Prod.fst hG).symm, by show MH D cy o ad _ _ t9.heap; rw [ht9, hG]; exact hI.1⟩, hI.2.F ht9⟩) hI.2.2.2 dX8_ofFirm_83
        · have hG := hG.trans (if_pos c_4)
          refine lv_aload_n hx hb dX8_ofFirm_54 rfl (lv_at hl 0 rfl) ?_
          refine mr_ga hC hin hI 3 (by decide) k_13 dX8_ofFirm_55 ?_
          refine lv_iload_n hx hb dX8_ofFirm_58 rfl (lv_at hl 1 rfl) ?_
          refine mr_ld hC hI 3 (by decide) (by decide) (isFirm_in (by assumption)) (v := (S 3 (ix f))) rfl dX8_ofFirm_59 ?_
          refine lv_goto (tgt := 83) hx hb dX8_ofFirm_60 (by decide) ?_
          exact W.iret (v := (S 3 (ix f))) hx hb hr (fun t9 ht9 hW9 => ⟨⟨S 3 (ix f), (), rfl, (congrArg Prod.fst hG).symm, by show MH D cy o ad _ _ t9.heap; rw [ht9, hG]; exact hI.1⟩, hI.2.F ht9⟩) hI.2.2.2 dX8_ofFirm_83
      · have hG := hG.trans (if_pos c_3)
        refine lv_aload_n hx hb dX8_ofFirm_40 rfl (lv_at hl 0 rfl) ?_
        refine mr_ga hC hin hI 2 (by decide) k_7 dX8_ofFirm_41 ?_
        refine lv_iload_n hx hb dX8_ofFirm_44 rfl (lv_at hl 1 rfl) ?_
        refine mr_ld hC hI 2 (by decide) (by decide) (isFirm_in (by assumption)) (v := (S 2 (ix f))) rfl dX8_ofFirm_45 ?_
        refine lv_goto (tgt := 83) hx hb dX8_ofFirm_46 (by decide) ?_
        exact W.iret (v := (S 2 (ix f))) hx hb hr (fun t9 ht9 hW9 => ⟨⟨S 2 (ix f), (), rfl, (congrArg Prod.fst hG).symm, by show MH D cy o ad _ _ t9.heap; rw [ht9, hG]; exact hI.1⟩, hI.2.F ht9⟩) hI.2.2.2 dX8_ofFirm_83
set_option maxHeartbeats 4000000 in
set_option maxRecDepth 100000 in
theorem qX8_all (l : Launch) (A : Nat → Prop) (D : va_G) (cy : Nat → ClassId) (o : Nat) (ad : Nat → Nat) (hL : ML A o ad) (S : St) (th : Int32) (hN : MInv S) (what : Int32) : MMut l A D cy o ad S th yX8_all wsX8_all ({ frames := 1, cells := 0, slots := 0, locals := 23 } : Room) [.int what] (fX8_all S what).1 (fX8_all S what).2.2 (fX8_all S what).2.1 := by
  refine Met.ofW (cc := cX8_all) (maxL := 4) (ret := (some .int)) (by decide) rfl ?_
  intro p e s m args below meth c s₁ B hml hv
  obtain ⟨rfl, hM, hK⟩ := hv
  have hx := B.exec
  have hb := B.bytes
  have hr := B.returns
  have hts := atoms_spec (ws := wsX8_all) B.pre
  have hown : s.vm.findClass RX8 = some m.cls := findClass_of_methodNamed B.named
  have hlocks := B.notSynchronized
  have hC : MC p s m _ c cX8_all 4 D cy wsX8_all := ⟨⟨hx, hb, hml, hown, hts⟩, hK⟩
  have hin : ∀ w ∈ wsX80, w ∈ wsX8_all := fun _ h => List.mem_cons_of_mem _ (List.mem_append_right _ (h))
  have hI : MI A D cy o ad s S th s.heap [] := ⟨hM, va_S.rf⟩
  have hb7 := hN.b7
  have hb15 := hN.b15
  have hb23 := hN.b23
  have hb28 := hN.b28
  have hb42 := hN.b42
  have k_152 := hts (.fieldLink RX8 152 "RelatorsBenchModel" "thrown" "I") (List.mem_cons_of_mem _ (List.mem_append_left _ (List.mem_of_getElem? (i := 0) rfl)))
  have k_163 := hts (.fieldLink RX8 163 "RelatorsBenchModel" "suits" "I") (List.mem_cons_of_mem _ (List.mem_append_left _ (List.mem_of_getElem? (i := 1) rfl)))
  have k_179 := hts (.fieldLink RX8 179 "RelatorsBenchModel" "today" "I") (List.mem_cons_of_mem _ (List.mem_append_left _ (List.mem_of_getElem? (i := 2) rfl)))
  have k_229 := hts (.fieldLink RX8 229 "RelatorsBenchModel" "state" "I") (List.mem_cons_of_mem _ (List.mem_append_left _ (List.mem_of_getElem? (i := 3) rfl)))
  have hl := lv_entry ([.ref o, .int what]) (n := 4) (Nat.le_of_ble_eq_true rfl)
  rw [lg_entry_eq]
  generalize (lg_sl ([.ref o, .int what]) ++ List.replicate (4 - (lg_sl ([.ref o, .int what])).length) Slot.unset).toArray = ls at hl ⊢
  have hl : lv_has ls 4 [(0, .ref o), (1, .int what)] := hl
  have hG : fX8_all S what = fX8_all S what := rfl
  refine lv_aload_n hx hb dX8_all_0 rfl (lv_at hl 0 rfl) ?_
  refine lv_iload_n hx hb dX8_all_1 rfl (lv_at hl 1 rfl) ?_
  refine lv_iconst (v := 0) hx hb dX8_all_2 (by decide) ?_
  refine lv_iconst (v := 3) hx hb dX8_all_3 (by decide) ?_
  refine mr_callS (As := [.int what, .int 0, .int 3]) (rest := [.ref o]) hC hI (qX8_in l what 0 3) (va_cwS 3 hts gX8_all_X8_in rfl rfl rfl (by decide +kernel) ⟨Nat.le_of_ble_eq_true rfl, Nat.le_of_ble_eq_true rfl⟩) rfl hl.1 rfl (Nat.le_of_ble_eq_true rfl) dX8_all_4 ⟨Nat.zero_le _, Nat.zero_le _⟩ (fun H locs hI => ?_)
  refine lv_if_eq (tgt := 14) hx hb dX8_all_7 (by decide) (fun c_1 => ?_) (fun c_1 => ?_)
  · have hG := hG.trans (if_pos c_1)
    refine lv_iconst (v := 1) hx hb dX8_all_14 (by decide) ?_
    refine mr_pt hC hin hL hI k_152 dX8_all_15 (fun H locs hI => ?_)
    refine lv_aload_n hx hb dX8_all_18 rfl (lv_at hl 0 rfl) ?_
    refine mr_gt hC hin hI k_152 dX8_all_19 ?_
    refine lv_if_le (tgt := 27) hx hb dX8_all_22 (by decide) (fun c => absurd c (by decide : ¬ (1 : Int32) ≤ 0)) (fun _ => ?_)
    refine lv_iconst (v := 0) hx hb dX8_all_25 (by decide) ?_
    exact W.iret (v := 0) hx hb hr (fun t9 ht9 hW9 => ⟨⟨0, (), rfl, (congrArg Prod.fst hG).symm, by show MH D cy o ad _ _ t9.heap; rw [ht9, hG]; exact hI.1⟩, hI.2.F ht9⟩) hI.2.2.2 dX8_all_26
  · have hG := hG.trans (if_neg c_1)
    refine lv_iconst (v := 0) hx hb dX8_all_10 (by decide) ?_
    refine lv_goto (tgt := 15) hx hb dX8_all_11 (by decide) ?_
    refine mr_pt hC hin hL hI k_152 dX8_all_15 (fun H locs hI => ?_)
    refine lv_aload_n hx hb dX8_all_18 rfl (lv_at hl 0 rfl) ?_
    refine mr_gt hC hin hI k_152 dX8_all_19 ?_
    refine lv_if_le (tgt := 27) hx hb dX8_all_22 (by decide) (fun _ => ?_) (fun c => absurd (by decide : (0 : Int32) ≤ 0) c)
    refine lv_iconst (v := 0) hx hb dX8_all_27 (by decide) ?_
    refine lv_istore_n (lv' := [(2, .int 0), (0, .ref o), (1, .int what)]) hx hb dX8_all_28 rfl hl (by decide) rfl (fun ls hl => ?_)
    refine lv_iconst (v := 0) hx hb dX8_all_29 (by decide) ?_
    refine lv_istore_n (lv' := [(3, .int 0), (2, .int 0), (0, .ref o), (1, .int what)]) hx hb dX8_all_30 rfl hl (by decide) rfl (fun ls hl => ?_)
    refine w_loop (σ := Int32) (nsu S) 31 (fun i31 z H locs ls => z = lX8_all_31 S i31 ∧ MI A D cy o ad s S 0 H locs ∧ lv_has ls 4 [(3, .int (nI i31)), (2, .int z), (0, .ref o), (1, .int what)]) ?_ 0 ⟨rfl, hI, lv_sub hl [0, 1, 2, 3] rfl⟩
    intro i31 z H locs ls ⟨hz31, hI, hl⟩ hi31 ih31
    obtain ⟨x31_2, rfl⟩ : ∃ x, x = z := ⟨_, rfl⟩
    refine lv_iload_n hx hb dX8_all_31 rfl (lv_at hl 0 rfl) ?_
    refine lv_aload_n hx hb dX8_all_32 rfl (lv_at hl 2 rfl) ?_
    refine mr_gi hC hin hI 28 (by decide) (by decide) (by decide) k_163 (v := (S 28 0)) rfl dX8_all_33 ?_
    refine lv_icmp_ge (tgt := 61) hx hb dX8_all_36 (by decide) (fun c_2 => ?_) (fun c_2 => ?_)
    · obtain rfl : i31 = nsu S := w_exit hN.n28 hi31 (by have := hN.b28; omega) c_2
      obtain rfl : x31_2 = (lX8_all_31 S (nsu S)) := by rw [← hz31]
      refine lv_iload_n hx hb dX8_all_61 rfl (lv_at hl 3 rfl) ?_
      refine lv_if_ne (tgt := 72) hx hb dX8_all_62 (by decide) (fun c_7 => ?_) (fun c_7 => ?_)
      · have hG := hG.trans (if_neg c_7)
        refine lv_iload_n hx hb dX8_all_72 rfl (lv_at hl 3 rfl) ?_
        refine lv_iconst (v := 1) hx hb dX8_all_73 (by decide) ?_
        refine lv_icmp_ne (tgt := 84) hx hb dX8_all_74 (by decide) (fun c_8 => ?_) (fun c_8 => ?_)
        · have hG := hG.trans (if_neg c_8)
          refine lv_iload_n hx hb dX8_all_84 rfl (lv_at hl 3 rfl) ?_
          refine lv_iconst (v := 2) hx hb dX8_all_85 (by decide) ?_
          refine lv_icmp_ne (tgt := 103) hx hb dX8_all_86 (by decide) (fun c_9 => ?_) (fun c_9 => ?_)
          · have hG := hG.trans (if_neg c_9)
            refine lv_iload_n hx hb dX8_all_103 rfl (lv_at hl 1 rfl) ?_
            exact W.iret (v := (lX8_all_31 S (nsu S))) hx hb hr (fun t9 ht9 hW9 => ⟨⟨(lX8_all_31 S (nsu S)), (), rfl, (congrArg Prod.fst hG).symm, by show MH D cy o ad _ _ t9.heap; rw [ht9, hG]; exact hI.1⟩, hI.2.F ht9⟩) hI.2.2.2 dX8_all_104
          · have hG := hG.trans (if_pos c_9)
            refine lv_aload_n hx hb dX8_all_89 rfl (lv_at hl 2 rfl) ?_
            refine lv_aload_n hx hb dX8_all_90 rfl (lv_at hl 2 rfl) ?_
            refine mr_gi hC hin hI 1 (by decide) (by decide) (by decide) k_179 (v := (S 1 0)) rfl dX8_all_91 ?_
            refine mr_call (As := [.int (S 1 0)]) (rest := []) hC hI (qX8_publicBy l D cy o ad S 0 (S 1 0)) (cwV 1 hts gX8_all_X8_publicBy rfl rfl rfl (by decide +kernel) ⟨Nat.le_of_ble_eq_true rfl, Nat.le_of_ble_eq_true rfl⟩) rfl hl.1 rfl (Nat.le_of_ble_eq_true rfl) dX8_all_94 ⟨Nat.zero_le _, Nat.zero_le _⟩ (fun H locs hI => ?_)
            refine mr_callS (As := [.int (fX8_publicBy S (S 1 0))]) (rest := []) hC hI (qX8_bits l (fX8_publicBy S (S 1 0))) (va_cwS 1 hts gX8_all_X8_bits rfl rfl rfl (by decide +kernel) ⟨Nat.le_of_ble_eq_true rfl, Nat.le_of_ble_eq_true rfl⟩) rfl hl.1 rfl (Nat.le_of_ble_eq_true rfl) dX8_all_97 ⟨Nat.zero_le _, Nat.zero_le _⟩ (fun H locs hI => ?_)
            refine lv_goto (tgt := 104) hx hb dX8_all_100 (by decide) ?_
            exact W.iret (v := (fX8_bits (fX8_publicBy S (S 1 0)))) hx hb hr (fun t9 ht9 hW9 => ⟨⟨(fX8_bits (fX8_publicBy S (S 1 0))), (), rfl, (congrArg Prod.fst hG).symm, by show MH D cy o ad _ _ t9.heap; rw [ht9, hG]; exact hI.1⟩, hI.2.F ht9⟩) hI.2.2.2 dX8_all_104
        · have hG := hG.trans (if_pos c_8)
          refine lv_aload_n hx hb dX8_all_77 rfl (lv_at hl 2 rfl) ?_
          refine mr_gi hC hin hI 6 (by decide) (by decide) (by decide) k_229 (v := (S 6 0)) rfl dX8_all_78 ?_
          refine lv_goto (tgt := 104) hx hb dX8_all_81 (by decide) ?_
          exact W.iret (v := (S 6 0)) hx hb hr (fun t9 ht9 hW9 => ⟨⟨S 6 0, (), rfl, (congrArg Prod.fst hG).symm, by show MH D cy o ad _ _ t9.heap; rw [ht9, hG]; exact hI.1⟩, hI.2.F ht9⟩) hI.2.2.2 dX8_all_104
      · have hG := hG.trans (if_pos c_7)
        refine lv_aload_n hx hb dX8_all_65 rfl (lv_at hl 2 rfl) ?_
        refine mr_gi hC hin hI 1 (by decide) (by decide) (by decide) k_179 (v := (S 1 0)) rfl dX8_all_66 ?_
        refine lv_goto (tgt := 104) hx hb dX8_all_69 (by decide) ?_
        exact W.iret (v := (S 1 0)) hx hb hr (fun t9 ht9 hW9 => ⟨⟨S 1 0, (), rfl, (congrArg Prod.fst hG).symm, by show MH D cy o ad _ _ t9.heap; rw [ht9, hG]; exact hI.1⟩, hI.2.F ht9⟩) hI.2.2.2 dX8_all_104
    · have hlt31 : i31 < nsu S := w_in hN.n28 hi31 (by have := hN.b28; omega) c_2
      have hB31 : iX8_all_31 S i31 x31_2 = iX8_all_31 S i31 x31_2 := rfl
      refine lv_iload_n hx hb dX8_all_39 rfl (lv_at hl 1 rfl) ?_
      refine lv_aload_n hx hb dX8_all_40 rfl (lv_at hl 2 rfl) ?_
      refine lv_iload_n hx hb dX8_all_41 rfl (lv_at hl 0 rfl) ?_
      refine mr_call (As := [.int (nI i31)]) (rest := [.int x31_2]) hC hI (qX8_isSealed l D cy o ad S 0 i31 (by omega) rfl) (cwV 1 hts gX8_all_X8_isSealed rfl rfl rfl (by decide +kernel) ⟨Nat.le_of_ble_eq_true rfl, Nat.le_of_ble_eq_true rfl⟩) rfl hl.1 rfl (Nat.le_of_ble_eq_true rfl) dX8_all_42 ⟨Nat.zero_le _, Nat.zero_le _⟩ (fun H locs hI => ?_)
      refine lv_if_eq (tgt := 52) hx hb dX8_all_45 (by decide) (fun c_6 => ?_) (fun c_6 => ?_)
      · have hB31 := hB31.trans (if_pos c_6)
        refine lv_iconst (v := 0) hx hb dX8_all_52 (by decide) ?_
        refine lv_iadd hx hb dX8_all_53 ?_
        refine lv_istore_n (lv' := [(2, .int (x31_2 + 0)), (3, .int (nI i31)), (0, .ref o), (1, .int what)]) hx hb dX8_all_54 rfl hl (by decide) rfl (fun ls hl => ?_)
        refine lv_iinc (v := (nI (i31 + 1))) (lv' := [(3, .int (nI (i31 + 1))), (2, .int (x31_2 + 0)), (0, .ref o), (1, .int what)]) hx hb dX8_all_55 hl (k := 1) rfl (nI_1 i31) (by decide) rfl (fun ls hl => ?_)
        refine lv_goto (tgt := 31) hx hb dX8_all_58 (by decide) ?_
        exact ih31 (x31_2 + 0) _ _ ls hlt31 ⟨(by show _ = iX8_all_31 S i31 (lX8_all_31 S i31); rw [← hz31]; exact hB31.symm), hI, lv_sub hl [0, 1, 2, 3] rfl⟩
      · have hB31 := hB31.trans (if_neg c_6)
        refine lv_iconst (v := 1) hx hb dX8_all_48 (by decide) ?_
        refine lv_goto (tgt := 53) hx hb dX8_all_49 (by decide) ?_
        refine lv_iadd hx hb dX8_all_53 ?_
        refine lv_istore_n (lv' := [(2, .int (x31_2 + 1)), (3, .int (nI i31)), (0, .ref o), (1, .int what)]) hx hb dX8_all_54 rfl hl (by decide) rfl (fun ls hl => ?_)
        refine lv_iinc (v := (nI (i31 + 1))) (lv' := [(3, .int (nI (i31 + 1))), (2, .int (x31_2 + 1)), (0, .ref o), (1, .int what)]) hx hb dX8_all_55 hl (k := 1) rfl (nI_1 i31) (by decide) rfl (fun ls hl => ?_)
        refine lv_goto (tgt := 31) hx hb dX8_all_58 (by decide) ?_
        exact ih31 (x31_2 + 1) _ _ ls hlt31 ⟨(by show _ = iX8_all_31 S i31 (lX8_all_31 S i31); rw [← hz31]; exact hB31.symm), hI, lv_sub hl [0, 1, 2, 3] rfl⟩
