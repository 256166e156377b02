/-! walked: suits -/
set_option maxHeartbeats 8000000 in
set_option maxRecDepth 100000 in
theorem qL_suits (l : Launch) (hfl : l.stackTraces = false) (A B : Nat → Prop) (D : va_G) (cy : Nat → ClassId) (g : CWt) (S : St) (e0 mi n0 x0 : Nat) (la : Nat → Nat) (hK : XK A B e0 n0 x0 la g S) (L : St) (hV : LV L) (act : Int32) (zv : Int32) (k : Nat) (hk : k < 8) (hq4 : ¬ L 11 4 = 0) (hkz : fL_low zv (L 11 4) = nI k) (hmod : ¬ (((L 9 (4 * (ix (L 6 (8 * k + 1))))) + 2) + ((fL_due L k) / 4)) = 0) (hOK : XOK S (fL_suits L act zv k).2.1 (fL_suits L act zv k).2.2) : Met l yL_suits wsL_suits ({ frames := 10, cells := 8, slots := 342, locals := 265 } : Room) (va_Pc [.ref x0, .int act, .int zv, .ref (la 0), .ref (la 1), .ref (la 2), .ref (la 3), .ref (la 4), .ref (la 5), .ref (la 6), .ref (la 7), .ref (la 8), .ref (la 9), .ref (la 11)] (XW A B D cy g S e0 mi n0 la L)) (va_Qi (fun (r : Int32) (g1 : CWt) => r = 1 ∧ XK A B e0 n0 x0 la g1 (XS S (fL_suits L act zv k).2.1)) (fun g1 t9 => CH D cy g1 (XS S (fL_suits L act zv k).2.1) t9.heap ∧ LH 12 D cy la (fL_suits L act zv k).1 t9.heap) (AB A B)) 8 342 (AB A B) := by
  refine Met.ofW (cc := cL_suits) (maxL := 22) (ret := (some .boolean)) (by decide) rfl ?_
  intro p e s m args below meth c s₁ B9 hml hv
  obtain ⟨rfl, hM, hLH, hKK, hJ, hX, hO, hn0⟩ := hv
  have hx := B9.exec
  have hb := B9.bytes
  have hr := B9.returns
  have hts := atoms_spec (ws := wsL_suits) B9.pre
  have hown : s.vm.findClass RL = some m.cls := findClass_of_methodNamed B9.named
  have hlocks := B9.notSynchronized
  have hC : XC p l s m _ c cL_suits 22 A B D cy e0 mi wsL_suits := ⟨⟨⟨hx, hb, hml, hown, hts⟩, hKK⟩, hfl, hJ, hX, hO⟩
  have hI : XI A B D cy g n0 la s S L s.heap [] := ⟨hM, hLH, va_S.rf, hn0⟩
  have hb1 := hV.b1
  have hb2 := hV.b2
  have hb3 := hV.b3
  have hb4 := hV.b4
  have hl := lv_entry ([.ref x0, .int act, .int zv, .ref (la 0), .ref (la 1), .ref (la 2), .ref (la 3), .ref (la 4), .ref (la 5), .ref (la 6), .ref (la 7), .ref (la 8), .ref (la 9), .ref (la 11)]) (n := 22) (Nat.le_of_ble_eq_true rfl)
  rw [lg_entry_eq]
  generalize (lg_sl ([.ref x0, .int act, .int zv, .ref (la 0), .ref (la 1), .ref (la 2), .ref (la 3), .ref (la 4), .ref (la 5), .ref (la 6), .ref (la 7), .ref (la 8), .ref (la 9), .ref (la 11)]) ++ List.replicate (22 - (lg_sl ([.ref x0, .int act, .int zv, .ref (la 0), .ref (la 1), .ref (la 2), .ref (la 3), .ref (la 4), .ref (la 5), .ref (la 6), .ref (la 7), .ref (la 8), .ref (la 9), .ref (la 11)])).length) Slot.unset).toArray = ls at hl ⊢
  have hl : lv_has ls 22 [(0, .ref x0), (1, .int act), (2, .int zv), (3, .ref (la 0)), (4, .ref (la 1)), (5, .ref (la 2)), (6, .ref (la 3)), (7, .ref (la 4)), (8, .ref (la 5)), (9, .ref (la 6)), (10, .ref (la 7)), (11, .ref (la 8)), (12, .ref (la 9)), (13, .ref (la 11))] := hl
  have hG : fL_suits L act zv k = fL_suits L act zv k := rfl
  refine lv_iload_n hx hb dL_suits_0 rfl (lv_at hl 2 rfl) ?_
  refine lv_aload hx hb dL_suits_1 (lv_at hl 13 rfl) ?_
  refine lv_iconst (v := 4) hx hb dL_suits_3 (by decide) ?_
  refine xr_ld hC hI 11 (by decide) (nx_in (by decide : (4 : Int32) = nI 4) (by decide) (by decide)) (v := (L 11 4)) (congrArg (L 11) (by decide : ix 4 = 4)) dL_suits_4 ?_
  refine xr_callS (As := [.int zv, .int (L 11 4)]) (rest := []) hC hI (qL_low l zv (L 11 4) hq4) (va_cwS 2 hts gL_suits_L_low rfl rfl rfl (by decide +kernel) ⟨Nat.le_of_ble_eq_true rfl, Nat.le_of_ble_eq_true rfl⟩) rfl hl.1 rfl (Nat.le_of_ble_eq_true rfl) dL_suits_5 ⟨Nat.le_of_ble_eq_true rfl, Nat.le_of_ble_eq_true rfl⟩ (fun H locs hI => ?_)
  rw [hkz]
  refine lv_istore (lv' := [(14, .int (nI k)), (0, .ref x0), (1, .int act), (2, .int zv), (3, .ref (la 0)), (4, .ref (la 1)), (5, .ref (la 2)), (6, .ref (la 3)), (7, .ref (la 4)), (8, .ref (la 5)), (9, .ref (la 6)), (10, .ref (la 7)), (11, .ref (la 8)), (12, .ref (la 9)), (13, .ref (la 11))]) hx hb dL_suits_8 hl (by decide) rfl (fun ls hl => ?_)
  refine lv_aload hx hb dL_suits_10 (lv_at hl 10 rfl) ?_
  refine lv_bipush (v := 8) hx hb dL_suits_12 (by decide) ?_
  refine lv_iload hx hb dL_suits_14 (lv_at hl 0 rfl) ?_
  refine lv_imul hx hb dL_suits_16 ?_
  refine lv_iconst (v := 3) hx hb dL_suits_17 (by decide) ?_
  refine lv_iadd hx hb dL_suits_18 ?_
  refine xr_ld hC hI 6 (by decide) (show vp_in ((8 * (nI k)) + 3) 64 from nx_in (nx_add (nx_mul (by decide : (8 : Int32) = nI 8) rfl) (by decide : (3 : Int32) = nI 3)) (by omega) (by decide)) (v := (L 6 (8 * k + 3))) (congrArg (L 6) (nx_ix (x := ((8 * (nI k)) + 3)) (nx_add (nx_mul (by decide : (8 : Int32) = nI 8) rfl) (by decide : (3 : Int32) = nI 3)) (by omega))) dL_suits_19 ?_
  refine lv_istore (lv' := [(15, .int (L 6 (8 * k + 3))), (14, .int (nI k)), (0, .ref x0), (1, .int act), (2, .int zv), (3, .ref (la 0)), (4, .ref (la 1)), (5, .ref (la 2)), (6, .ref (la 3)), (7, .ref (la 4)), (8, .ref (la 5)), (9, .ref (la 6)), (10, .ref (la 7)), (11, .ref (la 8)), (12, .ref (la 9)), (13, .ref (la 11))]) hx hb dL_suits_20 hl (by decide) rfl (fun ls hl => ?_)
  refine lv_aload hx hb dL_suits_22 (lv_at hl 15 rfl) ?_
  refine lv_iconst (v := 0) hx hb dL_suits_24 (by decide) ?_
  refine xr_ld hC hI 11 (by decide) (nx_in (by decide : (0 : Int32) = nI 0) (by decide) (by decide)) (v := (L 11 0)) (congrArg (L 11) (by decide : ix 0 = 0)) dL_suits_25 ?_
  refine lv_aload hx hb dL_suits_26 (lv_at hl 11 rfl) ?_
  refine lv_bipush (v := 8) hx hb dL_suits_28 (by decide) ?_
  refine lv_iload hx hb dL_suits_30 (lv_at hl 1 rfl) ?_
  refine lv_imul hx hb dL_suits_32 ?_
  refine lv_iconst (v := 4) hx hb dL_suits_33 (by decide) ?_
  refine lv_iadd hx hb dL_suits_34 ?_
  refine xr_ld hC hI 6 (by decide) (show vp_in ((8 * (nI k)) + 4) 64 from nx_in (nx_add (nx_mul (by decide : (8 : Int32) = nI 8) rfl) (by decide : (4 : Int32) = nI 4)) (by omega) (by decide)) (v := (L 6 (8 * k + 4))) (congrArg (L 6) (nx_ix (x := ((8 * (nI k)) + 4)) (nx_add (nx_mul (by decide : (8 : Int32) = nI 8) rfl) (by decide : (4 : Int32) = nI 4)) (by omega))) dL_suits_35 ?_
  have hG : fL_suits L act zv k = bL_suits_44 L act zv k (jL_suits_44 L k) := hG
  refine w_join (σ := Int32) 44 (fun y44_0 H locs ls => jL_suits_44 L k = y44_0 ∧ XI A B D cy g n0 la s S L H locs ∧ lv_has ls 22 [(15, .int (L 6 (8 * k + 3))), (14, .int (nI k)), (0, .ref x0), (1, .int act), (2, .int zv), (3, .ref (la 0)), (4, .ref (la 1)), (5, .ref (la 2)), (6, .ref (la 3)), (7, .ref (la 4)), (8, .ref (la 5)), (9, .ref (la 6)), (10, .ref (la 7)), (11, .ref (la 8)), (12, .ref (la 9)), (13, .ref (la 11))]) (fun y44_0 => [.int y44_0]) ?_ (fun J44 => ?_)
  · intro y44_0 H locs ls ⟨hy44_0, hI, hl⟩
    rw [hy44_0] at hG
    refine lv_istore (lv' := [(16, .int y44_0), (15, .int (L 6 (8 * k + 3))), (14, .int (nI k)), (0, .ref x0), (1, .int act), (2, .int zv), (3, .ref (la 0)), (4, .ref (la 1)), (5, .ref (la 2)), (6, .ref (la 3)), (7, .ref (la 4)), (8, .ref (la 5)), (9, .ref (la 6)), (10, .ref (la 7)), (11, .ref (la 8)), (12, .ref (la 9)), (13, .ref (la 11))]) hx hb dL_suits_44 hl (by decide) rfl (fun ls hl => ?_)
    refine lv_iload_n hx hb dL_suits_46 rfl (lv_at hl 4 rfl) ?_
    refine lv_if_ne (tgt := 298) hx hb dL_suits_47 (by decide) (fun c_2 => ?_) (fun c_2 => ?_)
    · have hG := hG.trans (if_neg c_2)
      refine lv_iload_n hx hb dL_suits_298 rfl (lv_at hl 4 rfl) ?_
      refine lv_iconst (v := 1) hx hb dL_suits_299 (by decide) ?_
      refine lv_icmp_ne (tgt := 419) hx hb dL_suits_300 (by decide) (fun c_3 => ?_) (fun c_3 => ?_)
      · have hG := hG.trans (if_neg c_3)
        refine lv_iload_n hx hb dL_suits_419 rfl (lv_at hl 4 rfl) ?_
        refine lv_iconst (v := 2) hx hb dL_suits_420 (by decide) ?_
        refine lv_icmp_ne (tgt := 581) hx hb dL_suits_421 (by decide) (fun c_4 => ?_) (fun c_4 => ?_)
        · have hG := hG.trans (if_neg c_4)
          refine lv_iload_n hx hb dL_suits_581 rfl (lv_at hl 4 rfl) ?_
          refine lv_iconst (v := 3) hx hb dL_suits_582 (by decide) ?_
          refine lv_icmp_ne (tgt := 667) hx hb dL_suits_583 (by decide) (fun c_5 => ?_) (fun c_5 => ?_)
          · have hG := hG.trans (if_neg c_5)
            refine lv_iload hx hb dL_suits_667 (lv_at hl 2 rfl) ?_
            refine lv_aload_n hx hb dL_suits_669 rfl (lv_at hl 6 rfl) ?_
            refine lv_aload hx hb dL_suits_670 (lv_at hl 7 rfl) ?_
            refine lv_aload hx hb dL_suits_672 (lv_at hl 8 rfl) ?_
            refine lv_aload hx hb dL_suits_674 (lv_at hl 9 rfl) ?_
            refine lv_aload hx hb dL_suits_676 (lv_at hl 12 rfl) ?_
            refine lv_aload hx hb dL_suits_678 (lv_at hl 13 rfl) ?_
            refine lv_aload hx hb dL_suits_680 (lv_at hl 16 rfl) ?_
            refine xr_call (As := [.int (nI k), .ref (la 0), .ref (la 1), .ref (la 2), .ref (la 3), .ref (la 6), .ref (la 7), .ref (la 11)]) (rest := []) hC hI (qL_due l D cy la L hV k (by omega) rfl) (va_cwS 8 hts gL_suits_L_due rfl rfl rfl (by decide +kernel) ⟨Nat.le_of_ble_eq_true rfl, Nat.le_of_ble_eq_true rfl⟩) rfl hl.1 rfl (Nat.le_of_ble_eq_true rfl) dL_suits_682 ⟨Nat.le_of_ble_eq_true rfl, Nat.le_of_ble_eq_true rfl⟩ (fun H locs hI => ?_)
            refine lv_istore (lv' := [(17, .int (fL_due L k)), (16, .int y44_0), (15, .int (L 6 (8 * k + 3))), (14, .int (nI k)), (0, .ref x0), (1, .int act), (2, .int zv), (3, .ref (la 0)), (4, .ref (la 1)), (5, .ref (la 2)), (6, .ref (la 3)), (7, .ref (la 4)), (8, .ref (la 5)), (9, .ref (la 6)), (10, .ref (la 7)), (11, .ref (la 8)), (12, .ref (la 9)), (13, .ref (la 11))]) hx hb dL_suits_685 hl (by decide) rfl (fun ls hl => ?_)
            refine lv_aload hx hb dL_suits_687 (lv_at hl 16 rfl) ?_
            refine lv_iconst (v := 4) hx hb dL_suits_689 (by decide) ?_
            refine lv_aload hx hb dL_suits_690 (lv_at hl 13 rfl) ?_
            refine lv_bipush (v := 8) hx hb dL_suits_692 (by decide) ?_
            refine lv_iload hx hb dL_suits_694 (lv_at hl 3 rfl) ?_
            refine lv_imul hx hb dL_suits_696 ?_
            refine lv_iconst (v := 1) hx hb dL_suits_697 (by decide) ?_
            refine lv_iadd hx hb dL_suits_698 ?_
            refine xr_ld hC hI 6 (by decide) (show vp_in ((8 * (nI k)) + 1) 64 from nx_in (nx_add (nx_mul (by decide : (8 : Int32) = nI 8) rfl) (by decide : (1 : Int32) = nI 1)) (by omega) (by decide)) (v := (L 6 (8 * k + 1))) (congrArg (L 6) (nx_ix (x := ((8 * (nI k)) + 1)) (nx_add (nx_mul (by decide : (8 : Int32) = nI 8) rfl) (by decide : (1 : Int32) = nI 1)) (by omega))) dL_suits_699 ?_
            refine lv_imul hx hb dL_suits_700 ?_
            refine xr_ld hC hI 9 (by decide) (show vp_in (4 * (L 6 (8 * k + 1))) 12 from nx_in (nx_mul (by decide : (4 : Int32) = nI 4) (vp_ixe (hV.u1 (k := k) (by omega)))) (by have h90 := vp_ixl (hV.u1 (k := k) (by omega)); omega) (by decide)) (v := (L 9 (4 * (ix (L 6 (8 * k + 1)))))) (congrArg (L 9) (nx_ix (x := (4 * (L 6 (8 * k + 1)))) (nx_mul (by decide : (4 : Int32) = nI 4) (vp_ixe (hV.u1 (k := k) (by omega)))) (by have h90 := vp_ixl (hV.u1 (k := k) (by omega)); omega))) dL_suits_701 ?_
            refine lv_istore (lv' := [(18, .int (L 9 (4 * (ix (L 6 (8 * k + 1)))))), (17, .int (fL_due L k)), (16, .int y44_0), (15, .int (L 6 (8 * k + 3))), (14, .int (nI k)), (0, .ref x0), (1, .int act), (2, .int zv), (3, .ref (la 0)), (4, .ref (la 1)), (5, .ref (la 2)), (6, .ref (la 3)), (7, .ref (la 4)), (8, .ref (la 5)), (9, .ref (la 6)), (10, .ref (la 7)), (11, .ref (la 8)), (12, .ref (la 9)), (13, .ref (la 11))]) hx hb dL_suits_702 hl (by decide) rfl (fun ls hl => ?_)
            refine lv_iload hx hb dL_suits_704 (lv_at hl 3 rfl) ?_
            refine lv_iconst (v := 1) hx hb dL_suits_706 (by decide) ?_
            refine lv_icmp_eq (tgt := 716) hx hb dL_suits_707 (by decide) (fun c_6 => ?_) (fun c_6 => ?_)
            · have hG := hG.trans (if_pos c_6)
              refine lv_iconst (v := 1) hx hb dL_suits_716 (by decide) ?_
              refine lv_goto (tgt := 721) hx hb dL_suits_717 (by decide) ?_
              refine lv_istore (lv' := [(19, .int 1), (18, .int (L 9 (4 * (ix (L 6 (8 * k + 1)))))), (17, .int (fL_due L k)), (16, .int y44_0), (15, .int (L 6 (8 * k + 3))), (14, .int (nI k)), (0, .ref x0), (1, .int act), (2, .int zv), (3, .ref (la 0)), (4, .ref (la 1)), (5, .ref (la 2)), (6, .ref (la 3)), (7, .ref (la 4)), (8, .ref (la 5)), (9, .ref (la 6)), (10, .ref (la 7)), (11, .ref (la 8)), (12, .ref (la 9)), (13, .ref (la 11))]) hx hb dL_suits_721 hl (by decide) rfl (fun ls hl => ?_)
              refine lv_iload_n hx hb dL_suits_723 rfl (lv_at hl 7 rfl) ?_
              refine lv_iconst (v := 4) hx hb dL_suits_724 (by decide) ?_
              refine lv_icmp_ne (tgt := 809) hx hb dL_suits_725 (by decide) (fun c_7 => ?_) (fun c_7 => ?_)
              · have hG := hG.trans (if_neg c_7)
                refine lv_iload_n hx hb dL_suits_809 rfl (lv_at hl 8 rfl) ?_
                refine lv_iconst (v := 4) hx hb dL_suits_810 (by decide) ?_
                refine lv_ishr hx hb dL_suits_811 ?_
                refine lv_iload hx hb dL_suits_812 (lv_at hl 1 rfl) ?_
                refine lv_iconst (v := 2) hx hb dL_suits_814 (by decide) ?_
                refine lv_iadd hx hb dL_suits_815 ?_
                refine lv_iload hx hb dL_suits_816 (lv_at hl 2 rfl) ?_
                refine lv_iconst (v := 4) hx hb dL_suits_818 (by decide) ?_
                refine lv_idiv hx hb dL_suits_819 (by decide) ?_
                refine lv_iadd hx hb dL_suits_820 ?_
                refine xr_callS (As := [.int (zv >>> ((4 : Int32) &&& 31)), .int (((L 9 (4 * (ix (L 6 (8 * k + 1))))) + 2) + ((fL_due L k) / 4))]) (rest := []) hC hI (qL_low l (zv >>> ((4 : Int32) &&& 31)) (((L 9 (4 * (ix (L 6 (8 * k + 1))))) + 2) + ((fL_due L k) / 4)) hmod) (va_cwS 2 hts gL_suits_L_low rfl rfl rfl (by decide +kernel) ⟨Nat.le_of_ble_eq_true rfl, Nat.le_of_ble_eq_true rfl⟩) rfl hl.1 rfl (Nat.le_of_ble_eq_true rfl) dL_suits_821 ⟨Nat.le_of_ble_eq_true rfl, Nat.le_of_ble_eq_true rfl⟩ (fun H locs hI => ?_)
                refine lv_istore (lv' := [(20, .int (fL_low (zv >>> ((4 : Int32) &&& 31)) (((L 9 (4 * (ix (L 6 (8 * k + 1))))) + 2) + ((fL_due L k) / 4)))), (19, .int 1), (18, .int (L 9 (4 * (ix (L 6 (8 * k + 1)))))), (17, .int (fL_due L k)), (16, .int y44_0), (15, .int (L 6 (8 * k + 3))), (14, .int (nI k)), (0, .ref x0), (1, .int act), (2, .int zv), (3, .ref (la 0)), (4, .ref (la 1)), (5, .ref (la 2)), (6, .ref (la 3)), (7, .ref (la 4)), (8, .ref (la 5)), (9, .ref (la 6)), (10, .ref (la 7)), (11, .ref (la 8)), (12, .ref (la 9)), (13, .ref (la 11))]) hx hb dL_suits_824 hl (by decide) rfl (fun ls hl => ?_)
                refine lv_iload hx hb dL_suits_826 (lv_at hl 1 rfl) ?_
                refine lv_if_eq (tgt := 857) hx hb dL_suits_828 (by decide) (fun c => absurd c (by decide : ¬ (1 : Int32) = 0)) (fun _ => ?_)
                refine lv_iload hx hb dL_suits_831 (lv_at hl 0 rfl) ?_
                refine lv_iload hx hb dL_suits_833 (lv_at hl 2 rfl) ?_
                refine lv_icmp_gt (tgt := 857) hx hb dL_suits_835 (by decide) (fun c_8 => ?_) (fun c_8 => ?_)
                · have hG := hG.trans (if_pos c_8)
                  refine lv_iconst (v := 0) hx hb dL_suits_857 (by decide) ?_
                  refine lv_istore (lv' := [(21, .int 0), (20, .int (fL_low (zv >>> ((4 : Int32) &&& 31)) (((L 9 (4 * (ix (L 6 (8 * k + 1))))) + 2) + ((fL_due L k) / 4)))), (19, .int 1), (18, .int (L 9 (4 * (ix (L 6 (8 * k + 1)))))), (17, .int (fL_due L k)), (16, .int y44_0), (15, .int (L 6 (8 * k + 3))), (14, .int (nI k)), (0, .ref x0), (1, .int act), (2, .int zv), (3, .ref (la 0)), (4, .ref (la 1)), (5, .ref (la 2)), (6, .ref (la 3)), (7, .ref (la 4)), (8, .ref (la 5)), (9, .ref (la 6)), (10, .ref (la 7)), (11, .ref (la 8)), (12, .ref (la 9)), (13, .ref (la 11))]) hx hb dL_suits_858 hl (by decide) rfl (fun ls hl => ?_)
                  refine lv_iload hx hb dL_suits_860 (lv_at hl 0 rfl) ?_
                  refine lv_if_eq (tgt := 893) hx hb dL_suits_862 (by decide) (fun _ => ?_) (fun c => absurd (by decide : (0 : Int32) = 0) c)
                  refine lv_aload_n hx hb dL_suits_893 rfl (lv_at hl 8 rfl) ?_
                  refine lv_bipush (v := 9) hx hb dL_suits_894 (by decide) ?_
                  refine lv_iload hx hb dL_suits_896 (lv_at hl 7 rfl) ?_
                  refine lv_iload hx hb dL_suits_898 (lv_at hl 1 rfl) ?_
                  refine lv_iconst (v := 0) hx hb dL_suits_900 (by decide) ?_
                  have hok : ((xq7 S 9 (nI k) (fL_low (zv >>> ((4 : Int32) &&& 31)) (((L 9 (4 * (ix (L 6 (8 * k + 1))))) + 2) + ((fL_due L k) / 4))) 0).2.1 = 0 ∨ (xq7 S 9 (nI k) (fL_low (zv >>> ((4 : Int32) &&& 31)) (((L 9 (4 * (ix (L 6 (8 * k + 1))))) + 2) + ((fL_due L k) / 4))) 0).2.1 = 3) ∧ (if (xq7 S 9 (nI k) (fL_low (zv >>> ((4 : Int32) &&& 31)) (((L 9 (4 * (ix (L 6 (8 * k + 1))))) + 2) + ((fL_due L k) / 4))) 0).2.1 = 0 then (xq7 S 9 (nI k) (fL_low (zv >>> ((4 : Int32) &&& 31)) (((L 9 (4 * (ix (L 6 (8 * k + 1))))) + 2) + ((fL_due L k) / 4))) 0).1 else -1003) = (-1003) := XOK.c (by have h9 := hOK; rw [hG] at h9; exact h9) (by decide)
                  refine xr_cs (As := [.ref x0, .int 9, .int (nI k), .int (fL_low (zv >>> ((4 : Int32) &&& 31)) (((L 9 (4 * (ix (L 6 (8 * k + 1))))) + 2) + ((fL_due L k) / 4))), .int 0]) (rest := []) 9 (nI k) (fL_low (zv >>> ((4 : Int32) &&& 31)) (((L 9 (4 * (ix (L 6 (8 * k + 1))))) + 2) + ((fL_due L k) / 4))) 0 hC hK hI (qC_settle l hC.2.1 A D cy g hK.1 S e0 mi n0 hK.2.2.2.1 hK.v hK.i x0 hK.2.2.2.2.2.2.2 (nI k) (fL_low (zv >>> ((4 : Int32) &&& 31)) (((L 9 (4 * (ix (L 6 (8 * k + 1))))) + 2) + ((fL_due L k) / 4))) 0 hok.1) (vx_cwSW 5 hts gL_suits_L_calls rfl rfl rfl (by decide +kernel) ⟨Nat.le_of_ble_eq_true rfl, Nat.le_of_ble_eq_true rfl⟩) rfl hl.1 rfl (Nat.le_of_ble_eq_true rfl) dL_suits_901 ⟨Nat.le_of_ble_eq_true rfl, Nat.le_of_ble_eq_true rfl⟩ (fun g H locs hK hI => ?_)
                  refine lv_iload hx hb dL_suits_904 (lv_at hl 0 rfl) ?_
                  refine lv_if_eq (tgt := 920) hx hb dL_suits_906 (by decide) (fun _ => ?_) (fun c => absurd (by decide : (0 : Int32) = 0) c)
                  refine lv_sipush (v := (-1003)) hx hb dL_suits_920 (by decide) ?_
                  refine lv_icmp_ne (tgt := 930) hx hb dL_suits_923 (by decide) (fun c9 => absurd hok.2 c9) (fun _ => ?_)
                  refine lv_iconst (v := 1) hx hb dL_suits_926 (by decide) ?_
                  refine lv_goto (tgt := 931) hx hb dL_suits_927 (by decide) ?_
                  refine W.widen (k := 8) (n := 342) (Nat.le_of_ble_eq_true rfl) (Nat.le_of_ble_eq_true rfl) ?_
                  exact W.zret (v := 1) (ty := .boolean) hx hb hr rfl (fun t9 ht9 hW9 => ⟨⟨1, g, rfl, ⟨rfl, by rw [hG]; exact hK⟩, ⟨by rw [hG, ht9]; exact hI.1, by rw [hG, ht9]; exact hI.2.1⟩⟩, hI.2.2.1.F ht9⟩) hI.2.2.1.2.2 dL_suits_931
                · have hG := hG.trans (if_neg c_8)
                  refine lv_iload hx hb dL_suits_838 (lv_at hl 5 rfl) ?_
                  refine lv_iconst (v := 1) hx hb dL_suits_840 (by decide) ?_
                  refine lv_icmp_eq (tgt := 853) hx hb dL_suits_841 (by decide) (fun _ => ?_) (fun c => absurd c_6 c)
                  refine lv_iconst (v := 1) hx hb dL_suits_853 (by decide) ?_
                  refine lv_goto (tgt := 858) hx hb dL_suits_854 (by decide) ?_
                  refine lv_istore (lv' := [(21, .int 1), (20, .int (fL_low (zv >>> ((4 : Int32) &&& 31)) (((L 9 (4 * (ix (L 6 (8 * k + 1))))) + 2) + ((fL_due L k) / 4)))), (19, .int 1), (18, .int (L 9 (4 * (ix (L 6 (8 * k + 1)))))), (17, .int (fL_due L k)), (16, .int y44_0), (15, .int (L 6 (8 * k + 3))), (14, .int (nI k)), (0, .ref x0), (1, .int act), (2, .int zv), (3, .ref (la 0)), (4, .ref (la 1)), (5, .ref (la 2)), (6, .ref (la 3)), (7, .ref (la 4)), (8, .ref (la 5)), (9, .ref (la 6)), (10, .ref (la 7)), (11, .ref (la 8)), (12, .ref (la 9)), (13, .ref (la 11))]) hx hb dL_suits_858 hl (by decide) rfl (fun ls hl => ?_)
                  refine lv_iload hx hb dL_suits_860 (lv_at hl 0 rfl) ?_
                  refine lv_if_eq (tgt := 893) hx hb dL_suits_862 (by decide) (fun c => absurd c (by decide : ¬ (1 : Int32) = 0)) (fun _ => ?_)
                  refine lv_iload hx hb dL_suits_865 (lv_at hl 7 rfl) ?_
                  refine lv_iload hx hb dL_suits_867 (lv_at hl 1 rfl) ?_
                  refine lv_aload_n hx hb dL_suits_869 rfl (lv_at hl 11 rfl) ?_
                  refine lv_aload hx hb dL_suits_870 (lv_at hl 12 rfl) ?_
                  refine lv_aload hx hb dL_suits_872 (lv_at hl 13 rfl) ?_
                  refine lv_aload hx hb dL_suits_874 (lv_at hl 14 rfl) ?_
                  refine lv_aload hx hb dL_suits_876 (lv_at hl 15 rfl) ?_
                  refine lv_aload hx hb dL_suits_878 (lv_at hl 16 rfl) ?_
                  refine lv_aload hx hb dL_suits_880 (lv_at hl 17 rfl) ?_
                  refine lv_aload hx hb dL_suits_882 (lv_at hl 18 rfl) ?_
                  refine lv_aload hx hb dL_suits_884 (lv_at hl 19 rfl) ?_
                  refine lv_aload hx hb dL_suits_886 (lv_at hl 20 rfl) ?_
                  refine lv_aload hx hb dL_suits_888 (lv_at hl 21 rfl) ?_
                  refine xr_callV (As := [.int (nI k), .int (fL_low (zv >>> ((4 : Int32) &&& 31)) (((L 9 (4 * (ix (L 6 (8 * k + 1))))) + 2) + ((fL_due L k) / 4))), .ref (la 0), .ref (la 1), .ref (la 2), .ref (la 3), .ref (la 4), .ref (la 5), .ref (la 6), .ref (la 7), .ref (la 8), .ref (la 9), .ref (la 11)]) (rest := []) hC hK hI (qL_wins l B D cy la hK.2.1 L hV k (by omega) rfl (fL_low (zv >>> ((4 : Int32) &&& 31)) (((L 9 (4 * (ix (L 6 (8 * k + 1))))) + 2) + ((fL_due L k) / 4)))) (va_cwS 13 hts gL_suits_L_wins rfl rfl rfl (by decide +kernel) ⟨Nat.le_of_ble_eq_true rfl, Nat.le_of_ble_eq_true rfl⟩) rfl hl.1 rfl (Nat.le_of_ble_eq_true rfl) dL_suits_890 ⟨Nat.le_of_ble_eq_true rfl, Nat.le_of_ble_eq_true rfl⟩ (fun H locs hI => ?_)
                  refine lv_aload_n hx hb dL_suits_893 rfl (lv_at hl 8 rfl) ?_
                  refine lv_bipush (v := 9) hx hb dL_suits_894 (by decide) ?_
                  refine lv_iload hx hb dL_suits_896 (lv_at hl 7 rfl) ?_
                  refine lv_iload hx hb dL_suits_898 (lv_at hl 1 rfl) ?_
                  refine lv_iconst (v := 0) hx hb dL_suits_900 (by decide) ?_
                  have hok : ((xq7 S 9 (nI k) (fL_low (zv >>> ((4 : Int32) &&& 31)) (((L 9 (4 * (ix (L 6 (8 * k + 1))))) + 2) + ((fL_due L k) / 4))) 0).2.1 = 0 ∨ (xq7 S 9 (nI k) (fL_low (zv >>> ((4 : Int32) &&& 31)) (((L 9 (4 * (ix (L 6 (8 * k + 1))))) + 2) + ((fL_due L k) / 4))) 0).2.1 = 3) ∧ (if (xq7 S 9 (nI k) (fL_low (zv >>> ((4 : Int32) &&& 31)) (((L 9 (4 * (ix (L 6 (8 * k + 1))))) + 2) + ((fL_due L k) / 4))) 0).2.1 = 0 then (xq7 S 9 (nI k) (fL_low (zv >>> ((4 : Int32) &&& 31)) (((L 9 (4 * (ix (L 6 (8 * k + 1))))) + 2) + ((fL_due L k) / 4))) 0).1 else -1003) = ((fL_wins L k (fL_low (zv >>> ((4 : Int32) &&& 31)) (((L 9 (4 * (ix (L 6 (8 * k + 1))))) + 2) + ((fL_due L k) / 4)))) 8 (8 + k)) := XOK.c (by have h9 := hOK; rw [hG] at h9; exact h9) (by decide)
                  refine xr_cs (As := [.ref x0, .int 9, .int (nI k), .int (fL_low (zv >>> ((4 : Int32) &&& 31)) (((L 9 (4 * (ix (L 6 (8 * k + 1))))) + 2) + ((fL_due L k) / 4))), .int 0]) (rest := []) 9 (nI k) (fL_low (zv >>> ((4 : Int32) &&& 31)) (((L 9 (4 * (ix (L 6 (8 * k + 1))))) + 2) + ((fL_due L k) / 4))) 0 hC hK hI (qC_settle l hC.2.1 A D cy g hK.1 S e0 mi n0 hK.2.2.2.1 hK.v hK.i x0 hK.2.2.2.2.2.2.2 (nI k) (fL_low (zv >>> ((4 : Int32) &&& 31)) (((L 9 (4 * (ix (L 6 (8 * k + 1))))) + 2) + ((fL_due L k) / 4))) 0 hok.1) (vx_cwSW 5 hts gL_suits_L_calls rfl rfl rfl (by decide +kernel) ⟨Nat.le_of_ble_eq_true rfl, Nat.le_of_ble_eq_true rfl⟩) rfl hl.1 rfl (Nat.le_of_ble_eq_true rfl) dL_suits_901 ⟨Nat.le_of_ble_eq_true rfl, Nat.le_of_ble_eq_true rfl⟩ (fun g H locs hK hI => ?_)
                  refine lv_iload hx hb dL_suits_904 (lv_at hl 0 rfl) ?_
                  refine lv_if_eq (tgt := 920) hx hb dL_suits_906 (by decide) (fun c => absurd c (by decide : ¬ (1 : Int32) = 0)) (fun _ => ?_)
                  refine lv_aload hx hb dL_suits_909 (lv_at hl 19 rfl) ?_
                  refine lv_bipush (v := 8) hx hb dL_suits_911 (by decide) ?_
                  refine lv_iload hx hb dL_suits_913 (lv_at hl 7 rfl) ?_
                  refine lv_iadd hx hb dL_suits_915 ?_
                  refine xr_ld hC hI 8 (by decide) (show vp_in (8 + (nI k)) 16 from nx_in (nx_add (by decide : (8 : Int32) = nI 8) rfl) (by omega) (by decide)) (v := ((fL_wins L k (fL_low (zv >>> ((4 : Int32) &&& 31)) (((L 9 (4 * (ix (L 6 (8 * k + 1))))) + 2) + ((fL_due L k) / 4)))) 8 (8 + k))) (congrArg ((fL_wins L k (fL_low (zv >>> ((4 : Int32) &&& 31)) (((L 9 (4 * (ix (L 6 (8 * k + 1))))) + 2) + ((fL_due L k) / 4)))) 8) (nx_ix (x := (8 + (nI k))) (nx_add (by decide : (8 : Int32) = nI 8) rfl) (by omega))) dL_suits_916 ?_
                  refine lv_goto (tgt := 923) hx hb dL_suits_917 (by decide) ?_
                  refine lv_icmp_ne (tgt := 930) hx hb dL_suits_923 (by decide) (fun c9 => absurd hok.2 c9) (fun _ => ?_)
                  refine lv_iconst (v := 1) hx hb dL_suits_926 (by decide) ?_
                  refine lv_goto (tgt := 931) hx hb dL_suits_927 (by decide) ?_
                  refine W.widen (k := 8) (n := 342) (Nat.le_of_ble_eq_true rfl) (Nat.le_of_ble_eq_true rfl) ?_
                  exact W.zret (v := 1) (ty := .boolean) hx hb hr rfl (fun t9 ht9 hW9 => ⟨⟨1, g, rfl, ⟨rfl, by rw [hG]; exact hK⟩, ⟨by rw [hG, ht9]; exact hI.1, by rw [hG, ht9]; exact hI.2.1⟩⟩, hI.2.2.1.F ht9⟩) hI.2.2.1.2.2 dL_suits_931
              · have hG := hG.trans (if_pos c_7)
                refine lv_iload hx hb dL_suits_728 (lv_at hl 2 rfl) ?_
                refine lv_iload hx hb dL_suits_730 (lv_at hl 1 rfl) ?_
                have hG : fL_suits L act zv k = bL_suits_742 L k (jL_suits_742 L k) := hG
                refine w_join (σ := Int32) 742 (fun y742_0 H locs ls => jL_suits_742 L k = y742_0 ∧ XI A B D cy g n0 la s S L H locs ∧ lv_has ls 22 [(19, .int 1), (18, .int (L 9 (4 * (ix (L 6 (8 * k + 1)))))), (17, .int (fL_due L k)), (16, .int y44_0), (15, .int (L 6 (8 * k + 3))), (14, .int (nI k)), (0, .ref x0), (1, .int act), (2, .int zv), (3, .ref (la 0)), (4, .ref (la 1)), (5, .ref (la 2)), (6, .ref (la 3)), (7, .ref (la 4)), (8, .ref (la 5)), (9, .ref (la 6)), (10, .ref (la 7)), (11, .ref (la 8)), (12, .ref (la 9)), (13, .ref (la 11))]) (fun y742_0 => [.int y742_0]) ?_ (fun J742 => ?_)
                · intro y742_0 H locs ls ⟨hy742_0, hI, hl⟩
                  rw [hy742_0] at hG
                  refine lv_istore (lv' := [(20, .int y742_0), (19, .int 1), (18, .int (L 9 (4 * (ix (L 6 (8 * k + 1)))))), (17, .int (fL_due L k)), (16, .int y44_0), (15, .int (L 6 (8 * k + 3))), (14, .int (nI k)), (0, .ref x0), (1, .int act), (2, .int zv), (3, .ref (la 0)), (4, .ref (la 1)), (5, .ref (la 2)), (6, .ref (la 3)), (7, .ref (la 4)), (8, .ref (la 5)), (9, .ref (la 6)), (10, .ref (la 7)), (11, .ref (la 8)), (12, .ref (la 9)), (13, .ref (la 11))]) hx hb dL_suits_742 hl (by decide) rfl (fun ls hl => ?_)
                  refine lv_iload hx hb dL_suits_744 (lv_at hl 1 rfl) ?_
                  refine lv_if_eq (tgt := 777) hx hb dL_suits_746 (by decide) (fun c => absurd c (by decide : ¬ (1 : Int32) = 0)) (fun _ => ?_)
                  refine lv_iload hx hb dL_suits_749 (lv_at hl 6 rfl) ?_
                  refine lv_iload hx hb dL_suits_751 (lv_at hl 0 rfl) ?_
                  refine lv_aload_n hx hb dL_suits_753 rfl (lv_at hl 10 rfl) ?_
                  refine lv_aload hx hb dL_suits_754 (lv_at hl 11 rfl) ?_
                  refine lv_aload hx hb dL_suits_756 (lv_at hl 12 rfl) ?_
                  refine lv_aload hx hb dL_suits_758 (lv_at hl 13 rfl) ?_
                  refine lv_aload hx hb dL_suits_760 (lv_at hl 14 rfl) ?_
                  refine lv_aload hx hb dL_suits_762 (lv_at hl 15 rfl) ?_
                  refine lv_aload hx hb dL_suits_764 (lv_at hl 16 rfl) ?_
                  refine lv_aload hx hb dL_suits_766 (lv_at hl 17 rfl) ?_
                  refine lv_aload hx hb dL_suits_768 (lv_at hl 18 rfl) ?_
                  refine lv_aload hx hb dL_suits_770 (lv_at hl 19 rfl) ?_
                  refine lv_aload hx hb dL_suits_772 (lv_at hl 20 rfl) ?_
                  refine xr_callV (As := [.int (nI k), .int y742_0, .ref (la 0), .ref (la 1), .ref (la 2), .ref (la 3), .ref (la 4), .ref (la 5), .ref (la 6), .ref (la 7), .ref (la 8), .ref (la 9), .ref (la 11)]) (rest := []) hC hK hI (qL_wins l B D cy la hK.2.1 L hV k (by omega) rfl y742_0) (va_cwS 13 hts gL_suits_L_wins rfl rfl rfl (by decide +kernel) ⟨Nat.le_of_ble_eq_true rfl, Nat.le_of_ble_eq_true rfl⟩) rfl hl.1 rfl (Nat.le_of_ble_eq_true rfl) dL_suits_774 ⟨Nat.le_of_ble_eq_true rfl, Nat.le_of_ble_eq_true rfl⟩ (fun H locs hI => ?_)
                  refine lv_aload_n hx hb dL_suits_777 rfl (lv_at hl 7 rfl) ?_
                  refine lv_bipush (v := 8) hx hb dL_suits_778 (by decide) ?_
                  refine lv_iload hx hb dL_suits_780 (lv_at hl 6 rfl) ?_
                  refine lv_iconst (v := 0) hx hb dL_suits_782 (by decide) ?_
                  refine lv_iconst (v := 0) hx hb dL_suits_783 (by decide) ?_
                  have hok : ((xq7 S 8 (nI k) 0 0).2.1 = 0 ∨ (xq7 S 8 (nI k) 0 0).2.1 = 3) ∧ (if (xq7 S 8 (nI k) 0 0).2.1 = 0 then (xq7 S 8 (nI k) 0 0).1 else -1003) = y742_0 := XOK.c (by have h9 := hOK; rw [hG] at h9; exact h9) (by decide)
                  refine xr_cs (As := [.ref x0, .int 8, .int (nI k), .int 0, .int 0]) (rest := []) 8 (nI k) 0 0 hC hK hI (qC_judge l hC.2.1 A D cy g hK.1 S e0 mi n0 hK.2.2.2.1 hK.v hK.i x0 hK.2.2.2.2.2.2.2 (nI k) 0 0 hok.1) (vx_cwSW 5 hts gL_suits_L_calls rfl rfl rfl (by decide +kernel) ⟨Nat.le_of_ble_eq_true rfl, Nat.le_of_ble_eq_true rfl⟩) rfl hl.1 rfl (Nat.le_of_ble_eq_true rfl) dL_suits_784 ⟨Nat.le_of_ble_eq_true rfl, Nat.le_of_ble_eq_true rfl⟩ (fun g H locs hK hI => ?_)
                  refine lv_iload hx hb dL_suits_787 (lv_at hl 1 rfl) ?_
                  refine lv_if_eq (tgt := 797) hx hb dL_suits_789 (by decide) (fun c => absurd c (by decide : ¬ (1 : Int32) = 0)) (fun _ => ?_)
                  refine lv_iload hx hb dL_suits_792 (lv_at hl 0 rfl) ?_
                  refine lv_goto (tgt := 800) hx hb dL_suits_794 (by decide) ?_
                  refine lv_icmp_ne (tgt := 807) hx hb dL_suits_800 (by decide) (fun c9 => absurd hok.2 c9) (fun _ => ?_)
                  refine lv_iconst (v := 1) hx hb dL_suits_803 (by decide) ?_
                  refine lv_goto (tgt := 808) hx hb dL_suits_804 (by decide) ?_
                  refine W.widen (k := 8) (n := 342) (Nat.le_of_ble_eq_true rfl) (Nat.le_of_ble_eq_true rfl) ?_
                  exact W.zret (v := 1) (ty := .boolean) hx hb hr rfl (fun t9 ht9 hW9 => ⟨⟨1, g, rfl, ⟨rfl, by rw [hG]; exact hK⟩, ⟨by rw [hG, ht9]; exact hI.1, by rw [hG, ht9]; exact hI.2.1⟩⟩, hI.2.2.1.F ht9⟩) hI.2.2.1.2.2 dL_suits_808
                · have hB742 : jL_suits_742 L k = jL_suits_742 L k := rfl
                  refine lv_icmp_ge (tgt := 740) hx hb dL_suits_732 (by decide) (fun c_9 => ?_) (fun c_9 => ?_)
                  · have hB742 := hB742.trans (if_pos c_9)
                    refine lv_iload hx hb dL_suits_740 (lv_at hl 1 rfl) ?_
                    exact J742 (L 9 (4 * (ix (L 6 (8 * k + 1))))) _ _ ls ⟨hB742, hI, lv_sub hl [0, 1, 2, 3, 4, 5, 6, 7, 8, 9, 10, 11, 12, 13, 14, 15, 16, 17, 18, 19] rfl⟩
                  · have hB742 := hB742.trans (if_neg c_9)
                    refine lv_iload hx hb dL_suits_735 (lv_at hl 2 rfl) ?_
                    refine lv_goto (tgt := 742) hx hb dL_suits_737 (by decide) ?_
                    exact J742 (fL_due L k) _ _ ls ⟨hB742, hI, lv_sub hl [0, 1, 2, 3, 4, 5, 6, 7, 8, 9, 10, 11, 12, 13, 14, 15, 16, 17, 18, 19] rfl⟩
            · have hG := hG.trans (if_neg c_6)
              refine lv_iload hx hb dL_suits_710 (lv_at hl 3 rfl) ?_
              refine lv_iconst (v := 2) hx hb dL_suits_712 (by decide) ?_
              refine lv_icmp_ne (tgt := 720) hx hb dL_suits_713 (by decide) (fun c_10 => ?_) (fun c_10 => ?_)
              · have hG := hG.trans (if_neg c_10)
                refine lv_iconst (v := 0) hx hb dL_suits_720 (by decide) ?_
                refine lv_istore (lv' := [(19, .int 0), (18, .int (L 9 (4 * (ix (L 6 (8 * k + 1)))))), (17, .int (fL_due L k)), (16, .int y44_0), (15, .int (L 6 (8 * k + 3))), (14, .int (nI k)), (0, .ref x0), (1, .int act), (2, .int zv), (3, .ref (la 0)), (4, .ref (la 1)), (5, .ref (la 2)), (6, .ref (la 3)), (7, .ref (la 4)), (8, .ref (la 5)), (9, .ref (la 6)), (10, .ref (la 7)), (11, .ref (la 8)), (12, .ref (la 9)), (13, .ref (la 11))]) hx hb dL_suits_721 hl (by decide) rfl (fun ls hl => ?_)
                refine lv_iload_n hx hb dL_suits_723 rfl (lv_at hl 7 rfl) ?_
                refine lv_iconst (v := 4) hx hb dL_suits_724 (by decide) ?_
                refine lv_icmp_ne (tgt := 809) hx hb dL_suits_725 (by decide) (fun c_11 => ?_) (fun c_11 => ?_)
                · have hG := hG.trans (if_neg c_11)
                  refine lv_iload_n hx hb dL_suits_809 rfl (lv_at hl 8 rfl) ?_
                  refine lv_iconst (v := 4) hx hb dL_suits_810 (by decide) ?_
                  refine lv_ishr hx hb dL_suits_811 ?_
                  refine lv_iload hx hb dL_suits_812 (lv_at hl 1 rfl) ?_
                  refine lv_iconst (v := 2) hx hb dL_suits_814 (by decide) ?_
                  refine lv_iadd hx hb dL_suits_815 ?_
                  refine lv_iload hx hb dL_suits_816 (lv_at hl 2 rfl) ?_
                  refine lv_iconst (v := 4) hx hb dL_suits_818 (by decide) ?_
                  refine lv_idiv hx hb dL_suits_819 (by decide) ?_
                  refine lv_iadd hx hb dL_suits_820 ?_
                  refine xr_callS (As := [.int (zv >>> ((4 : Int32) &&& 31)), .int (((L 9 (4 * (ix (L 6 (8 * k + 1))))) + 2) + ((fL_due L k) / 4))]) (rest := []) hC hI (qL_low l (zv >>> ((4 : Int32) &&& 31)) (((L 9 (4 * (ix (L 6 (8 * k + 1))))) + 2) + ((fL_due L k) / 4)) hmod) (va_cwS 2 hts gL_suits_L_low rfl rfl rfl (by decide +kernel) ⟨Nat.le_of_ble_eq_true rfl, Nat.le_of_ble_eq_true rfl⟩) rfl hl.1 rfl (Nat.le_of_ble_eq_true rfl) dL_suits_821 ⟨Nat.le_of_ble_eq_true rfl, Nat.le_of_ble_eq_true rfl⟩ (fun H locs hI => ?_)
                  refine lv_istore (lv' := [(20, .int (fL_low (zv >>> ((4 : Int32) &&& 31)) (((L 9 (4 * (ix (L 6 (8 * k + 1))))) + 2) + ((fL_due L k) / 4)))), (19, .int 0), (18, .int (L 9 (4 * (ix (L 6 (8 * k + 1)))))), (17, .int (fL_due L k)), (16, .int y44_0), (15, .int (L 6 (8 * k + 3))), (14, .int (nI k)), (0, .ref x0), (1, .int act), (2, .int zv), (3, .ref (la 0)), (4, .ref (la 1)), (5, .ref (la 2)), (6, .ref (la 3)), (7, .ref (la 4)), (8, .ref (la 5)), (9, .ref (la 6)), (10, .ref (la 7)), (11, .ref (la 8)), (12, .ref (la 9)), (13, .ref (la 11))]) hx hb dL_suits_824 hl (by decide) rfl (fun ls hl => ?_)
                  refine lv_iload hx hb dL_suits_826 (lv_at hl 1 rfl) ?_
                  refine lv_if_eq (tgt := 857) hx hb dL_suits_828 (by decide) (fun _ => ?_) (fun c => absurd (by decide : (0 : Int32) = 0) c)
                  refine lv_iconst (v := 0) hx hb dL_suits_857 (by decide) ?_
                  refine lv_istore (lv' := [(21, .int 0), (20, .int (fL_low (zv >>> ((4 : Int32) &&& 31)) (((L 9 (4 * (ix (L 6 (8 * k + 1))))) + 2) + ((fL_due L k) / 4)))), (19, .int 0), (18, .int (L 9 (4 * (ix (L 6 (8 * k + 1)))))), (17, .int (fL_due L k)), (16, .int y44_0), (15, .int (L 6 (8 * k + 3))), (14, .int (nI k)), (0, .ref x0), (1, .int act), (2, .int zv), (3, .ref (la 0)), (4, .ref (la 1)), (5, .ref (la 2)), (6, .ref (la 3)), (7, .ref (la 4)), (8, .ref (la 5)), (9, .ref (la 6)), (10, .ref (la 7)), (11, .ref (la 8)), (12, .ref (la 9)), (13, .ref (la 11))]) hx hb dL_suits_858 hl (by decide) rfl (fun ls hl => ?_)
                  refine lv_iload hx hb dL_suits_860 (lv_at hl 0 rfl) ?_
                  refine lv_if_eq (tgt := 893) hx hb dL_suits_862 (by decide) (fun _ => ?_) (fun c => absurd (by decide : (0 : Int32) = 0) c)
                  refine lv_aload_n hx hb dL_suits_893 rfl (lv_at hl 8 rfl) ?_
                  refine lv_bipush (v := 9) hx hb dL_suits_894 (by decide) ?_
                  refine lv_iload hx hb dL_suits_896 (lv_at hl 7 rfl) ?_
                  refine lv_iload hx hb dL_suits_898 (lv_at hl 1 rfl) ?_
                  refine lv_iconst (v := 0) hx hb dL_suits_900 (by decide) ?_
                  have hok : ((xq7 S 9 (nI k) (fL_low (zv >>> ((4 : Int32) &&& 31)) (((L 9 (4 * (ix (L 6 (8 * k + 1))))) + 2) + ((fL_due L k) / 4))) 0).2.1 = 0 ∨ (xq7 S 9 (nI k) (fL_low (zv >>> ((4 : Int32) &&& 31)) (((L 9 (4 * (ix (L 6 (8 * k + 1))))) + 2) + ((fL_due L k) / 4))) 0).2.1 = 3) ∧ (if (xq7 S 9 (nI k) (fL_low (zv >>> ((4 : Int32) &&& 31)) (((L 9 (4 * (ix (L 6 (8 * k + 1))))) + 2) + ((fL_due L k) / 4))) 0).2.1 = 0 then (xq7 S 9 (nI k) (fL_low (zv >>> ((4 : Int32) &&& 31)) (((L 9 (4 * (ix (L 6 (8 * k + 1))))) + 2) + ((fL_due L k) / 4))) 0).1 else -1003) = (-1003) := XOK.c (by have h9 := hOK; rw [hG] at h9; exact h9) (by decide)
                  refine xr_cs (As := [.ref x0, .int 9, .int (nI k), .int (fL_low (zv >>> ((4 : Int32) &&& 31)) (((L 9 (4 * (ix (L 6 (8 * k + 1))))) + 2) + ((fL_due L k) / 4))), .int 0]) (rest := []) 9 (nI k) (fL_low (zv >>> ((4 : Int32) &&& 31)) (((L 9 (4 * (ix (L 6 (8 * k + 1))))) + 2) + ((fL_due L k) / 4))) 0 hC hK hI (qC_settle l hC.2.1 A D cy g hK.1 S e0 mi n0 hK.2.2.2.1 hK.v hK.i x0 hK.2.2.2.2.2.2.2 (nI k) (fL_low (zv >>> ((4 : Int32) &&& 31)) (((L 9 (4 * (ix (L 6 (8 * k + 1))))) + 2) + ((fL_due L k) / 4))) 0 hok.1) (vx_cwSW 5 hts gL_suits_L_calls rfl rfl rfl (by decide +kernel) ⟨Nat.le_of_ble_eq_true rfl, Nat.le_of_ble_eq_true rfl⟩) rfl hl.1 rfl (Nat.le_of_ble_eq_true rfl) dL_suits_901 ⟨Nat.le_of_ble_eq_true rfl, Nat.le_of_ble_eq_true rfl⟩ (fun g H locs hK hI => ?_)
                  refine lv_iload hx hb dL_suits_904 (lv_at hl 0 rfl) ?_
                  refine lv_if_eq (tgt := 920) hx hb dL_suits_906 (by decide) (fun _ => ?_) (fun c => absurd (by decide : (0 : Int32) = 0) c)
                  refine lv_sipush (v := (-1003)) hx hb dL_suits_920 (by decide) ?_
                  refine lv_icmp_ne (tgt := 930) hx hb dL_suits_923 (by decide) (fun c9 => absurd hok.2 c9) (fun _ => ?_)
                  refine lv_iconst (v := 1) hx hb dL_suits_926 (by decide) ?_
                  refine lv_goto (tgt := 931) hx hb dL_suits_927 (by decide) ?_
                  refine W.widen (k := 8) (n := 342) (Nat.le_of_ble_eq_true rfl) (Nat.le_of_ble_eq_true rfl) ?_
                  exact W.zret (v := 1) (ty := .boolean) hx hb hr rfl (fun t9 ht9 hW9 => ⟨⟨1, g, rfl, ⟨rfl, by rw [hG]; exact hK⟩, ⟨by rw [hG, ht9]; exact hI.1, by rw [hG, ht9]; exact hI.2.1⟩⟩, hI.2.2.1.F ht9⟩) hI.2.2.1.2.2 dL_suits_931
                · have hG := hG.trans (if_pos c_11)
                  refine lv_iload hx hb dL_suits_728 (lv_at hl 2 rfl) ?_
                  refine lv_iload hx hb dL_suits_730 (lv_at hl 1 rfl) ?_
                  have hG : fL_suits L act zv k = bL_suits_742_v2 L k (jL_suits_742 L k) := hG
                  refine w_join (σ := Int32) 742 (fun y742_0 H locs ls => jL_suits_742 L k = y742_0 ∧ XI A B D cy g n0 la s S L H locs ∧ lv_has ls 22 [(19, .int 0), (18, .int (L 9 (4 * (ix (L 6 (8 * k + 1)))))), (17, .int (fL_due L k)), (16, .int y44_0), (15, .int (L 6 (8 * k + 3))), (14, .int (nI k)), (0, .ref x0), (1, .int act), (2, .int zv), (3, .ref (la 0)), (4, .ref (la 1)), (5, .ref (la 2)), (6, .ref (la 3)), (7, .ref (la 4)), (8, .ref (la 5)), (9, .ref (la 6)), (10, .ref (la 7)), (11, .ref (la 8)), (12, .ref (la 9)), (13, .ref (la 11))]) (fun y742_0 => [.int y742_0]) ?_ (fun J742 => ?_)
                  · intro y742_0 H locs ls ⟨hy742_0, hI, hl⟩
                    rw [hy742_0] at hG
                    refine lv_istore (lv' := [(20, .int y742_0), (19, .int 0), (18, .int (L 9 (4 * (ix (L 6 (8 * k + 1)))))), (17, .int (fL_due L k)), (16, .int y44_0), (15, .int (L 6 (8 * k + 3))), (14, .int (nI k)), (0, .ref x0), (1, .int act), (2, .int zv), (3, .ref (la 0)), (4, .ref (la 1)), (5, .ref (la 2)), (6, .ref (la 3)), (7, .ref (la 4)), (8, .ref (la 5)), (9, .ref (la 6)), (10, .ref (la 7)), (11, .ref (la 8)), (12, .ref (la 9)), (13, .ref (la 11))]) hx hb dL_suits_742 hl (by decide) rfl (fun ls hl => ?_)
                    refine lv_iload hx hb dL_suits_744 (lv_at hl 1 rfl) ?_
                    refine lv_if_eq (tgt := 777) hx hb dL_suits_746 (by decide) (fun _ => ?_) (fun c => absurd (by decide : (0 : Int32) = 0) c)
                    refine lv_aload_n hx hb dL_suits_777 rfl (lv_at hl 7 rfl) ?_
                    refine lv_bipush (v := 8) hx hb dL_suits_778 (by decide) ?_
                    refine lv_iload hx hb dL_suits_780 (lv_at hl 6 rfl) ?_
                    refine lv_iconst (v := 0) hx hb dL_suits_782 (by decide) ?_
                    refine lv_iconst (v := 0) hx hb dL_suits_783 (by decide) ?_
                    have hok : ((xq7 S 8 (nI k) 0 0).2.1 = 0 ∨ (xq7 S 8 (nI k) 0 0).2.1 = 3) ∧ (if (xq7 S 8 (nI k) 0 0).2.1 = 0 then (xq7 S 8 (nI k) 0 0).1 else -1003) = (-1003) := XOK.c (by have h9 := hOK; rw [hG] at h9; exact h9) (by decide)
                    refine xr_cs (As := [.ref x0, .int 8, .int (nI k), .int 0, .int 0]) (rest := []) 8 (nI k) 0 0 hC hK hI (qC_judge l hC.2.1 A D cy g hK.1 S e0 mi n0 hK.2.2.2.1 hK.v hK.i x0 hK.2.2.2.2.2.2.2 (nI k) 0 0 hok.1) (vx_cwSW 5 hts gL_suits_L_calls rfl rfl rfl (by decide +kernel) ⟨Nat.le_of_ble_eq_true rfl, Nat.le_of_ble_eq_true rfl⟩) rfl hl.1 rfl (Nat.le_of_ble_eq_true rfl) dL_suits_784 ⟨Nat.le_of_ble_eq_true rfl, Nat.le_of_ble_eq_true rfl⟩ (fun g H locs hK hI => ?_)
                    refine lv_iload hx hb dL_suits_787 (lv_at hl 1 rfl) ?_
                    refine lv_if_eq (tgt := 797) hx hb dL_suits_789 (by decide) (fun _ => ?_) (fun c => absurd (by decide : (0 : Int32) = 0) c)
                    refine lv_sipush (v := (-1003)) hx hb dL_suits_797 (by decide) ?_
                    refine lv_icmp_ne (tgt := 807) hx hb dL_suits_800 (by decide) (fun c9 => absurd hok.2 c9) (fun _ => ?_)
                    refine lv_iconst (v := 1) hx hb dL_suits_803 (by decide) ?_
                    refine lv_goto (tgt := 808) hx hb dL_suits_804 (by decide) ?_
                    refine W.widen (k := 8) (n := 342) (Nat.le_of_ble_eq_true rfl) (Nat.le_of_ble_eq_true rfl) ?_
                    exact W.zret (v := 1) (ty := .boolean) hx hb hr rfl (fun t9 ht9 hW9 => ⟨⟨1, g, rfl, ⟨rfl, by rw [hG]; exact hK⟩, ⟨by rw [hG, ht9]; exact hI.1, by rw [hG, ht9]; exact hI.2.1⟩⟩, hI.2.2.1.F ht9⟩) hI.2.2.1.2.2 dL_suits_808
                  · have hB742 : jL_suits_742 L k = jL_suits_742 L k := rfl
                    refine lv_icmp_ge (tgt := 740) hx hb dL_suits_732 (by decide) (fun c_12 => ?_) (fun c_12 => ?_)
                    · have hB742 := hB742.trans (if_pos c_12)
                      refine lv_iload hx hb dL_suits_740 (lv_at hl 1 rfl) ?_
                      exact J742 (L 9 (4 * (ix (L 6 (8 * k + 1))))) _ _ ls ⟨hB742, hI, lv_sub hl [0, 1, 2, 3, 4, 5, 6, 7, 8, 9, 10, 11, 12, 13, 14, 15, 16, 17, 18, 19] rfl⟩
                    · have hB742 := hB742.trans (if_neg c_12)
                      refine lv_iload hx hb dL_suits_735 (lv_at hl 2 rfl) ?_
                      refine lv_goto (tgt := 742) hx hb dL_suits_737 (by decide) ?_
                      exact J742 (fL_due L k) _ _ ls ⟨hB742, hI, lv_sub hl [0, 1, 2, 3, 4, 5, 6, 7, 8, 9, 10, 11, 12, 13, 14, 15, 16, 17, 18, 19] rfl⟩
              · have hG := hG.trans (if_pos c_10)
                refine lv_iconst (v := 1) hx hb dL_suits_716 (by decide) ?_
                refine lv_goto (tgt := 721) hx hb dL_suits_717 (by decide) ?_
                refine lv_istore (lv' := [(19, .int 1), (18, .int (L 9 (4 * (ix (L 6 (8 * k + 1)))))), (17, .int (fL_due L k)), (16, .int y44_0), (15, .int (L 6 (8 * k + 3))), (14, .int (nI k)), (0, .ref x0), (1, .int act), (2, .int zv), (3, .ref (la 0)), (4, .ref (la 1)), (5, .ref (la 2)), (6, .ref (la 3)), (7, .ref (la 4)), (8, .ref (la 5)), (9, .ref (la 6)), (10, .ref (la 7)), (11, .ref (la 8)), (12, .ref (la 9)), (13, .ref (la 11))]) hx hb dL_suits_721 hl (by decide) rfl (fun ls hl => ?_)
                refine lv_iload_n hx hb dL_suits_723 rfl (lv_at hl 7 rfl) ?_
                refine lv_iconst (v := 4) hx hb dL_suits_724 (by decide) ?_
                refine lv_icmp_ne (tgt := 809) hx hb dL_suits_725 (by decide) (fun c_13 => ?_) (fun c_13 => ?_)
                · have hG := hG.trans (if_neg c_13)
                  refine lv_iload_n hx hb dL_suits_809 rfl (lv_at hl 8 rfl) ?_
                  refine lv_iconst (v := 4) hx hb dL_suits_810 (by decide) ?_
                  refine lv_ishr hx hb dL_suits_811 ?_
                  refine lv_iload hx hb dL_suits_812 (lv_at hl 1 rfl) ?_
                  refine lv_iconst (v := 2) hx hb dL_suits_814 (by decide) ?_
                  refine lv_iadd hx hb dL_suits_815 ?_
                  refine lv_iload hx hb dL_suits_816 (lv_at hl 2 rfl) ?_
                  refine lv_iconst (v := 4) hx hb dL_suits_818 (by decide) ?_
                  refine lv_idiv hx hb dL_suits_819 (by decide) ?_
                  refine lv_iadd hx hb dL_suits_820 ?_
                  refine xr_callS (As := [.int (zv >>> ((4 : Int32) &&& 31)), .int (((L 9 (4 * (ix (L 6 (8 * k + 1))))) + 2) + ((fL_due L k) / 4))]) (rest := []) hC hI (qL_low l (zv >>> ((4 : Int32) &&& 31)) (((L 9 (4 * (ix (L 6 (8 * k + 1))))) + 2) + ((fL_due L k) / 4)) hmod) (va_cwS 2 hts gL_suits_L_low rfl rfl rfl (by decide +kernel) ⟨Nat.le_of_ble_eq_true rfl, Nat.le_of_ble_eq_true rfl⟩) rfl hl.1 rfl (Nat.le_of_ble_eq_true rfl) dL_suits_821 ⟨Nat.le_of_ble_eq_true rfl, Nat.le_of_ble_eq_true rfl⟩ (fun H locs hI => ?_)
                  refine lv_istore (lv' := [(20, .int (fL_low (zv >>> ((4 : Int32) &&& 31)) (((L 9 (4 * (ix (L 6 (8 * k + 1))))) + 2) + ((fL_due L k) / 4)))), (19, .int 1), (18, .int (L 9 (4 * (ix (L 6 (8 * k + 1)))))), (17, .int (fL_due L k)), (16, .int y44_0), (15, .int (L 6 (8 * k + 3))), (14, .int (nI k)), (0, .ref x0), (1, .int act), (2, .int zv), (3, .ref (la 0)), (4, .ref (la 1)), (5, .ref (la 2)), (6, .ref (la 3)), (7, .ref (la 4)), (8, .ref (la 5)), (9, .ref (la 6)), (10, .ref (la 7)), (11, .ref (la 8)), (12, .ref (la 9)), (13, .ref (la 11))]) hx hb dL_suits_824 hl (by decide) rfl (fun ls hl => ?_)
                  refine lv_iload hx hb dL_suits_826 (lv_at hl 1 rfl) ?_
                  refine lv_if_eq (tgt := 857) hx hb dL_suits_828 (by decide) (fun c => absurd c (by decide : ¬ (1 : Int32) = 0)) (fun _ => ?_)
                  refine lv_iload hx hb dL_suits_831 (lv_at hl 0 rfl) ?_
                  refine lv_iload hx hb dL_suits_833 (lv_at hl 2 rfl) ?_
                  refine lv_icmp_gt (tgt := 857) hx hb dL_suits_835 (by decide) (fun c_14 => ?_) (fun c_14 => ?_)
                  · have hG := hG.trans (if_pos c_14)
                    refine lv_iconst (v := 0) hx hb dL_suits_857 (by decide) ?_
                    refine lv_istore (lv' := [(21, .int 0), (20, .int (fL_low (zv >>> ((4 : Int32) &&& 31)) (((L 9 (4 * (ix (L 6 (8 * k + 1))))) + 2) + ((fL_due L k) / 4)))), (19, .int 1), (18, .int (L 9 (4 * (ix (L 6 (8 * k + 1)))))), (17, .int (fL_due L k)), (16, .int y44_0), (15, .int (L 6 (8 * k + 3))), (14, .int (nI k)), (0, .ref x0), (1, .int act), (2, .int zv), (3, .ref (la 0)), (4, .ref (la 1)), (5, .ref (la 2)), (6, .ref (la 3)), (7, .ref (la 4)), (8, .ref (la 5)), (9, .ref (la 6)), (10, .ref (la 7)), (11, .ref (la 8)), (12, .ref (la 9)), (13, .ref (la 11))]) hx hb dL_suits_858 hl (by decide) rfl (fun ls hl => ?_)
                    refine lv_iload hx hb dL_suits_860 (lv_at hl 0 rfl) ?_
                    refine lv_if_eq (tgt := 893) hx hb dL_suits_862 (by decide) (fun _ => ?_) (fun c => absurd (by decide : (0 : Int32) = 0) c)
                    refine lv_aload_n hx hb dL_suits_893 rfl (lv_at hl 8 rfl) ?_
                    refine lv_bipush (v := 9) hx hb dL_suits_894 (by decide) ?_
                    refine lv_iload hx hb dL_suits_896 (lv_at hl 7 rfl) ?_
                    refine lv_iload hx hb dL_suits_898 (lv_at hl 1 rfl) ?_
                    refine lv_iconst (v := 0) hx hb dL_suits_900 (by decide) ?_
                    have hok : ((xq7 S 9 (nI k) (fL_low (zv >>> ((4 : Int32) &&& 31)) (((L 9 (4 * (ix (L 6 (8 * k + 1))))) + 2) + ((fL_due L k) / 4))) 0).2.1 = 0 ∨ (xq7 S 9 (nI k) (fL_low (zv >>> ((4 : Int32) &&& 31)) (((L 9 (4 * (ix (L 6 (8 * k + 1))))) + 2) + ((fL_due L k) / 4))) 0).2.1 = 3) ∧ (if (xq7 S 9 (nI k) (fL_low (zv >>> ((4 : Int32) &&& 31)) (((L 9 (4 * (ix (L 6 (8 * k + 1))))) + 2) + ((fL_due L k) / 4))) 0).2.1 = 0 then (xq7 S 9 (nI k) (fL_low (zv >>> ((4 : Int32) &&& 31)) (((L 9 (4 * (ix (L 6 (8 * k + 1))))) + 2) + ((fL_due L k) / 4))) 0).1 else -1003) = (-1003) := XOK.c (by have h9 := hOK; rw [hG] at h9; exact h9) (by decide)
                    refine xr_cs (As := [.ref x0, .int 9, .int (nI k), .int (fL_low (zv >>> ((4 : Int32) &&& 31)) (((L 9 (4 * (ix (L 6 (8 * k + 1))))) + 2) + ((fL_due L k) / 4))), .int 0]) (rest := []) 9 (nI k) (fL_low (zv >>> ((4 : Int32) &&& 31)) (((L 9 (4 * (ix (L 6 (8 * k + 1))))) + 2) + ((fL_due L k) / 4))) 0 hC hK hI (qC_settle l hC.2.1 A D cy g hK.1 S e0 mi n0 hK.2.2.2.1 hK.v hK.i x0 hK.2.2.2.2.2.2.2 (nI k) (fL_low (zv >>> ((4 : Int32) &&& 31)) (((L 9 (4 * (ix (L 6 (8 * k + 1))))) + 2) + ((fL_due L k) / 4))) 0 hok.1) (vx_cwSW 5 hts gL_suits_L_calls rfl rfl rfl (by decide +kernel) ⟨Nat.le_of_ble_eq_true rfl, Nat.le_of_ble_eq_true rfl⟩) rfl hl.1 rfl (Nat.le_of_ble_eq_true rfl) dL_suits_901 ⟨Nat.le_of_ble_eq_true rfl, Nat.le_of_ble_eq_true rfl⟩ (fun g H locs hK hI => ?_)
                    refine lv_iload hx hb dL_suits_904 (lv_at hl 0 rfl) ?_
                    refine lv_if_eq (tgt := 920) hx hb dL_suits_906 (by decide) (fun _ => ?_) (fun c => absurd (by decide : (0 : Int32) = 0) c)
                    refine lv_sipush (v := (-1003)) hx hb dL_suits_920 (by decide) ?_
                    refine lv_icmp_ne (tgt := 930) hx hb dL_suits_923 (by decide) (fun c9 => absurd hok.2 c9) (fun _ => ?_)
                    refine lv_iconst (v := 1) hx hb dL_suits_926 (by decide) ?_
                    refine lv_goto (tgt := 931) hx hb dL_suits_927 (by decide) ?_
                    refine W.widen (k := 8) (n := 342) (Nat.le_of_ble_eq_true rfl) (Nat.le_of_ble_eq_true rfl) ?_
                    exact W.zret (v := 1) (ty := .boolean) hx hb hr rfl (fun t9 ht9 hW9 => ⟨⟨1, g, rfl, ⟨rfl, by rw [hG]; exact hK⟩, ⟨by rw [hG, ht9]; exact hI.1, by rw [hG, ht9]; exact hI.2.1⟩⟩, hI.2.2.1.F ht9⟩) hI.2.2.1.2.2 dL_suits_931
                  · have hG := hG.trans (if_neg c_14)
                    refine lv_iload hx hb dL_suits_838 (lv_at hl 5 rfl) ?_
                    refine lv_iconst (v := 1) hx hb dL_suits_840 (by decide) ?_
                    refine lv_icmp_eq (tgt := 853) hx hb dL_suits_841 (by decide) (fun c => absurd c c_6) (fun _ => ?_)
                    refine lv_iconst (v := 5) hx hb dL_suits_844 (by decide) ?_
                    refine lv_iload hx hb dL_suits_845 (lv_at hl 0 rfl) ?_
                    refine lv_imul hx hb dL_suits_847 ?_
                    refine lv_iload hx hb dL_suits_848 (lv_at hl 3 rfl) ?_
                    refine lv_icmp_lt (tgt := 857) hx hb dL_suits_850 (by decide) (fun c_15 => ?_) (fun c_15 => ?_)
                    · have hG := hG.trans (if_pos c_15)
                      refine lv_iconst (v := 0) hx hb dL_suits_857 (by decide) ?_
                      refine lv_istore (lv' := [(21, .int 0), (20, .int (fL_low (zv >>> ((4 : Int32) &&& 31)) (((L 9 (4 * (ix (L 6 (8 * k + 1))))) + 2) + ((fL_due L k) / 4)))), (19, .int 1), (18, .int (L 9 (4 * (ix (L 6 (8 * k + 1)))))), (17, .int (fL_due L k)), (16, .int y44_0), (15, .int (L 6 (8 * k + 3))), (14, .int (nI k)), (0, .ref x0), (1, .int act), (2, .int zv), (3, .ref (la 0)), (4, .ref (la 1)), (5, .ref (la 2)), (6, .ref (la 3)), (7, .ref (la 4)), (8, .ref (la 5)), (9, .ref (la 6)), (10, .ref (la 7)), (11, .ref (la 8)), (12, .ref (la 9)), (13, .ref (la 11))]) hx hb dL_suits_858 hl (by decide) rfl (fun ls hl => ?_)
                      refine lv_iload hx hb dL_suits_860 (lv_at hl 0 rfl) ?_
                      refine lv_if_eq (tgt := 893) hx hb dL_suits_862 (by decide) (fun _ => ?_) (fun c => absurd (by decide : (0 : Int32) = 0) c)
                      refine lv_aload_n hx hb dL_suits_893 rfl (lv_at hl 8 rfl) ?_
                      refine lv_bipush (v := 9) hx hb dL_suits_894 (by decide) ?_
                      refine lv_iload hx hb dL_suits_896 (lv_at hl 7 rfl) ?_
                      refine lv_iload hx hb dL_suits_898 (lv_at hl 1 rfl) ?_
                      refine lv_iconst (v := 0) hx hb dL_suits_900 (by decide) ?_
                      have hok : ((xq7 S 9 (nI k) (fL_low (zv >>> ((4 : Int32) &&& 31)) (((L 9 (4 * (ix (L 6 (8 * k + 1))))) + 2) + ((fL_due L k) / 4))) 0).2.1 = 0 ∨ (xq7 S 9 (nI k) (fL_low (zv >>> ((4 : Int32) &&& 31)) (((L 9 (4 * (ix (L 6 (8 * k + 1))))) + 2) + ((fL_due L k) / 4))) 0).2.1 = 3) ∧ (if (xq7 S 9 (nI k) (fL_low (zv >>> ((4 : Int32) &&& 31)) (((L 9 (4 * (ix (L 6 (8 * k + 1))))) + 2) + ((fL_due L k) / 4))) 0).2.1 = 0 then (xq7 S 9 (nI k) (fL_low (zv >>> ((4 : Int32) &&& 31)) (((L 9 (4 * (ix (L 6 (8 * k + 1))))) + 2) + ((fL_due L k) / 4))) 0).1 else -1003) = (-1003) := XOK.c (by have h9 := hOK; rw [hG] at h9; exact h9) (by decide)
                      refine xr_cs (As := [.ref x0, .int 9, .int (nI k), .int (fL_low (zv >>> ((4 : Int32) &&& 31)) (((L 9 (4 * (ix (L 6 (8 * k + 1))))) + 2) + ((fL_due L k) / 4))), .int 0]) (rest := []) 9 (nI k) (fL_low (zv >>> ((4 : Int32) &&& 31)) (((L 9 (4 * (ix (L 6 (8 * k + 1))))) + 2) + ((fL_due L k) / 4))) 0 hC hK hI (qC_settle l hC.2.1 A D cy g hK.1 S e0 mi n0 hK.2.2.2.1 hK.v hK.i x0 hK.2.2.2.2.2.2.2 (nI k) (fL_low (zv >>> ((4 : Int32) &&& 31)) (((L 9 (4 * (ix (L 6 (8 * k + 1))))) + 2) + ((fL_due L k) / 4))) 0 hok.1) (vx_cwSW 5 hts gL_suits_L_calls rfl rfl rfl (by decide +kernel) ⟨Nat.le_of_ble_eq_true rfl, Nat.le_of_ble_eq_true rfl⟩) rfl hl.1 rfl (Nat.le_of_ble_eq_true rfl) dL_suits_901 ⟨Nat.le_of_ble_eq_true rfl, Nat.le_of_ble_eq_true rfl⟩ (fun g H locs hK hI => ?_)
                      refine lv_iload hx hb dL_suits_904 (lv_at hl 0 rfl) ?_
                      refine lv_if_eq (tgt := 920) hx hb dL_suits_906 (by decide) (fun _ => ?_) (fun c => absurd (by decide : (0 : Int32) = 0) c)
                      refine lv_sipush (v := (-1003)) hx hb dL_suits_920 (by decide) ?_
                      refine lv_icmp_ne (tgt := 930) hx hb dL_suits_923 (by decide) (fun c9 => absurd hok.2 c9) (fun _ => ?_)
                      refine lv_iconst (v := 1) hx hb dL_suits_926 (by decide) ?_
                      refine lv_goto (tgt := 931) hx hb dL_suits_927 (by decide) ?_
                      refine W.widen (k := 8) (n := 342) (Nat.le_of_ble_eq_true rfl) (Nat.le_of_ble_eq_true rfl) ?_
                      exact W.zret (v := 1) (ty := .boolean) hx hb hr rfl (fun t9 ht9 hW9 => ⟨⟨1, g, rfl, ⟨rfl, by rw [hG]; exact hK⟩, ⟨by rw [hG, ht9]; exact hI.1, by rw [hG, ht9]; exact hI.2.1⟩⟩, hI.2.2.1.F ht9⟩) hI.2.2.1.2.2 dL_suits_931
                    · have hG := hG.trans (if_neg c_15)
                      refine lv_iconst (v := 1) hx hb dL_suits_853 (by decide) ?_
                      refine lv_goto (tgt := 858) hx hb dL_suits_854 (by decide) ?_
                      refine lv_istore (lv' := [(21, .int 1), (20, .int (fL_low (zv >>> ((4 : Int32) &&& 31)) (((L 9 (4 * (ix (L 6 (8 * k + 1))))) + 2) + ((fL_due L k) / 4)))), (19, .int 1), (18, .int (L 9 (4 * (ix (L 6 (8 * k + 1)))))), (17, .int (fL_due L k)), (16, .int y44_0), (15, .int (L 6 (8 * k + 3))), (14, .int (nI k)), (0, .ref x0), (1, .int act), (2, .int zv), (3, .ref (la 0)), (4, .ref (la 1)), (5, .ref (la 2)), (6, .ref (la 3)), (7, .ref (la 4)), (8, .ref (la 5)), (9, .ref (la 6)), (10, .ref (la 7)), (11, .ref (la 8)), (12, .ref (la 9)), (13, .ref (la 11))]) hx hb dL_suits_858 hl (by decide) rfl (fun ls hl => ?_)
                      refine lv_iload hx hb dL_suits_860 (lv_at hl 0 rfl) ?_
                      refine lv_if_eq (tgt := 893) hx hb dL_suits_862 (by decide) (fun c => absurd c (by decide : ¬ (1 : Int32) = 0)) (fun _ => ?_)
                      refine lv_iload hx hb dL_suits_865 (lv_at hl 7 rfl) ?_
                      refine lv_iload hx hb dL_suits_867 (lv_at hl 1 rfl) ?_
                      refine lv_aload_n hx hb dL_suits_869 rfl (lv_at hl 11 rfl) ?_
                      refine lv_aload hx hb dL_suits_870 (lv_at hl 12 rfl) ?_
                      refine lv_aload hx hb dL_suits_872 (lv_at hl 13 rfl) ?_
                      refine lv_aload hx hb dL_suits_874 (lv_at hl 14 rfl) ?_
                      refine lv_aload hx hb dL_suits_876 (lv_at hl 15 rfl) ?_
                      refine lv_aload hx hb dL_suits_878 (lv_at hl 16 rfl) ?_
                      refine lv_aload hx hb dL_suits_880 (lv_at hl 17 rfl) ?_
                      refine lv_aload hx hb dL_suits_882 (lv_at hl 18 rfl) ?_
                      refine lv_aload hx hb dL_suits_884 (lv_at hl 19 rfl) ?_
                      refine lv_aload hx hb dL_suits_886 (lv_at hl 20 rfl) ?_
                      refine lv_aload hx hb dL_suits_888 (lv_at hl 21 rfl) ?_
                      refine xr_callV (As := [.int (nI k), .int (fL_low (zv >>> ((4 : Int32) &&& 31)) (((L 9 (4 * (ix (L 6 (8 * k + 1))))) + 2) + ((fL_due L k) / 4))), .ref (la 0), .ref (la 1), .ref (la 2), .ref (la 3), .ref (la 4), .ref (la 5), .ref (la 6), .ref (la 7), .ref (la 8), .ref (la 9), .ref (la 11)]) (rest := []) hC hK hI (qL_wins l B D cy la hK.2.1 L hV k (by omega) rfl (fL_low (zv >>> ((4 : Int32) &&& 31)) (((L 9 (4 * (ix (L 6 (8 * k + 1))))) + 2) + ((fL_due L k) / 4)))) (va_cwS 13 hts gL_suits_L_wins rfl rfl rfl (by decide +kernel) ⟨Nat.le_of_ble_eq_true rfl, Nat.le_of_ble_eq_true rfl⟩) rfl hl.1 rfl (Nat.le_of_ble_eq_true rfl) dL_suits_890 ⟨Nat.le_of_ble_eq_true rfl, Nat.le_of_ble_eq_true rfl⟩ (fun H locs hI => ?_)
                      refine lv_aload_n hx hb dL_suits_893 rfl (lv_at hl 8 rfl) ?_
                      refine lv_bipush (v := 9) hx hb dL_suits_894 (by decide) ?_
                      refine lv_iload hx hb dL_suits_896 (lv_at hl 7 rfl) ?_
                      refine lv_iload hx hb dL_suits_898 (lv_at hl 1 rfl) ?_
                      refine lv_iconst (v := 0) hx hb dL_suits_900 (by decide) ?_
                      have hok : ((xq7 S 9 (nI k) (fL_low (zv >>> ((4 : Int32) &&& 31)) (((L 9 (4 * (ix (L 6 (8 * k + 1))))) + 2) + ((fL_due L k) / 4))) 0).2.1 = 0 ∨ (xq7 S 9 (nI k) (fL_low (zv >>> ((4 : Int32) &&& 31)) (((L 9 (4 * (ix (L 6 (8 * k + 1))))) + 2) + ((fL_due L k) / 4))) 0).2.1 = 3) ∧ (if (xq7 S 9 (nI k) (fL_low (zv >>> ((4 : Int32) &&& 31)) (((L 9 (4 * (ix (L 6 (8 * k + 1))))) + 2) + ((fL_due L k) / 4))) 0).2.1 = 0 then (xq7 S 9 (nI k) (fL_low (zv >>> ((4 : Int32) &&& 31)) (((L 9 (4 * (ix (L 6 (8 * k + 1))))) + 2) + ((fL_due L k) / 4))) 0).1 else -1003) = ((fL_wins L k (fL_low (zv >>> ((4 : Int32) &&& 31)) (((L 9 (4 * (ix (L 6 (8 * k + 1))))) + 2) + ((fL_due L k) / 4)))) 8 (8 + k)) := XOK.c (by have h9 := hOK; rw [hG] at h9; exact h9) (by decide)
                      refine xr_cs (As := [.ref x0, .int 9, .int (nI k), .int (fL_low (zv >>> ((4 : Int32) &&& 31)) (((L 9 (4 * (ix (L 6 (8 * k + 1))))) + 2) + ((fL_due L k) / 4))), .int 0]) (rest := []) 9 (nI k) (fL_low (zv >>> ((4 : Int32) &&& 31)) (((L 9 (4 * (ix (L 6 (8 * k + 1))))) + 2) + ((fL_due L k) / 4))) 0 hC hK hI (qC_settle l hC.2.1 A D cy g hK.1 S e0 mi n0 hK.2.2.2.1 hK.v hK.i x0 hK.2.2.2.2.2.2.2 (nI k) (fL_low (zv >>> ((4 : Int32) &&& 31)) (((L 9 (4 * (ix (L 6 (8 * k + 1))))) + 2) + ((fL_due L k) / 4))) 0 hok.1) (vx_cwSW 5 hts gL_suits_L_calls rfl rfl rfl (by decide +kernel) ⟨Nat.le_of_ble_eq_true rfl, Nat.le_of_ble_eq_true rfl⟩) rfl hl.1 rfl (Nat.le_of_ble_eq_true rfl) dL_suits_901 ⟨Nat.le_of_ble_eq_true rfl, Nat.le_of_ble_eq_true rfl⟩ (fun g H locs hK hI => ?_)
                      refine lv_iload hx hb dL_suits_904 (lv_at hl 0 rfl) ?_
                      refine lv_if_eq (tgt := 920) hx hb dL_suits_906 (by decide) (fun c => absurd c (by decide : ¬ (1 : Int32) = 0)) (fun _ => ?_)
                      refine lv_aload hx hb dL_suits_909 (lv_at hl 19 rfl) ?_
                      refine lv_bipush (v := 8) hx hb dL_suits_911 (by decide) ?_
                      refine lv_iload hx hb dL_suits_913 (lv_at hl 7 rfl) ?_
                      refine lv_iadd hx hb dL_suits_915 ?_
                      refine xr_ld hC hI 8 (by decide) (show vp_in (8 + (nI k)) 16 from nx_in (nx_add (by decide : (8 : Int32) = nI 8) rfl) (by omega) (by decide)) (v := ((fL_wins L k (fL_low (zv >>> ((4 : Int32) &&& 31)) (((L 9 (4 * (ix (L 6 (8 * k + 1))))) + 2) + ((fL_due L k) / 4)))) 8 (8 + k))) (congrArg ((fL_wins L k (fL_low (zv >>> ((4 : Int32) &&& 31)) (((L 9 (4 * (ix (L 6 (8 * k + 1))))) + 2) + ((fL_due L k) / 4)))) 8) (nx_ix (x := (8 + (nI k))) (nx_add (by decide : (8 : Int32) = nI 8) rfl) (by omega))) dL_suits_916 ?_
                      refine lv_goto (tgt := 923) hx hb dL_suits_917 (by decide) ?_
                      refine lv_icmp_ne (tgt := 930) hx hb dL_suits_923 (by decide) (fun c9 => absurd hok.2 c9) (fun _ => ?_)
                      refine lv_iconst (v := 1) hx hb dL_suits_926 (by decide) ?_
                      refine lv_goto (tgt := 931) hx hb dL_suits_927 (by decide) ?_
                      refine W.widen (k := 8) (n := 342) (Nat.le_of_ble_eq_true rfl) (Nat.le_of_ble_eq_true rfl) ?_
                      exact W.zret (v := 1) (ty := .boolean) hx hb hr rfl (fun t9 ht9 hW9 => ⟨⟨1, g, rfl, ⟨rfl, by rw [hG]; exact hK⟩, ⟨by rw [hG, ht9]; exact hI.1, by rw [hG, ht9]; exact hI.2.1⟩⟩, hI.2.2.1.F ht9⟩) hI.2.2.1.2.2 dL_suits_931
                · have hG := hG.trans (if_pos c_13)
                  refine lv_iload hx hb dL_suits_728 (lv_at hl 2 rfl) ?_
                  refine lv_iload hx hb dL_suits_730 (lv_at hl 1 rfl) ?_
                  have hG : fL_suits L act zv k = bL_suits_742 L k (jL_suits_742 L k) := hG
                  refine w_join (σ := Int32) 742 (fun y742_0 H locs ls => jL_suits_742 L k = y742_0 ∧ XI A B D cy g n0 la s S L H locs ∧ lv_has ls 22 [(19, .int 1), (18, .int (L 9 (4 * (ix (L 6 (8 * k + 1)))))), (17, .int (fL_due L k)), (16, .int y44_0), (15, .int (L 6 (8 * k + 3))), (14, .int (nI k)), (0, .ref x0), (1, .int act), (2, .int zv), (3, .ref (la 0)), (4, .ref (la 1)), (5, .ref (la 2)), (6, .ref (la 3)), (7, .ref (la 4)), (8, .ref (la 5)), (9, .ref (la 6)), (10, .ref (la 7)), (11, .ref (la 8)), (12, .ref (la 9)), (13, .ref (la 11))]) (fun y742_0 => [.int y742_0]) ?_ (fun J742 => ?_)
                  · intro y742_0 H locs ls ⟨hy742_0, hI, hl⟩
                    rw [hy742_0] at hG
                    refine lv_istore (lv' := [(20, .int y742_0), (19, .int 1), (18, .int (L 9 (4 * (ix (L 6 (8 * k + 1)))))), (17, .int (fL_due L k)), (16, .int y44_0), (15, .int (L 6 (8 * k + 3))), (14, .int (nI k)), (0, .ref x0), (1, .int act), (2, .int zv), (3, .ref (la 0)), (4, .ref (la 1)), (5, .ref (la 2)), (6, .ref (la 3)), (7, .ref (la 4)), (8, .ref (la 5)), (9, .ref (la 6)), (10, .ref (la 7)), (11, .ref (la 8)), (12, .ref (la 9)), (13, .ref (la 11))]) hx hb dL_suits_742 hl (by decide) rfl (fun ls hl => ?_)
                    refine lv_iload hx hb dL_suits_744 (lv_at hl 1 rfl) ?_
                    refine lv_if_eq (tgt := 777) hx hb dL_suits_746 (by decide) (fun c => absurd c (by decide : ¬ (1 : Int32) = 0)) (fun _ => ?_)
                    refine lv_iload hx hb dL_suits_749 (lv_at hl 6 rfl) ?_
                    refine lv_iload hx hb dL_suits_751 (lv_at hl 0 rfl) ?_
                    refine lv_aload_n hx hb dL_suits_753 rfl (lv_at hl 10 rfl) ?_
                    refine lv_aload hx hb dL_suits_754 (lv_at hl 11 rfl) ?_
                    refine lv_aload hx hb dL_suits_756 (lv_at hl 12 rfl) ?_
                    refine lv_aload hx hb dL_suits_758 (lv_at hl 13 rfl) ?_
                    refine lv_aload hx hb dL_suits_760 (lv_at hl 14 rfl) ?_
                    refine lv_aload hx hb dL_suits_762 (lv_at hl 15 rfl) ?_
                    refine lv_aload hx hb dL_suits_764 (lv_at hl 16 rfl) ?_
                    refine lv_aload hx hb dL_suits_766 (lv_at hl 17 rfl) ?_
                    refine lv_aload hx hb dL_suits_768 (lv_at hl 18 rfl) ?_
                    refine lv_aload hx hb dL_suits_770 (lv_at hl 19 rfl) ?_
                    refine lv_aload hx hb dL_suits_772 (lv_at hl 20 rfl) ?_
                    refine xr_callV (As := [.int (nI k), .int y742_0, .ref (la 0), .ref (la 1), .ref (la 2), .ref (la 3), .ref (la 4), .ref (la 5), .ref (la 6), .ref (la 7), .ref (la 8), .ref (la 9), .ref (la 11)]) (rest := []) hC hK hI (qL_wins l B D cy la hK.2.1 L hV k (by omega) rfl y742_0) (va_cwS 13 hts gL_suits_L_wins rfl rfl rfl (by decide +kernel) ⟨Nat.le_of_ble_eq_true rfl, Nat.le_of_ble_eq_true rfl⟩) rfl hl.1 rfl (Nat.le_of_ble_eq_true rfl) dL_suits_774 ⟨Nat.le_of_ble_eq_true rfl, Nat.le_of_ble_eq_true rfl⟩ (fun H locs hI => ?_)
                    refine lv_aload_n hx hb dL_suits_777 rfl (lv_at hl 7 rfl) ?_
                    refine lv_bipush (v := 8) hx hb dL_suits_778 (by decide) ?_
                    refine lv_iload hx hb dL_suits_780 (lv_at hl 6 rfl) ?_
                    refine lv_iconst (v := 0) hx hb dL_suits_782 (by decide) ?_
                    refine lv_iconst (v := 0) hx hb dL_suits_783 (by decide) ?_
                    have hok : ((xq7 S 8 (nI k) 0 0).2.1 = 0 ∨ (xq7 S 8 (nI k) 0 0).2.1 = 3) ∧ (if (xq7 S 8 (nI k) 0 0).2.1 = 0 then (xq7 S 8 (nI k) 0 0).1 else -1003) = y742_0 := XOK.c (by have h9 := hOK; rw [hG] at h9; exact h9) (by decide)
                    refine xr_cs (As := [.ref x0, .int 8, .int (nI k), .int 0, .int 0]) (rest := []) 8 (nI k) 0 0 hC hK hI (qC_judge l hC.2.1 A D cy g hK.1 S e0 mi n0 hK.2.2.2.1 hK.v hK.i x0 hK.2.2.2.2.2.2.2 (nI k) 0 0 hok.1) (vx_cwSW 5 hts gL_suits_L_calls rfl rfl rfl (by decide +kernel) ⟨Nat.le_of_ble_eq_true rfl, Nat.le_of_ble_eq_true rfl⟩) rfl hl.1 rfl (Nat.le_of_ble_eq_true rfl) dL_suits_784 ⟨Nat.le_of_ble_eq_true rfl, Nat.le_of_ble_eq_true rfl⟩ (fun g H locs hK hI => ?_)
                    refine lv_iload hx hb dL_suits_787 (lv_at hl 1 rfl) ?_
                    refine lv_if_eq (tgt := 797) hx hb dL_suits_789 (by decide) (fun c => absurd c (by decide : ¬ (1 : Int32) = 0)) (fun _ => ?_)
                    refine lv_iload hx hb dL_suits_792 (lv_at hl 0 rfl) ?_
                    refine lv_goto (tgt := 800) hx hb dL_suits_794 (by decide) ?_
                    refine lv_icmp_ne (tgt := 807) hx hb dL_suits_800 (by decide) (fun c9 => absurd hok.2 c9) (fun _ => ?_)
                    refine lv_iconst (v := 1) hx hb dL_suits_803 (by decide) ?_
                    refine lv_goto (tgt := 808) hx hb dL_suits_804 (by decide) ?_
                    refine W.widen (k := 8) (n := 342) (Nat.le_of_ble_eq_true rfl) (Nat.le_of_ble_eq_true rfl) ?_
                    exact W.zret (v := 1) (ty := .boolean) hx hb hr rfl (fun t9 ht9 hW9 => ⟨⟨1, g, rfl, ⟨rfl, by rw [hG]; exact hK⟩, ⟨by rw [hG, ht9]; exact hI.1, by rw [hG, ht9]; exact hI.2.1⟩⟩, hI.2.2.1.F ht9⟩) hI.2.2.1.2.2 dL_suits_808
                  · have hB742 : jL_suits_742 L k = jL_suits_742 L k := rfl
                    refine lv_icmp_ge (tgt := 740) hx hb dL_suits_732 (by decide) (fun c_16 => ?_) (fun c_16 => ?_)
                    · have hB742 := hB742.trans (if_pos c_16)
                      refine lv_iload hx hb dL_suits_740 (lv_at hl 1 rfl) ?_
                      exact J742 (L 9 (4 * (ix (L 6 (8 * k + 1))))) _ _ ls ⟨hB742, hI, lv_sub hl [0, 1, 2, 3, 4, 5, 6, 7, 8, 9, 10, 11, 12, 13, 14, 15, 16, 17, 18, 19] rfl⟩
                    · have hB742 := hB742.trans (if_neg c_16)
                      refine lv_iload hx hb dL_suits_735 (lv_at hl 2 rfl) ?_
                      refine lv_goto (tgt := 742) hx hb dL_suits_737 (by decide) ?_
                      exact J742 (fL_due L k) _ _ ls ⟨hB742, hI, lv_sub hl [0, 1, 2, 3, 4, 5, 6, 7, 8, 9, 10, 11, 12, 13, 14, 15, 16, 17, 18, 19] rfl⟩
          · have hG := hG.trans (if_pos c_5)
            refine lv_iload_n hx hb dL_suits_586 rfl (lv_at hl 5 rfl) ?_
            refine lv_iconst (v := 4) hx hb dL_suits_587 (by decide) ?_
            refine lv_ishr hx hb dL_suits_588 ?_
            refine lv_bipush (v := 11) hx hb dL_suits_589 (by decide) ?_
            refine xr_callS (As := [.int (zv >>> ((4 : Int32) &&& 31)), .int 11]) (rest := []) hC hI (qL_low l (zv >>> ((4 : Int32) &&& 31)) 11 (by decide)) (va_cwS 2 hts gL_suits_L_low rfl rfl rfl (by decide +kernel) ⟨Nat.le_of_ble_eq_true rfl, Nat.le_of_ble_eq_true rfl⟩) rfl hl.1 rfl (Nat.le_of_ble_eq_true rfl) dL_suits_591 ⟨Nat.le_of_ble_eq_true rfl, Nat.le_of_ble_eq_true rfl⟩ (fun H locs hI => ?_)
            refine lv_istore (lv' := [(17, .int (fL_low (zv >>> ((4 : Int32) &&& 31)) 11)), (16, .int y44_0), (15, .int (L 6 (8 * k + 3))), (14, .int (nI k)), (0, .ref x0), (1, .int act), (2, .int zv), (3, .ref (la 0)), (4, .ref (la 1)), (5, .ref (la 2)), (6, .ref (la 3)), (7, .ref (la 4)), (8, .ref (la 5)), (9, .ref (la 6)), (10, .ref (la 7)), (11, .ref (la 8)), (12, .ref (la 9)), (13, .ref (la 11))]) hx hb dL_suits_594 hl (by decide) rfl (fun ls hl => ?_)
            refine lv_aload hx hb dL_suits_596 (lv_at hl 13 rfl) ?_
            refine lv_bipush (v := 8) hx hb dL_suits_598 (by decide) ?_
            refine lv_iload hx hb dL_suits_600 (lv_at hl 3 rfl) ?_
            refine lv_imul hx hb dL_suits_602 ?_
            refine lv_bipush (v := 6) hx hb dL_suits_603 (by decide) ?_
            refine lv_iadd hx hb dL_suits_605 ?_
            refine xr_ld hC hI 6 (by decide) (show vp_in ((8 * (nI k)) + 6) 64 from nx_in (nx_add (nx_mul (by decide : (8 : Int32) = nI 8) rfl) (by decide : (6 : Int32) = nI 6)) (by omega) (by decide)) (v := (L 6 (8 * k + 6))) (congrArg (L 6) (nx_ix (x := ((8 * (nI k)) + 6)) (nx_add (nx_mul (by decide : (8 : Int32) = nI 8) rfl) (by decide : (6 : Int32) = nI 6)) (by omega))) dL_suits_606 ?_
            refine lv_istore (lv' := [(18, .int (L 6 (8 * k + 6))), (17, .int (fL_low (zv >>> ((4 : Int32) &&& 31)) 11)), (16, .int y44_0), (15, .int (L 6 (8 * k + 3))), (14, .int (nI k)), (0, .ref x0), (1, .int act), (2, .int zv), (3, .ref (la 0)), (4, .ref (la 1)), (5, .ref (la 2)), (6, .ref (la 3)), (7, .ref (la 4)), (8, .ref (la 5)), (9, .ref (la 6)), (10, .ref (la 7)), (11, .ref (la 8)), (12, .ref (la 9)), (13, .ref (la 11))]) hx hb dL_suits_607 hl (by decide) rfl (fun ls hl => ?_)
            refine lv_aload hx hb dL_suits_609 (lv_at hl 14 rfl) ?_
            refine lv_bipush (v := 8) hx hb dL_suits_611 (by decide) ?_
            refine lv_iload hx hb dL_suits_613 (lv_at hl 4 rfl) ?_
            refine lv_imul hx hb dL_suits_615 ?_
            refine lv_bipush (v := 6) hx hb dL_suits_616 (by decide) ?_
            refine lv_iadd hx hb dL_suits_618 ?_
            refine lv_iload hx hb dL_suits_619 (lv_at hl 3 rfl) ?_
            refine lv_iconst (v := 3) hx hb dL_suits_621 (by decide) ?_
            refine lv_icmp_ge (tgt := 630) hx hb dL_suits_622 (by decide) (fun c_17 => ?_) (fun c_17 => ?_)
            · have hG := hG.trans (if_pos c_17)
              refine lv_iload hx hb dL_suits_630 (lv_at hl 0 rfl) ?_
              refine xr_st hC hK hI 6 (by decide) (show vp_in ((8 * (nI k)) + 6) 64 from nx_in (nx_add (nx_mul (by decide : (8 : Int32) = nI 8) rfl) (by decide : (6 : Int32) = nI 6)) (by omega) (by decide)) (n := (8 * k + 6)) (nx_ix (x := ((8 * (nI k)) + 6)) (nx_add (nx_mul (by decide : (8 : Int32) = nI 8) rfl) (by decide : (6 : Int32) = nI 6)) (by omega)) dL_suits_632 (fun H locs hI => ?_)
              refine lv_aload_n hx hb dL_suits_633 rfl (lv_at hl 5 rfl) ?_
              refine lv_bipush (v := 7) hx hb dL_suits_634 (by decide) ?_
              refine lv_iload hx hb dL_suits_636 (lv_at hl 4 rfl) ?_
              refine lv_iload hx hb dL_suits_638 (lv_at hl 1 rfl) ?_
              refine lv_iconst (v := 0) hx hb dL_suits_640 (by decide) ?_
              have hok : ((xq7 S 7 (nI k) (fL_low (zv >>> ((4 : Int32) &&& 31)) 11) 0).2.1 = 0 ∨ (xq7 S 7 (nI k) (fL_low (zv >>> ((4 : Int32) &&& 31)) 11) 0).2.1 = 3) ∧ (if (xq7 S 7 (nI k) (fL_low (zv >>> ((4 : Int32) &&& 31)) 11) 0).2.1 = 0 then (xq7 S 7 (nI k) (fL_low (zv >>> ((4 : Int32) &&& 31)) 11) 0).1 else -1003) = (-1003) := XOK.c (by have h9 := hOK; rw [hG] at h9; exact h9) (by decide)
              refine xr_cs (As := [.ref x0, .int 7, .int (nI k), .int (fL_low (zv >>> ((4 : Int32) &&& 31)) 11), .int 0]) (rest := []) 7 (nI k) (fL_low (zv >>> ((4 : Int32) &&& 31)) 11) 0 hC hK hI (qC_help l hC.2.1 A D cy g hK.1 S e0 mi n0 hK.2.2.2.1 hK.v hK.i x0 hK.2.2.2.2.2.2.2 (nI k) (fL_low (zv >>> ((4 : Int32) &&& 31)) 11) 0 hok.1) (vx_cwSW 5 hts gL_suits_L_calls rfl rfl rfl (by decide +kernel) ⟨Nat.le_of_ble_eq_true rfl, Nat.le_of_ble_eq_true rfl⟩) rfl hl.1 rfl (Nat.le_of_ble_eq_true rfl) dL_suits_641 ⟨Nat.le_of_ble_eq_true rfl, Nat.le_of_ble_eq_true rfl⟩ (fun g H locs hK hI => ?_)
              refine lv_iload hx hb dL_suits_644 (lv_at hl 3 rfl) ?_
              refine lv_iconst (v := 3) hx hb dL_suits_646 (by decide) ?_
              refine lv_icmp_ge (tgt := 655) hx hb dL_suits_647 (by decide) (fun _ => ?_) (fun c => absurd c_17 c)
              refine lv_sipush (v := (-1003)) hx hb dL_suits_655 (by decide) ?_
              refine lv_icmp_ne (tgt := 665) hx hb dL_suits_658 (by decide) (fun c9 => absurd hok.2 c9) (fun _ => ?_)
              refine lv_iconst (v := 1) hx hb dL_suits_661 (by decide) ?_
              refine lv_goto (tgt := 666) hx hb dL_suits_662 (by decide) ?_
              refine W.widen (k := 8) (n := 342) (Nat.le_of_ble_eq_true rfl) (Nat.le_of_ble_eq_true rfl) ?_
              exact W.zret (v := 1) (ty := .boolean) hx hb hr rfl (fun t9 ht9 hW9 => ⟨⟨1, g, rfl, ⟨rfl, by rw [hG]; exact hK⟩, ⟨by rw [hG, ht9]; exact hI.1, by rw [hG, ht9]; exact hI.2.1⟩⟩, hI.2.2.1.F ht9⟩) hI.2.2.1.2.2 dL_suits_666
            · have hG := hG.trans (if_neg c_17)
              refine lv_iload hx hb dL_suits_625 (lv_at hl 1 rfl) ?_
              refine lv_goto (tgt := 632) hx hb dL_suits_627 (by decide) ?_
              refine xr_st hC hK hI 6 (by decide) (show vp_in ((8 * (nI k)) + 6) 64 from nx_in (nx_add (nx_mul (by decide : (8 : Int32) = nI 8) rfl) (by decide : (6 : Int32) = nI 6)) (by omega) (by decide)) (n := (8 * k + 6)) (nx_ix (x := ((8 * (nI k)) + 6)) (nx_add (nx_mul (by decide : (8 : Int32) = nI 8) rfl) (by decide : (6 : Int32) = nI 6)) (by omega)) dL_suits_632 (fun H locs hI => ?_)
              refine lv_aload_n hx hb dL_suits_633 rfl (lv_at hl 5 rfl) ?_
              refine lv_bipush (v := 7) hx hb dL_suits_634 (by decide) ?_
              refine lv_iload hx hb dL_suits_636 (lv_at hl 4 rfl) ?_
              refine lv_iload hx hb dL_suits_638 (lv_at hl 1 rfl) ?_
              refine lv_iconst (v := 0) hx hb dL_suits_640 (by decide) ?_
              have hok : ((xq7 S 7 (nI k) (fL_low (zv >>> ((4 : Int32) &&& 31)) 11) 0).2.1 = 0 ∨ (xq7 S 7 (nI k) (fL_low (zv >>> ((4 : Int32) &&& 31)) 11) 0).2.1 = 3) ∧ (if (xq7 S 7 (nI k) (fL_low (zv >>> ((4 : Int32) &&& 31)) 11) 0).2.1 = 0 then (xq7 S 7 (nI k) (fL_low (zv >>> ((4 : Int32) &&& 31)) 11) 0).1 else -1003) = (L 6 (8 * k + 6)) := XOK.c (by have h9 := hOK; rw [hG] at h9; exact h9) (by decide)
              refine xr_cs (As := [.ref x0, .int 7, .int (nI k), .int (fL_low (zv >>> ((4 : Int32) &&& 31)) 11), .int 0]) (rest := []) 7 (nI k) (fL_low (zv >>> ((4 : Int32) &&& 31)) 11) 0 hC hK hI (qC_help l hC.2.1 A D cy g hK.1 S e0 mi n0 hK.2.2.2.1 hK.v hK.i x0 hK.2.2.2.2.2.2.2 (nI k) (fL_low (zv >>> ((4 : Int32) &&& 31)) 11) 0 hok.1) (vx_cwSW 5 hts gL_suits_L_calls rfl rfl rfl (by decide +kernel) ⟨Nat.le_of_ble_eq_true rfl, Nat.le_of_ble_eq_true rfl⟩) rfl hl.1 rfl (Nat.le_of_ble_eq_true rfl) dL_suits_641 ⟨Nat.le_of_ble_eq_true rfl, Nat.le_of_ble_eq_true rfl⟩ (fun g H locs hK hI => ?_)
              refine lv_iload hx hb dL_suits_644 (lv_at hl 3 rfl) ?_
              refine lv_iconst (v := 3) hx hb dL_suits_646 (by decide) ?_
              refine lv_icmp_ge (tgt := 655) hx hb dL_suits_647 (by decide) (fun c => absurd c c_17) (fun _ => ?_)
              refine lv_iload hx hb dL_suits_650 (lv_at hl 0 rfl) ?_
              refine lv_goto (tgt := 658) hx hb dL_suits_652 (by decide) ?_
              refine lv_icmp_ne (tgt := 665) hx hb dL_suits_658 (by decide) (fun c9 => absurd hok.2 c9) (fun _ => ?_)
              refine lv_iconst (v := 1) hx hb dL_suits_661 (by decide) ?_
              refine lv_goto (tgt := 666) hx hb dL_suits_662 (by decide) ?_
              refine W.widen (k := 8) (n := 342) (Nat.le_of_ble_eq_true rfl) (Nat.le_of_ble_eq_true rfl) ?_
              exact W.zret (v := 1) (ty := .boolean) hx hb hr rfl (fun t9 ht9 hW9 => ⟨⟨1, g, rfl, ⟨rfl, by rw [hG]; exact hK⟩, ⟨by rw [hG, ht9]; exact hI.1, by rw [hG, ht9]; exact hI.2.1⟩⟩, hI.2.2.1.F ht9⟩) hI.2.2.1.2.2 dL_suits_666
        · have hG := hG.trans (if_pos c_4)
          refine lv_iload_n hx hb dL_suits_424 rfl (lv_at hl 5 rfl) ?_
          refine lv_iconst (v := 4) hx hb dL_suits_425 (by decide) ?_
          refine lv_ishr hx hb dL_suits_426 ?_
          refine lv_bipush (v := 9) hx hb dL_suits_427 (by decide) ?_
          refine xr_callS (As := [.int (zv >>> ((4 : Int32) &&& 31)), .int 9]) (rest := []) hC hI (qL_low l (zv >>> ((4 : Int32) &&& 31)) 9 (by decide)) (va_cwS 2 hts gL_suits_L_low rfl rfl rfl (by decide +kernel) ⟨Nat.le_of_ble_eq_true rfl, Nat.le_of_ble_eq_true rfl⟩) rfl hl.1 rfl (Nat.le_of_ble_eq_true rfl) dL_suits_429 ⟨Nat.le_of_ble_eq_true rfl, Nat.le_of_ble_eq_true rfl⟩ (fun H locs hI => ?_)
          have hG : fL_suits L act zv k = bL_suits_448 L k y44_0 (jL_suits_448 zv) := hG
          refine w_join (σ := Int32) 448 (fun y448_0 H locs ls => jL_suits_448 zv = y448_0 ∧ XI A B D cy g n0 la s S L H locs ∧ lv_has ls 22 [(16, .int y44_0), (15, .int (L 6 (8 * k + 3))), (14, .int (nI k)), (0, .ref x0), (1, .int act), (2, .int zv), (3, .ref (la 0)), (4, .ref (la 1)), (5, .ref (la 2)), (6, .ref (la 3)), (7, .ref (la 4)), (8, .ref (la 5)), (9, .ref (la 6)), (10, .ref (la 7)), (11, .ref (la 8)), (12, .ref (la 9)), (13, .ref (la 11))]) (fun y448_0 => [.int y448_0]) ?_ (fun J448 => ?_)
          · intro y448_0 H locs ls ⟨hy448_0, hI, hl⟩
            rw [hy448_0] at hG
            refine lv_istore (lv' := [(17, .int y448_0), (16, .int y44_0), (15, .int (L 6 (8 * k + 3))), (14, .int (nI k)), (0, .ref x0), (1, .int act), (2, .int zv), (3, .ref (la 0)), (4, .ref (la 1)), (5, .ref (la 2)), (6, .ref (la 3)), (7, .ref (la 4)), (8, .ref (la 5)), (9, .ref (la 6)), (10, .ref (la 7)), (11, .ref (la 8)), (12, .ref (la 9)), (13, .ref (la 11))]) hx hb dL_suits_448 hl (by decide) rfl (fun ls hl => ?_)
            refine lv_iload hx hb dL_suits_450 (lv_at hl 2 rfl) ?_
            refine lv_iconst (v := 3) hx hb dL_suits_452 (by decide) ?_
            refine lv_icmp_ge (tgt := 472) hx hb dL_suits_453 (by decide) (fun c_19 => ?_) (fun c_19 => ?_)
            · have hG := hG.trans (if_pos c_19)
              refine lv_iconst (v := 0) hx hb dL_suits_472 (by decide) ?_
              refine lv_istore (lv' := [(18, .int 0), (17, .int y448_0), (16, .int y44_0), (15, .int (L 6 (8 * k + 3))), (14, .int (nI k)), (0, .ref x0), (1, .int act), (2, .int zv), (3, .ref (la 0)), (4, .ref (la 1)), (5, .ref (la 2)), (6, .ref (la 3)), (7, .ref (la 4)), (8, .ref (la 5)), (9, .ref (la 6)), (10, .ref (la 7)), (11, .ref (la 8)), (12, .ref (la 9)), (13, .ref (la 11))]) hx hb dL_suits_473 hl (by decide) rfl (fun ls hl => ?_)
              refine lv_iload hx hb dL_suits_475 (lv_at hl 0 rfl) ?_
              refine lv_if_eq (tgt := 548) hx hb dL_suits_477 (by decide) (fun _ => ?_) (fun c => absurd (by decide : (0 : Int32) = 0) c)
              refine lv_aload_n hx hb dL_suits_548 rfl (lv_at hl 5 rfl) ?_
              refine lv_bipush (v := 6) hx hb dL_suits_549 (by decide) ?_
              refine lv_iload hx hb dL_suits_551 (lv_at hl 4 rfl) ?_
              refine lv_iload hx hb dL_suits_553 (lv_at hl 1 rfl) ?_
              refine lv_iconst (v := 0) hx hb dL_suits_555 (by decide) ?_
              have hok : ((xq7 S 6 (nI k) y448_0 0).2.1 = 0 ∨ (xq7 S 6 (nI k) y448_0 0).2.1 = 3) ∧ (if (xq7 S 6 (nI k) y448_0 0).2.1 = 0 then (xq7 S 6 (nI k) y448_0 0).1 else -1003) = (-1003) := XOK.c (by have h9 := hOK; rw [hG] at h9; exact h9) (by decide)
              refine xr_cs (As := [.ref x0, .int 6, .int (nI k), .int y448_0, .int 0]) (rest := []) 6 (nI k) y448_0 0 hC hK hI (qC_choose l hC.2.1 A D cy g hK.1 S e0 mi n0 hK.2.2.2.1 hK.v hK.i x0 hK.2.2.2.2.2.2.2 (nI k) y448_0 0 hok.1) (vx_cwSW 5 hts gL_suits_L_calls rfl rfl rfl (by decide +kernel) ⟨Nat.le_of_ble_eq_true rfl, Nat.le_of_ble_eq_true rfl⟩) rfl hl.1 rfl (Nat.le_of_ble_eq_true rfl) dL_suits_556 ⟨Nat.le_of_ble_eq_true rfl, Nat.le_of_ble_eq_true rfl⟩ (fun g H locs hK hI => ?_)
              refine lv_iload hx hb dL_suits_559 (lv_at hl 0 rfl) ?_
              refine lv_if_eq (tgt := 569) hx hb dL_suits_561 (by decide) (fun _ => ?_) (fun c => absurd (by decide : (0 : Int32) = 0) c)
              refine lv_sipush (v := (-1003)) hx hb dL_suits_569 (by decide) ?_
              refine lv_icmp_ne (tgt := 579) hx hb dL_suits_572 (by decide) (fun c9 => absurd hok.2 c9) (fun _ => ?_)
              refine lv_iconst (v := 1) hx hb dL_suits_575 (by decide) ?_
              refine lv_goto (tgt := 580) hx hb dL_suits_576 (by decide) ?_
              refine W.widen (k := 8) (n := 342) (Nat.le_of_ble_eq_true rfl) (Nat.le_of_ble_eq_true rfl) ?_
              exact W.zret (v := 1) (ty := .boolean) hx hb hr rfl (fun t9 ht9 hW9 => ⟨⟨1, g, rfl, ⟨rfl, by rw [hG]; exact hK⟩, ⟨by rw [hG, ht9]; exact hI.1, by rw [hG, ht9]; exact hI.2.1⟩⟩, hI.2.2.1.F ht9⟩) hI.2.2.1.2.2 dL_suits_580
            · have hG := hG.trans (if_neg c_19)
              refine lv_iload hx hb dL_suits_456 (lv_at hl 0 rfl) ?_
              refine lv_iconst (v := 2) hx hb dL_suits_458 (by decide) ?_
              refine lv_icmp_ne (tgt := 468) hx hb dL_suits_459 (by decide) (fun c_20 => ?_) (fun c_20 => ?_)
              · have hG := hG.trans (if_neg c_20)
                refine lv_iconst (v := 1) hx hb dL_suits_468 (by decide) ?_
                refine lv_goto (tgt := 473) hx hb dL_suits_469 (by decide) ?_
                refine lv_istore (lv' := [(18, .int 1), (17, .int y448_0), (16, .int y44_0), (15, .int (L 6 (8 * k + 3))), (14, .int (nI k)), (0, .ref x0), (1, .int act), (2, .int zv), (3, .ref (la 0)), (4, .ref (la 1)), (5, .ref (la 2)), (6, .ref (la 3)), (7, .ref (la 4)), (8, .ref (la 5)), (9, .ref (la 6)), (10, .ref (la 7)), (11, .ref (la 8)), (12, .ref (la 9)), (13, .ref (la 11))]) hx hb dL_suits_473 hl (by decide) rfl (fun ls hl => ?_)
                refine lv_iload hx hb dL_suits_475 (lv_at hl 0 rfl) ?_
                refine lv_if_eq (tgt := 548) hx hb dL_suits_477 (by decide) (fun c => absurd c (by decide : ¬ (1 : Int32) = 0)) (fun _ => ?_)
                refine lv_aload hx hb dL_suits_480 (lv_at hl 14 rfl) ?_
                refine lv_bipush (v := 8) hx hb dL_suits_482 (by decide) ?_
                refine lv_iload hx hb dL_suits_484 (lv_at hl 4 rfl) ?_
                refine lv_imul hx hb dL_suits_486 ?_
                refine lv_iconst (v := 3) hx hb dL_suits_487 (by decide) ?_
                refine lv_iadd hx hb dL_suits_488 ?_
                refine lv_iload hx hb dL_suits_489 (lv_at hl 1 rfl) ?_
                refine xr_st hC hK hI 6 (by decide) (show vp_in ((8 * (nI k)) + 3) 64 from nx_in (nx_add (nx_mul (by decide : (8 : Int32) = nI 8) rfl) (by decide : (3 : Int32) = nI 3)) (by omega) (by decide)) (n := (8 * k + 3)) (nx_ix (x := ((8 * (nI k)) + 3)) (nx_add (nx_mul (by decide : (8 : Int32) = nI 8) rfl) (by decide : (3 : Int32) = nI 3)) (by omega)) dL_suits_491 (fun H locs hI => ?_)
                refine lv_aload hx hb dL_suits_492 (lv_at hl 14 rfl) ?_
                refine lv_bipush (v := 8) hx hb dL_suits_494 (by decide) ?_
                refine lv_iload hx hb dL_suits_496 (lv_at hl 4 rfl) ?_
                refine lv_imul hx hb dL_suits_498 ?_
                refine lv_iconst (v := 5) hx hb dL_suits_499 (by decide) ?_
                refine lv_iadd hx hb dL_suits_500 ?_
                refine lv_dup2_11 hx hb dL_suits_501 rfl rfl ?_
                refine xr_ld hC hI 6 (by decide) (show vp_in ((8 * (nI k)) + 5) 64 from nx_in (nx_add (nx_mul (by decide : (8 : Int32) = nI 8) rfl) (by decide : (5 : Int32) = nI 5)) (by omega) (by decide)) (v := ((up L 6 (8 * k + 3) y448_0) 6 (8 * k + 5))) (congrArg ((up L 6 (8 * k + 3) y448_0) 6) (nx_ix (x := ((8 * (nI k)) + 5)) (nx_add (nx_mul (by decide : (8 : Int32) = nI 8) rfl) (by decide : (5 : Int32) = nI 5)) (by omega))) dL_suits_502 ?_
                refine lv_iload hx hb dL_suits_503 (lv_at hl 1 rfl) ?_
                refine lv_iconst (v := 1) hx hb dL_suits_505 (by decide) ?_
                refine lv_icmp_ne (tgt := 513) hx hb dL_suits_506 (by decide) (fun c_21 => ?_) (fun c_21 => ?_)
                · have hG := hG.trans (if_neg c_21)
                  refine lv_iconst (v := 0) hx hb dL_suits_513 (by decide) ?_
                  refine lv_ior hx hb dL_suits_514 ?_
                  refine xr_st hC hK hI 6 (by decide) (show vp_in ((8 * (nI k)) + 5) 64 from nx_in (nx_add (nx_mul (by decide : (8 : Int32) = nI 8) rfl) (by decide : (5 : Int32) = nI 5)) (by omega) (by decide)) (n := (8 * k + 5)) (nx_ix (x := ((8 * (nI k)) + 5)) (nx_add (nx_mul (by decide : (8 : Int32) = nI 8) rfl) (by decide : (5 : Int32) = nI 5)) (by omega)) dL_suits_515 (fun H locs hI => ?_)
                  refine lv_aload hx hb dL_suits_516 (lv_at hl 14 rfl) ?_
                  refine lv_bipush (v := 8) hx hb dL_suits_518 (by decide) ?_
                  refine lv_iload hx hb dL_suits_520 (lv_at hl 4 rfl) ?_
                  refine lv_imul hx hb dL_suits_522 ?_
                  refine lv_iconst (v := 4) hx hb dL_suits_523 (by decide) ?_
                  refine lv_iadd hx hb dL_suits_524 ?_
                  refine lv_iload hx hb dL_suits_525 (lv_at hl 2 rfl) ?_
                  refine lv_if_eq (tgt := 537) hx hb dL_suits_527 (by decide) (fun c_22 => ?_) (fun c_22 => ?_)
                  · have hG := hG.trans (if_pos c_22)
                    refine lv_aload hx hb dL_suits_537 (lv_at hl 14 rfl) ?_
                    refine lv_bipush (v := 8) hx hb dL_suits_539 (by decide) ?_
                    refine lv_iload hx hb dL_suits_541 (lv_at hl 4 rfl) ?_
                    refine lv_imul hx hb dL_suits_543 ?_
                    refine lv_iconst (v := 4) hx hb dL_suits_544 (by decide) ?_
                    refine lv_iadd hx hb dL_suits_545 ?_
                    refine xr_ld hC hI 6 (by decide) (show vp_in ((8 * (nI k)) + 4) 64 from nx_in (nx_add (nx_mul (by decide : (8 : Int32) = nI 8) rfl) (by decide : (4 : Int32) = nI 4)) (by omega) (by decide)) (v := ((up (up L 6 (8 * k + 3) y448_0) 6 (8 * k + 5) (((up L 6 (8 * k + 3) y448_0) 6 (8 * k + 5)) ||| 0)) 6 (8 * k + 4))) (congrArg ((up (up L 6 (8 * k + 3) y448_0) 6 (8 * k + 5) (((up L 6 (8 * k + 3) y448_0) 6 (8 * k + 5)) ||| 0)) 6) (nx_ix (x := ((8 * (nI k)) + 4)) (nx_add (nx_mul (by decide : (8 : Int32) = nI 8) rfl) (by decide : (4 : Int32) = nI 4)) (by omega))) dL_suits_546 ?_
                    refine xr_st hC hK hI 6 (by decide) (show vp_in ((8 * (nI k)) + 4) 64 from nx_in (nx_add (nx_mul (by decide : (8 : Int32) = nI 8) rfl) (by decide : (4 : Int32) = nI 4)) (by omega) (by decide)) (n := (8 * k + 4)) (nx_ix (x := ((8 * (nI k)) + 4)) (nx_add (nx_mul (by decide : (8 : Int32) = nI 8) rfl) (by decide : (4 : Int32) = nI 4)) (by omega)) dL_suits_547 (fun H locs hI => ?_)
                    refine lv_aload_n hx hb dL_suits_548 rfl (lv_at hl 5 rfl) ?_
                    refine lv_bipush (v := 6) hx hb dL_suits_549 (by decide) ?_
                    refine lv_iload hx hb dL_suits_551 (lv_at hl 4 rfl) ?_
                    refine lv_iload hx hb dL_suits_553 (lv_at hl 1 rfl) ?_
                    refine lv_iconst (v := 0) hx hb dL_suits_555 (by decide) ?_
                    have hok : ((xq7 S 6 (nI k) y448_0 0).2.1 = 0 ∨ (xq7 S 6 (nI k) y448_0 0).2.1 = 3) ∧ (if (xq7 S 6 (nI k) y448_0 0).2.1 = 0 then (xq7 S 6 (nI k) y448_0 0).1 else -1003) = (L 6 (8 * k + 3)) := XOK.c (by have h9 := hOK; rw [hG] at h9; exact h9) (by decide)
                    refine xr_cs (As := [.ref x0, .int 6, .int (nI k), .int y448_0, .int 0]) (rest := []) 6 (nI k) y448_0 0 hC hK hI (qC_choose l hC.2.1 A D cy g hK.1 S e0 mi n0 hK.2.2.2.1 hK.v hK.i x0 hK.2.2.2.2.2.2.2 (nI k) y448_0 0 hok.1) (vx_cwSW 5 hts gL_suits_L_calls rfl rfl rfl (by decide +kernel) ⟨Nat.le_of_ble_eq_true rfl, Nat.le_of_ble_eq_true rfl⟩) rfl hl.1 rfl (Nat.le_of_ble_eq_true rfl) dL_suits_556 ⟨Nat.le_of_ble_eq_true rfl, Nat.le_of_ble_eq_true rfl⟩ (fun g H locs hK hI => ?_)
                    refine lv_iload hx hb dL_suits_559 (lv_at hl 0 rfl) ?_
                    refine lv_if_eq (tgt := 569) hx hb dL_suits_561 (by decide) (fun c => absurd c (by decide : ¬ (1 : Int32) = 0)) (fun _ => ?_)
                    refine lv_iload hx hb dL_suits_564 (lv_at hl 3 rfl) ?_
                    refine lv_goto (tgt := 572) hx hb dL_suits_566 (by decide) ?_
                    refine lv_icmp_ne (tgt := 579) hx hb dL_suits_572 (by decide) (fun c9 => absurd hok.2 c9) (fun _ => ?_)
                    refine lv_iconst (v := 1) hx hb dL_suits_575 (by decide) ?_
                    refine lv_goto (tgt := 580) hx hb dL_suits_576 (by decide) ?_
                    refine W.widen (k := 8) (n := 342) (Nat.le_of_ble_eq_true rfl) (Nat.le_of_ble_eq_true rfl) ?_
                    exact W.zret (v := 1) (ty := .boolean) hx hb hr rfl (fun t9 ht9 hW9 => ⟨⟨1, g, rfl, ⟨rfl, by rw [hG]; exact hK⟩, ⟨by rw [hG, ht9]; exact hI.1, by rw [hG, ht9]; exact hI.2.1⟩⟩, hI.2.2.1.F ht9⟩) hI.2.2.1.2.2 dL_suits_580
                  · have hG := hG.trans (if_neg c_22)
                    refine lv_aload hx hb dL_suits_530 (lv_at hl 18 rfl) ?_
                    refine lv_iconst (v := 0) hx hb dL_suits_532 (by decide) ?_
                    refine xr_ld hC hI 11 (by decide) (nx_in (by decide : (0 : Int32) = nI 0) (by decide) (by decide)) (v := (L 11 0)) ((congrArg ((up (up L 6 (8 * k + 3) y448_0) 6 (8 * k + 5) (((up L 6 (8 * k + 3) y448_0) 6 (8 * k + 5)) ||| 0)) 11) (by decide : ix 0 = 0)).trans ((congrFun (up_ne (by decide)) _).trans (congrFun (up_ne (by decide)) _))) dL_suits_533 ?_
                    refine lv_goto (tgt := 547) hx hb dL_suits_534 (by decide) ?_
                    refine xr_st hC hK hI 6 (by decide) (show vp_in ((8 * (nI k)) + 4) 64 from nx_in (nx_add (nx_mul (by decide : (8 : Int32) = nI 8) rfl) (by decide : (4 : Int32) = nI 4)) (by omega) (by decide)) (n := (8 * k + 4)) (nx_ix (x := ((8 * (nI k)) + 4)) (nx_add (nx_mul (by decide : (8 : Int32) = nI 8) rfl) (by decide : (4 : Int32) = nI 4)) (by omega)) dL_suits_547 (fun H locs hI => ?_)
                    refine lv_aload_n hx hb dL_suits_548 rfl (lv_at hl 5 rfl) ?_
                    refine lv_bipush (v := 6) hx hb dL_suits_549 (by decide) ?_
                    refine lv_iload hx hb dL_suits_551 (lv_at hl 4 rfl) ?_
                    refine lv_iload hx hb dL_suits_553 (lv_at hl 1 rfl) ?_
                    refine lv_iconst (v := 0) hx hb dL_suits_555 (by decide) ?_
                    have hok : ((xq7 S 6 (nI k) y448_0 0).2.1 = 0 ∨ (xq7 S 6 (nI k) y448_0 0).2.1 = 3) ∧ (if (xq7 S 6 (nI k) y448_0 0).2.1 = 0 then (xq7 S 6 (nI k) y448_0 0).1 else -1003) = (L 6 (8 * k + 3)) := XOK.c (by have h9 := hOK; rw [hG] at h9; exact h9) (by decide)
                    refine xr_cs (As := [.ref x0, .int 6, .int (nI k), .int y448_0, .int 0]) (rest := []) 6 (nI k) y448_0 0 hC hK hI (qC_choose l hC.2.1 A D cy g hK.1 S e0 mi n0 hK.2.2.2.1 hK.v hK.i x0 hK.2.2.2.2.2.2.2 (nI k) y448_0 0 hok.1) (vx_cwSW 5 hts gL_suits_L_calls rfl rfl rfl (by decide +kernel) ⟨Nat.le_of_ble_eq_true rfl, Nat.le_of_ble_eq_true rfl⟩) rfl hl.1 rfl (Nat.le_of_ble_eq_true rfl) dL_suits_556 ⟨Nat.le_of_ble_eq_true rfl, Nat.le_of_ble_eq_true rfl⟩ (fun g H locs hK hI => ?_)
                    refine lv_iload hx hb dL_suits_559 (lv_at hl 0 rfl) ?_
                    refine lv_if_eq (tgt := 569) hx hb dL_suits_561 (by decide) (fun c => absurd c (by decide : ¬ (1 : Int32) = 0)) (fun _ => ?_)
                    refine lv_iload hx hb dL_suits_564 (lv_at hl 3 rfl) ?_
                    refine lv_goto (tgt := 572) hx hb dL_suits_566 (by decide) ?_
                    refine lv_icmp_ne (tgt := 579) hx hb dL_suits_572 (by decide) (fun c9 => absurd hok.2 c9) (fun _ => ?_)
                    refine lv_iconst (v := 1) hx hb dL_suits_575 (by decide) ?_
                    refine lv_goto (tgt := 580) hx hb dL_suits_576 (by decide) ?_
                    refine W.widen (k := 8) (n := 342) (Nat.le_of_ble_eq_true rfl) (Nat.le_of_ble_eq_true rfl) ?_
                    exact W.zret (v := 1) (ty := .boolean) hx hb hr rfl (fun t9 ht9 hW9 => ⟨⟨1, g, rfl, ⟨rfl, by rw [hG]; exact hK⟩, ⟨by rw [hG, ht9]; exact hI.1, by rw [hG, ht9]; exact hI.2.1⟩⟩, hI.2.2.1.F ht9⟩) hI.2.2.1.2.2 dL_suits_580
                · have hG := hG.trans (if_pos c_21)
                  refine lv_iconst (v := 1) hx hb dL_suits_509 (by decide) ?_
                  refine lv_goto (tgt := 514) hx hb dL_suits_510 (by decide) ?_
                  refine lv_ior hx hb dL_suits_514 ?_
                  refine xr_st hC hK hI 6 (by decide) (show vp_in ((8 * (nI k)) + 5) 64 from nx_in (nx_add (nx_mul (by decide : (8 : Int32) = nI 8) rfl) (by decide : (5 : Int32) = nI 5)) (by omega) (by decide)) (n := (8 * k + 5)) (nx_ix (x := ((8 * (nI k)) + 5)) (nx_add (nx_mul (by decide : (8 : Int32) = nI 8) rfl) (by decide : (5 : Int32) = nI 5)) (by omega)) dL_suits_515 (fun H locs hI => ?_)
                  refine lv_aload hx hb dL_suits_516 (lv_at hl 14 rfl) ?_
                  refine lv_bipush (v := 8) hx hb dL_suits_518 (by decide) ?_
                  refine lv_iload hx hb dL_suits_520 (lv_at hl 4 rfl) ?_
                  refine lv_imul hx hb dL_suits_522 ?_
                  refine lv_iconst (v := 4) hx hb dL_suits_523 (by decide) ?_
                  refine lv_iadd hx hb dL_suits_524 ?_
                  refine lv_iload hx hb dL_suits_525 (lv_at hl 2 rfl) ?_
                  refine lv_if_eq (tgt := 537) hx hb dL_suits_527 (by decide) (fun c_23 => ?_) (fun c_23 => ?_)
                  · have hG := hG.trans (if_pos c_23)
                    refine lv_aload hx hb dL_suits_537 (lv_at hl 14 rfl) ?_
                    refine lv_bipush (v := 8) hx hb dL_suits_539 (by decide) ?_
                    refine lv_iload hx hb dL_suits_541 (lv_at hl 4 rfl) ?_
                    refine lv_imul hx hb dL_suits_543 ?_
                    refine lv_iconst (v := 4) hx hb dL_suits_544 (by decide) ?_
                    refine lv_iadd hx hb dL_suits_545 ?_
                    refine xr_ld hC hI 6 (by decide) (show vp_in ((8 * (nI k)) + 4) 64 from nx_in (nx_add (nx_mul (by decide : (8 : Int32) = nI 8) rfl) (by decide : (4 : Int32) = nI 4)) (by omega) (by decide)) (v := ((up (up L 6 (8 * k + 3) y448_0) 6 (8 * k + 5) (((up L 6 (8 * k + 3) y448_0) 6 (8 * k + 5)) ||| 1)) 6 (8 * k + 4))) (congrArg ((up (up L 6 (8 * k + 3) y448_0) 6 (8 * k + 5) (((up L 6 (8 * k + 3) y448_0) 6 (8 * k + 5)) ||| 1)) 6) (nx_ix (x := ((8 * (nI k)) + 4)) (nx_add (nx_mul (by decide : (8 : Int32) = nI 8) rfl) (by decide : (4 : Int32) = nI 4)) (by omega))) dL_suits_546 ?_
                    refine xr_st hC hK hI 6 (by decide) (show vp_in ((8 * (nI k)) + 4) 64 from nx_in (nx_add (nx_mul (by decide : (8 : Int32) = nI 8) rfl) (by decide : (4 : Int32) = nI 4)) (by omega) (by decide)) (n := (8 * k + 4)) (nx_ix (x := ((8 * (nI k)) + 4)) (nx_add (nx_mul (by decide : (8 : Int32) = nI 8) rfl) (by decide : (4 : Int32) = nI 4)) (by omega)) dL_suits_547 (fun H locs hI => ?_)
                    refine lv_aload_n hx hb dL_suits_548 rfl (lv_at hl 5 rfl) ?_
                    refine lv_bipush (v := 6) hx hb dL_suits_549 (by decide) ?_
                    refine lv_iload hx hb dL_suits_551 (lv_at hl 4 rfl) ?_
                    refine lv_iload hx hb dL_suits_553 (lv_at hl 1 rfl) ?_
                    refine lv_iconst (v := 0) hx hb dL_suits_555 (by decide) ?_
                    have hok : ((xq7 S 6 (nI k) y448_0 0).2.1 = 0 ∨ (xq7 S 6 (nI k) y448_0 0).2.1 = 3) ∧ (if (xq7 S 6 (nI k) y448_0 0).2.1 = 0 then (xq7 S 6 (nI k) y448_0 0).1 else -1003) = (L 6 (8 * k + 3)) := XOK.c (by have h9 := hOK; rw [hG] at h9; exact h9) (by decide)
                    refine xr_cs (As := [.ref x0, .int 6, .int (nI k), .int y448_0, .int 0]) (rest := []) 6 (nI k) y448_0 0 hC hK hI (qC_choose l hC.2.1 A D cy g hK.1 S e0 mi n0 hK.2.2.2.1 hK.v hK.i x0 hK.2.2.2.2.2.2.2 (nI k) y448_0 0 hok.1) (vx_cwSW 5 hts gL_suits_L_calls rfl rfl rfl (by decide +kernel) ⟨Nat.le_of_ble_eq_true rfl, Nat.le_of_ble_eq_true rfl⟩) rfl hl.1 rfl (Nat.le_of_ble_eq_true rfl) dL_suits_556 ⟨Nat.le_of_ble_eq_true rfl, Nat.le_of_ble_eq_true rfl⟩ (fun g H locs hK hI => ?_)
                    refine lv_iload hx hb dL_suits_559 (lv_at hl 0 rfl) ?_
                    refine lv_if_eq (tgt := 569) hx hb dL_suits_561 (by decide) (fun c => absurd c (by decide : ¬ (1 : Int32) = 0)) (fun _ => ?_)
                    refine lv_iload hx hb dL_suits_564 (lv_at hl 3 rfl) ?_
                    refine lv_goto (tgt := 572) hx hb dL_suits_566 (by decide) ?_
                    refine lv_icmp_ne (tgt := 579) hx hb dL_suits_572 (by decide) (fun c9 => absurd hok.2 c9) (fun _ => ?_)
                    refine lv_iconst (v := 1) hx hb dL_suits_575 (by decide) ?_
                    refine lv_goto (tgt := 580) hx hb dL_suits_576 (by decide) ?_
                    refine W.widen (k := 8) (n := 342) (Nat.le_of_ble_eq_true rfl) (Nat.le_of_ble_eq_true rfl) ?_
                    exact W.zret (v := 1) (ty := .boolean) hx hb hr rfl (fun t9 ht9 hW9 => ⟨⟨1, g, rfl, ⟨rfl, by rw [hG]; exact hK⟩, ⟨by rw [hG, ht9]; exact hI.1, by rw [hG, ht9]; exact hI.2.1⟩⟩, hI.2.2.1.F ht9⟩) hI.2.2.1.2.2 dL_suits_580
                  · have hG := hG.trans (if_neg c_23)
                    refine lv_aload hx hb dL_suits_530 (lv_at hl 18 rfl) ?_
                    refine lv_iconst (v := 0) hx hb dL_suits_532 (by decide) ?_
                    refine xr_ld hC hI 11 (by decide) (nx_in (by decide : (0 : Int32) = nI 0) (by decide) (by decide)) (v := (L 11 0)) ((congrArg ((up (up L 6 (8 * k + 3) y448_0) 6 (8 * k + 5) (((up L 6 (8 * k + 3) y448_0) 6 (8 * k + 5)) ||| 1)) 11) (by decide : ix 0 = 0)).trans ((congrFun (up_ne (by decide)) _).trans (congrFun (up_ne (by decide)) _))) dL_suits_533 ?_
                    refine lv_goto (tgt := 547) hx hb dL_suits_534 (by decide) ?_
                    refine xr_st hC hK hI 6 (by decide) (show vp_in ((8 * (nI k)) + 4) 64 from nx_in (nx_add (nx_mul (by decide : (8 : Int32) = nI 8) rfl) (by decide : (4 : Int32) = nI 4)) (by omega) (by decide)) (n := (8 * k + 4)) (nx_ix (x := ((8 * (nI k)) + 4)) (nx_add (nx_mul (by decide : (8 : Int32) = nI 8) rfl) (by decide : (4 : Int32) = nI 4)) (by omega)) dL_suits_547 (fun H locs hI => ?_)
                    refine lv_aload_n hx hb dL_suits_548 rfl (lv_at hl 5 rfl) ?_
                    refine lv_bipush (v := 6) hx hb dL_suits_549 (by decide) ?_
                    refine lv_iload hx hb dL_suits_551 (lv_at hl 4 rfl) ?_
                    refine lv_iload hx hb dL_suits_553 (lv_at hl 1 rfl) ?_
                    refine lv_iconst (v := 0) hx hb dL_suits_555 (by decide) ?_
                    have hok : ((xq7 S 6 (nI k) y448_0 0).2.1 = 0 ∨ (xq7 S 6 (nI k) y448_0 0).2.1 = 3) ∧ (if (xq7 S 6 (nI k) y448_0 0).2.1 = 0 then (xq7 S 6 (nI k) y448_0 0).1 else -1003) = (L 6 (8 * k + 3)) := XOK.c (by have h9 := hOK; rw [hG] at h9; exact h9) (by decide)
                    refine xr_cs (As := [.ref x0, .int 6, .int (nI k), .int y448_0, .int 0]) (rest := []) 6 (nI k) y448_0 0 hC hK hI (qC_choose l hC.2.1 A D cy g hK.1 S e0 mi n0 hK.2.2.2.1 hK.v hK.i x0 hK.2.2.2.2.2.2.2 (nI k) y448_0 0 hok.1) (vx_cwSW 5 hts gL_suits_L_calls rfl rfl rfl (by decide +kernel) ⟨Nat.le_of_ble_eq_true rfl, Nat.le_of_ble_eq_true rfl⟩) rfl hl.1 rfl (Nat.le_of_ble_eq_true rfl) dL_suits_556 ⟨Nat.le_of_ble_eq_true rfl, Nat.le_of_ble_eq_true rfl⟩ (fun g H locs hK hI => ?_)
                    refine lv_iload hx hb dL_suits_559 (lv_at hl 0 rfl) ?_
                    refine lv_if_eq (tgt := 569) hx hb dL_suits_561 (by decide) (fun c => absurd c (by decide : ¬ (1 : Int32) = 0)) (fun _ => ?_)
                    refine lv_iload hx hb dL_suits_564 (lv_at hl 3 rfl) ?_
                    refine lv_goto (tgt := 572) hx hb dL_suits_566 (by decide) ?_
                    refine lv_icmp_ne (tgt := 579) hx hb dL_suits_572 (by decide) (fun c9 => absurd hok.2 c9) (fun _ => ?_)
                    refine lv_iconst (v := 1) hx hb dL_suits_575 (by decide) ?_
                    refine lv_goto (tgt := 580) hx hb dL_suits_576 (by decide) ?_
                    refine W.widen (k := 8) (n := 342) (Nat.le_of_ble_eq_true rfl) (Nat.le_of_ble_eq_true rfl) ?_
                    exact W.zret (v := 1) (ty := .boolean) hx hb hr rfl (fun t9 ht9 hW9 => ⟨⟨1, g, rfl, ⟨rfl, by rw [hG]; exact hK⟩, ⟨by rw [hG, ht9]; exact hI.1, by rw [hG, ht9]; exact hI.2.1⟩⟩, hI.2.2.1.F ht9⟩) hI.2.2.1.2.2 dL_suits_580
              · have hG := hG.trans (if_pos c_20)
                refine lv_iload hx hb dL_suits_462 (lv_at hl 2 rfl) ?_
                refine lv_iconst (v := 1) hx hb dL_suits_464 (by decide) ?_
                refine lv_icmp_eq (tgt := 472) hx hb dL_suits_465 (by decide) (fun c_24 => ?_) (fun c_24 => ?_)
                · have hG := hG.trans (if_pos c_24)
                  refine lv_iconst (v := 0) hx hb dL_suits_472 (by decide) ?_
                  refine lv_istore (lv' := [(18, .int 0), (17, .int y448_0), (16, .int y44_0), (15, .int (L 6 (8 * k + 3))), (14, .int (nI k)), (0, .ref x0), (1, .int act), (2, .int zv), (3, .ref (la 0)), (4, .ref (la 1)), (5, .ref (la 2)), (6, .ref (la 3)), (7, .ref (la 4)), (8, .ref (la 5)), (9, .ref (la 6)), (10, .ref (la 7)), (11, .ref (la 8)), (12, .ref (la 9)), (13, .ref (la 11))]) hx hb dL_suits_473 hl (by decide) rfl (fun ls hl => ?_)
                  refine lv_iload hx hb dL_suits_475 (lv_at hl 0 rfl) ?_
                  refine lv_if_eq (tgt := 548) hx hb dL_suits_477 (by decide) (fun _ => ?_) (fun c => absurd (by decide : (0 : Int32) = 0) c)
                  refine lv_aload_n hx hb dL_suits_548 rfl (lv_at hl 5 rfl) ?_
                  refine lv_bipush (v := 6) hx hb dL_suits_549 (by decide) ?_
                  refine lv_iload hx hb dL_suits_551 (lv_at hl 4 rfl) ?_
                  refine lv_iload hx hb dL_suits_553 (lv_at hl 1 rfl) ?_
                  refine lv_iconst (v := 0) hx hb dL_suits_555 (by decide) ?_
                  have hok : ((xq7 S 6 (nI k) y448_0 0).2.1 = 0 ∨ (xq7 S 6 (nI k) y448_0 0).2.1 = 3) ∧ (if (xq7 S 6 (nI k) y448_0 0).2.1 = 0 then (xq7 S 6 (nI k) y448_0 0).1 else -1003) = (-1003) := XOK.c (by have h9 := hOK; rw [hG] at h9; exact h9) (by decide)
                  refine xr_cs (As := [.ref x0, .int 6, .int (nI k), .int y448_0, .int 0]) (rest := []) 6 (nI k) y448_0 0 hC hK hI (qC_choose l hC.2.1 A D cy g hK.1 S e0 mi n0 hK.2.2.2.1 hK.v hK.i x0 hK.2.2.2.2.2.2.2 (nI k) y448_0 0 hok.1) (vx_cwSW 5 hts gL_suits_L_calls rfl rfl rfl (by decide +kernel) ⟨Nat.le_of_ble_eq_true rfl, Nat.le_of_ble_eq_true rfl⟩) rfl hl.1 rfl (Nat.le_of_ble_eq_true rfl) dL_suits_556 ⟨Nat.le_of_ble_eq_true rfl, Nat.le_of_ble_eq_true rfl⟩ (fun g H locs hK hI => ?_)
                  refine lv_iload hx hb dL_suits_559 (lv_at hl 0 rfl) ?_
                  refine lv_if_eq (tgt := 569) hx hb dL_suits_561 (by decide) (fun _ => ?_) (fun c => absurd (by decide : (0 : Int32) = 0) c)
                  refine lv_sipush (v := (-1003)) hx hb dL_suits_569 (by decide) ?_
                  refine lv_icmp_ne (tgt := 579) hx hb dL_suits_572 (by decide) (fun c9 => absurd hok.2 c9) (fun _ => ?_)
                  refine lv_iconst (v := 1) hx hb dL_suits_575 (by decide) ?_
                  refine lv_goto (tgt := 580) hx hb dL_suits_576 (by decide) ?_
                  refine W.widen (k := 8) (n := 342) (Nat.le_of_ble_eq_true rfl) (Nat.le_of_ble_eq_true rfl) ?_
                  exact W.zret (v := 1) (ty := .boolean) hx hb hr rfl (fun t9 ht9 hW9 => ⟨⟨1, g, rfl, ⟨rfl, by rw [hG]; exact hK⟩, ⟨by rw [hG, ht9]; exact hI.1, by rw [hG, ht9]; exact hI.2.1⟩⟩, hI.2.2.1.F ht9⟩) hI.2.2.1.2.2 dL_suits_580
                · have hG := hG.trans (if_neg c_24)
                  refine lv_iconst (v := 1) hx hb dL_suits_468 (by decide) ?_
                  refine lv_goto (tgt := 473) hx hb dL_suits_469 (by decide) ?_
                  refine lv_istore (lv' := [(18, .int 1), (17, .int y448_0), (16, .int y44_0), (15, .int (L 6 (8 * k + 3))), (14, .int (nI k)), (0, .ref x0), (1, .int act), (2, .int zv), (3, .ref (la 0)), (4, .ref (la 1)), (5, .ref (la 2)), (6, .ref (la 3)), (7, .ref (la 4)), (8, .ref (la 5)), (9, .ref (la 6)), (10, .ref (la 7)), (11, .ref (la 8)), (12, .ref (la 9)), (13, .ref (la 11))]) hx hb dL_suits_473 hl (by decide) rfl (fun ls hl => ?_)
                  refine lv_iload hx hb dL_suits_475 (lv_at hl 0 rfl) ?_
                  refine lv_if_eq (tgt := 548) hx hb dL_suits_477 (by decide) (fun c => absurd c (by decide : ¬ (1 : Int32) = 0)) (fun _ => ?_)
                  refine lv_aload hx hb dL_suits_480 (lv_at hl 14 rfl) ?_
                  refine lv_bipush (v := 8) hx hb dL_suits_482 (by decide) ?_
                  refine lv_iload hx hb dL_suits_484 (lv_at hl 4 rfl) ?_
                  refine lv_imul hx hb dL_suits_486 ?_
                  refine lv_iconst (v := 3) hx hb dL_suits_487 (by decide) ?_
                  refine lv_iadd hx hb dL_suits_488 ?_
                  refine lv_iload hx hb dL_suits_489 (lv_at hl 1 rfl) ?_
                  refine xr_st hC hK hI 6 (by decide) (show vp_in ((8 * (nI k)) + 3) 64 from nx_in (nx_add (nx_mul (by decide : (8 : Int32) = nI 8) rfl) (by decide : (3 : Int32) = nI 3)) (by omega) (by decide)) (n := (8 * k + 3)) (nx_ix (x := ((8 * (nI k)) + 3)) (nx_add (nx_mul (by decide : (8 : Int32) = nI 8) rfl) (by decide : (3 : Int32) = nI 3)) (by omega)) dL_suits_491 (fun H locs hI => ?_)
                  refine lv_aload hx hb dL_suits_492 (lv_at hl 14 rfl) ?_
                  refine lv_bipush (v := 8) hx hb dL_suits_494 (by decide) ?_
                  refine lv_iload hx hb dL_suits_496 (lv_at hl 4 rfl) ?_
                  refine lv_imul hx hb dL_suits_498 ?_
                  refine lv_iconst (v := 5) hx hb dL_suits_499 (by decide) ?_
                  refine lv_iadd hx hb dL_suits_500 ?_
                  refine lv_dup2_11 hx hb dL_suits_501 rfl rfl ?_
                  refine xr_ld hC hI 6 (by decide) (show vp_in ((8 * (nI k)) + 5) 64 from nx_in (nx_add (nx_mul (by decide : (8 : Int32) = nI 8) rfl) (by decide : (5 : Int32) = nI 5)) (by omega) (by decide)) (v := ((up L 6 (8 * k + 3) y448_0) 6 (8 * k + 5))) (congrArg ((up L 6 (8 * k + 3) y448_0) 6) (nx_ix (x := ((8 * (nI k)) + 5)) (nx_add (nx_mul (by decide : (8 : Int32) = nI 8) rfl) (by decide : (5 : Int32) = nI 5)) (by omega))) dL_suits_502 ?_
                  refine lv_iload hx hb dL_suits_503 (lv_at hl 1 rfl) ?_
                  refine lv_iconst (v := 1) hx hb dL_suits_505 (by decide) ?_
                  refine lv_icmp_ne (tgt := 513) hx hb dL_suits_506 (by decide) (fun c_25 => ?_) (fun c_25 => ?_)
                  · have hG := hG.trans (if_neg c_25)
                    refine lv_iconst (v := 0) hx hb dL_suits_513 (by decide) ?_
                    refine lv_ior hx hb dL_suits_514 ?_
                    refine xr_st hC hK hI 6 (by decide) (show vp_in ((8 * (nI k)) + 5) 64 from nx_in (nx_add (nx_mul (by decide : (8 : Int32) = nI 8) rfl) (by decide : (5 : Int32) = nI 5)) (by omega) (by decide)) (n := (8 * k + 5)) (nx_ix (x := ((8 * (nI k)) + 5)) (nx_add (nx_mul (by decide : (8 : Int32) = nI 8) rfl) (by decide : (5 : Int32) = nI 5)) (by omega)) dL_suits_515 (fun H locs hI => ?_)
                    refine lv_aload hx hb dL_suits_516 (lv_at hl 14 rfl) ?_
                    refine lv_bipush (v := 8) hx hb dL_suits_518 (by decide) ?_
                    refine lv_iload hx hb dL_suits_520 (lv_at hl 4 rfl) ?_
                    refine lv_imul hx hb dL_suits_522 ?_
                    refine lv_iconst (v := 4) hx hb dL_suits_523 (by decide) ?_
                    refine lv_iadd hx hb dL_suits_524 ?_
                    refine lv_iload hx hb dL_suits_525 (lv_at hl 2 rfl) ?_
                    refine lv_if_eq (tgt := 537) hx hb dL_suits_527 (by decide) (fun c_26 => ?_) (fun c_26 => ?_)
                    · have hG := hG.trans (if_pos c_26)
                      refine lv_aload hx hb dL_suits_537 (lv_at hl 14 rfl) ?_
                      refine lv_bipush (v := 8) hx hb dL_suits_539 (by decide) ?_
                      refine lv_iload hx hb dL_suits_541 (lv_at hl 4 rfl) ?_
                      refine lv_imul hx hb dL_suits_543 ?_
                      refine lv_iconst (v := 4) hx hb dL_suits_544 (by decide) ?_
                      refine lv_iadd hx hb dL_suits_545 ?_
                      refine xr_ld hC hI 6 (by decide) (show vp_in ((8 * (nI k)) + 4) 64 from nx_in (nx_add (nx_mul (by decide : (8 : Int32) = nI 8) rfl) (by decide : (4 : Int32) = nI 4)) (by omega) (by decide)) (v := ((up (up L 6 (8 * k + 3) y448_0) 6 (8 * k + 5) (((up L 6 (8 * k + 3) y448_0) 6 (8 * k + 5)) ||| 0)) 6 (8 * k + 4))) (congrArg ((up (up L 6 (8 * k + 3) y448_0) 6 (8 * k + 5) (((up L 6 (8 * k + 3) y448_0) 6 (8 * k + 5)) ||| 0)) 6) (nx_ix (x := ((8 * (nI k)) + 4)) (nx_add (nx_mul (by decide : (8 : Int32) = nI 8) rfl) (by decide : (4 : Int32) = nI 4)) (by omega))) dL_suits_546 ?_
                      refine xr_st hC hK hI 6 (by decide) (show vp_in ((8 * (nI k)) + 4) 64 from nx_in (nx_add (nx_mul (by decide : (8 : Int32) = nI 8) rfl) (by decide : (4 : Int32) = nI 4)) (by omega) (by decide)) (n := (8 * k + 4)) (nx_ix (x := ((8 * (nI k)) + 4)) (nx_add (nx_mul (by decide : (8 : Int32) = nI 8) rfl) (by decide : (4 : Int32) = nI 4)) (by omega)) dL_suits_547 (fun H locs hI => ?_)
                      refine lv_aload_n hx hb dL_suits_548 rfl (lv_at hl 5 rfl) ?_
                      refine lv_bipush (v := 6) hx hb dL_suits_549 (by decide) ?_
                      refine lv_iload hx hb dL_suits_551 (lv_at hl 4 rfl) ?_
                      refine lv_iload hx hb dL_suits_553 (lv_at hl 1 rfl) ?_
                      refine lv_iconst (v := 0) hx hb dL_suits_555 (by decide) ?_
                      have hok : ((xq7 S 6 (nI k) y448_0 0).2.1 = 0 ∨ (xq7 S 6 (nI k) y448_0 0).2.1 = 3) ∧ (if (xq7 S 6 (nI k) y448_0 0).2.1 = 0 then (xq7 S 6 (nI k) y448_0 0).1 else -1003) = (L 6 (8 * k + 3)) := XOK.c (by have h9 := hOK; rw [hG] at h9; exact h9) (by decide)
                      refine xr_cs (As := [.ref x0, .int 6, .int (nI k), .int y448_0, .int 0]) (rest := []) 6 (nI k) y448_0 0 hC hK hI (qC_choose l hC.2.1 A D cy g hK.1 S e0 mi n0 hK.2.2.2.1 hK.v hK.i x0 hK.2.2.2.2.2.2.2 (nI k) y448_0 0 hok.1) (vx_cwSW 5 hts gL_suits_L_calls rfl rfl rfl (by decide +kernel) ⟨Nat.le_of_ble_eq_true rfl, Nat.le_of_ble_eq_true rfl⟩) rfl hl.1 rfl (Nat.le_of_ble_eq_true rfl) dL_suits_556 ⟨Nat.le_of_ble_eq_true rfl, Nat.le_of_ble_eq_true rfl⟩ (fun g H locs hK hI => ?_)
                      refine lv_iload hx hb dL_suits_559 (lv_at hl 0 rfl) ?_
                      refine lv_if_eq (tgt := 569) hx hb dL_suits_561 (by decide) (fun c => absurd c (by decide : ¬ (1 : Int32) = 0)) (fun _ => ?_)
                      refine lv_iload hx hb dL_suits_564 (lv_at hl 3 rfl) ?_
                      refine lv_goto (tgt := 572) hx hb dL_suits_566 (by decide) ?_
                      refine lv_icmp_ne (tgt := 579) hx hb dL_suits_572 (by decide) (fun c9 => absurd hok.2 c9) (fun _ => ?_)
                      refine lv_iconst (v := 1) hx hb dL_suits_575 (by decide) ?_
                      refine lv_goto (tgt := 580) hx hb dL_suits_576 (by decide) ?_
                      refine W.widen (k := 8) (n := 342) (Nat.le_of_ble_eq_true rfl) (Nat.le_of_ble_eq_true rfl) ?_
                      exact W.zret (v := 1) (ty := .boolean) hx hb hr rfl (fun t9 ht9 hW9 => ⟨⟨1, g, rfl, ⟨rfl, by rw [hG]; exact hK⟩, ⟨by rw [hG, ht9]; exact hI.1, by rw [hG, ht9]; exact hI.2.1⟩⟩, hI.2.2.1.F ht9⟩) hI.2.2.1.2.2 dL_suits_580
                    · have hG := hG.trans (if_neg c_26)
                      refine lv_aload hx hb dL_suits_530 (lv_at hl 18 rfl) ?_
                      refine lv_iconst (v := 0) hx hb dL_suits_532 (by decide) ?_
                      refine xr_ld hC hI 11 (by decide) (nx_in (by decide : (0 : Int32) = nI 0) (by decide) (by decide)) (v := (L 11 0)) ((congrArg ((up (up L 6 (8 * k + 3) y448_0) 6 (8 * k + 5) (((up L 6 (8 * k + 3) y448_0) 6 (8 * k + 5)) ||| 0)) 11) (by decide : ix 0 = 0)).trans ((congrFun (up_ne (by decide)) _).trans (congrFun (up_ne (by decide)) _))) dL_suits_533 ?_
                      refine lv_goto (tgt := 547) hx hb dL_suits_534 (by decide) ?_
                      refine xr_st hC hK hI 6 (by decide) (show vp_in ((8 * (nI k)) + 4) 64 from nx_in (nx_add (nx_mul (by decide : (8 : Int32) = nI 8) rfl) (by decide : (4 : Int32) = nI 4)) (by omega) (by decide)) (n := (8 * k + 4)) (nx_ix (x := ((8 * (nI k)) + 4)) (nx_add (nx_mul (by decide : (8 : Int32) = nI 8) rfl) (by decide : (4 : Int32) = nI 4)) (by omega)) dL_suits_547 (fun H locs hI => ?_)
                      refine lv_aload_n hx hb dL_suits_548 rfl (lv_at hl 5 rfl) ?_
                      refine lv_bipush (v := 6) hx hb dL_suits_549 (by decide) ?_
                      refine lv_iload hx hb dL_suits_551 (lv_at hl 4 rfl) ?_
                      refine lv_iload hx hb dL_suits_553 (lv_at hl 1 rfl) ?_
                      refine lv_iconst (v := 0) hx hb dL_suits_555 (by decide) ?_
                      have hok : ((xq7 S 6 (nI k) y448_0 0).2.1 = 0 ∨ (xq7 S 6 (nI k) y448_0 0).2.1 = 3) ∧ (if (xq7 S 6 (nI k) y448_0 0).2.1 = 0 then (xq7 S 6 (nI k) y448_0 0).1 else -1003) = (L 6 (8 * k + 3)) := XOK.c (by have h9 := hOK; rw [hG] at h9; exact h9) (by decide)
                      refine xr_cs (As := [.ref x0, .int 6, .int (nI k), .int y448_0, .int 0]) (rest := []) 6 (nI k) y448_0 0 hC hK hI (qC_choose l hC.2.1 A D cy g hK.1 S e0 mi n0 hK.2.2.2.1 hK.v hK.i x0 hK.2.2.2.2.2.2.2 (nI k) y448_0 0 hok.1) (vx_cwSW 5 hts gL_suits_L_calls rfl rfl rfl (by decide +kernel) ⟨Nat.le_of_ble_eq_true rfl, Nat.le_of_ble_eq_true rfl⟩) rfl hl.1 rfl (Nat.le_of_ble_eq_true rfl) dL_suits_556 ⟨Nat.le_of_ble_eq_true rfl, Nat.le_of_ble_eq_true rfl⟩ (fun g H locs hK hI => ?_)
                      refine lv_iload hx hb dL_suits_559 (lv_at hl 0 rfl) ?_
                      refine lv_if_eq (tgt := 569) hx hb dL_suits_561 (by decide) (fun c => absurd c (by decide : ¬ (1 : Int32) = 0)) (fun _ => ?_)
                      refine lv_iload hx hb dL_suits_564 (lv_at hl 3 rfl) ?_
                      refine lv_goto (tgt := 572) hx hb dL_suits_566 (by decide) ?_
                      refine lv_icmp_ne (tgt := 579) hx hb dL_suits_572 (by decide) (fun c9 => absurd hok.2 c9) (fun _ => ?_)
                      refine lv_iconst (v := 1) hx hb dL_suits_575 (by decide) ?_
                      refine lv_goto (tgt := 580) hx hb dL_suits_576 (by decide) ?_
                      refine W.widen (k := 8) (n := 342) (Nat.le_of_ble_eq_true rfl) (Nat.le_of_ble_eq_true rfl) ?_
                      exact W.zret (v := 1) (ty := .boolean) hx hb hr rfl (fun t9 ht9 hW9 => ⟨⟨1, g, rfl, ⟨rfl, by rw [hG]; exact hK⟩, ⟨by rw [hG, ht9]; exact hI.1, by rw [hG, ht9]; exact hI.2.1⟩⟩, hI.2.2.1.F ht9⟩) hI.2.2.1.2.2 dL_suits_580
                  · have hG := hG.trans (if_pos c_25)
                    refine lv_iconst (v := 1) hx hb dL_suits_509 (by decide) ?_
                    refine lv_goto (tgt := 514) hx hb dL_suits_510 (by decide) ?_
                    refine lv_ior hx hb dL_suits_514 ?_
                    refine xr_st hC hK hI 6 (by decide) (show vp_in ((8 * (nI k)) + 5) 64 from nx_in (nx_add (nx_mul (by decide : (8 : Int32) = nI 8) rfl) (by decide : (5 : Int32) = nI 5)) (by omega) (by decide)) (n := (8 * k + 5)) (nx_ix (x := ((8 * (nI k)) + 5)) (nx_add (nx_mul (by decide : (8 : Int32) = nI 8) rfl) (by decide : (5 : Int32) = nI 5)) (by omega)) dL_suits_515 (fun H locs hI => ?_)
                    refine lv_aload hx hb dL_suits_516 (lv_at hl 14 rfl) ?_
                    refine lv_bipush (v := 8) hx hb dL_suits_518 (by decide) ?_
                    refine lv_iload hx hb dL_suits_520 (lv_at hl 4 rfl) ?_
                    refine lv_imul hx hb dL_suits_522 ?_
                    refine lv_iconst (v := 4) hx hb dL_suits_523 (by decide) ?_
                    refine lv_iadd hx hb dL_suits_524 ?_
                    refine lv_iload hx hb dL_suits_525 (lv_at hl 2 rfl) ?_
                    refine lv_if_eq (tgt := 537) hx hb dL_suits_527 (by decide) (fun c_27 => ?_) (fun c_27 => ?_)
                    · have hG := hG.trans (if_pos c_27)
                      refine lv_aload hx hb dL_suits_537 (lv_at hl 14 rfl) ?_
                      refine lv_bipush (v := 8) hx hb dL_suits_539 (by decide) ?_
                      refine lv_iload hx hb dL_suits_541 (lv_at hl 4 rfl) ?_
                      refine lv_imul hx hb dL_suits_543 ?_
                      refine lv_iconst (v := 4) hx hb dL_suits_544 (by decide) ?_
                      refine lv_iadd hx hb dL_suits_545 ?_
                      refine xr_ld hC hI 6 (by decide) (show vp_in ((8 * (nI k)) + 4) 64 from nx_in (nx_add (nx_mul (by decide : (8 : Int32) = nI 8) rfl) (by decide : (4 : Int32) = nI 4)) (by omega) (by decide)) (v := ((up (up L 6 (8 * k + 3) y448_0) 6 (8 * k + 5) (((up L 6 (8 * k + 3) y448_0) 6 (8 * k + 5)) ||| 1)) 6 (8 * k + 4))) (congrArg ((up (up L 6 (8 * k + 3) y448_0) 6 (8 * k + 5) (((up L 6 (8 * k + 3) y448_0) 6 (8 * k + 5)) ||| 1)) 6) (nx_ix (x := ((8 * (nI k)) + 4)) (nx_add (nx_mul (by decide : (8 : Int32) = nI 8) rfl) (by decide : (4 : Int32) = nI 4)) (by omega))) dL_suits_546 ?_
                      refine xr_st hC hK hI 6 (by decide) (show vp_in ((8 * (nI k)) + 4) 64 from nx_in (nx_add (nx_mul (by decide : (8 : Int32) = nI 8) rfl) (by decide : (4 : Int32) = nI 4)) (by omega) (by decide)) (n := (8 * k + 4)) (nx_ix (x := ((8 * (nI k)) + 4)) (nx_add (nx_mul (by decide : (8 : Int32) = nI 8) rfl) (by decide : (4 : Int32) = nI 4)) (by omega)) dL_suits_547 (fun H locs hI => ?_)
                      refine lv_aload_n hx hb dL_suits_548 rfl (lv_at hl 5 rfl) ?_
                      refine lv_bipush (v := 6) hx hb dL_suits_549 (by decide) ?_
                      refine lv_iload hx hb dL_suits_551 (lv_at hl 4 rfl) ?_
                      refine lv_iload hx hb dL_suits_553 (lv_at hl 1 rfl) ?_
                      refine lv_iconst (v := 0) hx hb dL_suits_555 (by decide) ?_
                      have hok : ((xq7 S 6 (nI k) y448_0 0).2.1 = 0 ∨ (xq7 S 6 (nI k) y448_0 0).2.1 = 3) ∧ (if (xq7 S 6 (nI k) y448_0 0).2.1 = 0 then (xq7 S 6 (nI k) y448_0 0).1 else -1003) = (L 6 (8 * k + 3)) := XOK.c (by have h9 := hOK; rw [hG] at h9; exact h9) (by decide)
                      refine xr_cs (As := [.ref x0, .int 6, .int (nI k), .int y448_0, .int 0]) (rest := []) 6 (nI k) y448_0 0 hC hK hI (qC_choose l hC.2.1 A D cy g hK.1 S e0 mi n0 hK.2.2.2.1 hK.v hK.i x0 hK.2.2.2.2.2.2.2 (nI k) y448_0 0 hok.1) (vx_cwSW 5 hts gL_suits_L_calls rfl rfl rfl (by decide +kernel) ⟨Nat.le_of_ble_eq_true rfl, Nat.le_of_ble_eq_true rfl⟩) rfl hl.1 rfl (Nat.le_of_ble_eq_true rfl) dL_suits_556 ⟨Nat.le_of_ble_eq_true rfl, Nat.le_of_ble_eq_true rfl⟩ (fun g H locs hK hI => ?_)
                      refine lv_iload hx hb dL_suits_559 (lv_at hl 0 rfl) ?_
                      refine lv_if_eq (tgt := 569) hx hb dL_suits_561 (by decide) (fun c => absurd c (by decide : ¬ (1 : Int32) = 0)) (fun _ => ?_)
                      refine lv_iload hx hb dL_suits_564 (lv_at hl 3 rfl) ?_
                      refine lv_goto (tgt := 572) hx hb dL_suits_566 (by decide) ?_
                      refine lv_icmp_ne (tgt := 579) hx hb dL_suits_572 (by decide) (fun c9 => absurd hok.2 c9) (fun _ => ?_)
                      refine lv_iconst (v := 1) hx hb dL_suits_575 (by decide) ?_
                      refine lv_goto (tgt := 580) hx hb dL_suits_576 (by decide) ?_
                      refine W.widen (k := 8) (n := 342) (Nat.le_of_ble_eq_true rfl) (Nat.le_of_ble_eq_true rfl) ?_
                      exact W.zret (v := 1) (ty := .boolean) hx hb hr rfl (fun t9 ht9 hW9 => ⟨⟨1, g, rfl, ⟨rfl, by rw [hG]; exact hK⟩, ⟨by rw [hG, ht9]; exact hI.1, by rw [hG, ht9]; exact hI.2.1⟩⟩, hI.2.2.1.F ht9⟩) hI.2.2.1.2.2 dL_suits_580
                    · have hG := hG.trans (if_neg c_27)
                      refine lv_aload hx hb dL_suits_530 (lv_at hl 18 rfl) ?_
                      refine lv_iconst (v := 0) hx hb dL_suits_532 (by decide) ?_
                      refine xr_ld hC hI 11 (by decide) (nx_in (by decide : (0 : Int32) = nI 0) (by decide) (by decide)) (v := (L 11 0)) ((congrArg ((up (up L 6 (8 * k + 3) y448_0) 6 (8 * k + 5) (((up L 6 (8 * k + 3) y448_0) 6 (8 * k + 5)) ||| 1)) 11) (by decide : ix 0 = 0)).trans ((congrFun (up_ne (by decide)) _).trans (congrFun (up_ne (by decide)) _))) dL_suits_533 ?_
                      refine lv_goto (tgt := 547) hx hb dL_suits_534 (by decide) ?_
                      refine xr_st hC hK hI 6 (by decide) (show vp_in ((8 * (nI k)) + 4) 64 from nx_in (nx_add (nx_mul (by decide : (8 : Int32) = nI 8) rfl) (by decide : (4 : Int32) = nI 4)) (by omega) (by decide)) (n := (8 * k + 4)) (nx_ix (x := ((8 * (nI k)) + 4)) (nx_add (nx_mul (by decide : (8 : Int32) = nI 8) rfl) (by decide : (4 : Int32) = nI 4)) (by omega)) dL_suits_547 (fun H locs hI => ?_)
                      refine lv_aload_n hx hb dL_suits_548 rfl (lv_at hl 5 rfl) ?_
                      refine lv_bipush (v := 6) hx hb dL_suits_549 (by decide) ?_
                      refine lv_iload hx hb dL_suits_551 (lv_at hl 4 rfl) ?_
                      refine lv_iload hx hb dL_suits_553 (lv_at hl 1 rfl) ?_
                      refine lv_iconst (v := 0) hx hb dL_suits_555 (by decide) ?_
                      have hok : ((xq7 S 6 (nI k) y448_0 0).2.1 = 0 ∨ (xq7 S 6 (nI k) y448_0 0).2.1 = 3) ∧ (if (xq7 S 6 (nI k) y448_0 0).2.1 = 0 then (xq7 S 6 (nI k) y448_0 0).1 else -1003) = (L 6 (8 * k + 3)) := XOK.c (by have h9 := hOK; rw [hG] at h9; exact h9) (by decide)
                      refine xr_cs (As := [.ref x0, .int 6, .int (nI k), .int y448_0, .int 0]) (rest := []) 6 (nI k) y448_0 0 hC hK hI (qC_choose l hC.2.1 A D cy g hK.1 S e0 mi n0 hK.2.2.2.1 hK.v hK.i x0 hK.2.2.2.2.2.2.2 (nI k) y448_0 0 hok.1) (vx_cwSW 5 hts gL_suits_L_calls rfl rfl rfl (by decide +kernel) ⟨Nat.le_of_ble_eq_true rfl, Nat.le_of_ble_eq_true rfl⟩) rfl hl.1 rfl (Nat.le_of_ble_eq_true rfl) dL_suits_556 ⟨Nat.le_of_ble_eq_true rfl, Nat.le_of_ble_eq_true rfl⟩ (fun g H locs hK hI => ?_)
                      refine lv_iload hx hb dL_suits_559 (lv_at hl 0 rfl) ?_
                      refine lv_if_eq (tgt := 569) hx hb dL_suits_561 (by decide) (fun c => absurd c (by decide : ¬ (1 : Int32) = 0)) (fun _ => ?_)
                      refine lv_iload hx hb dL_suits_564 (lv_at hl 3 rfl) ?_
                      refine lv_goto (tgt := 572) hx hb dL_suits_566 (by decide) ?_
                      refine lv_icmp_ne (tgt := 579) hx hb dL_suits_572 (by decide) (fun c9 => absurd hok.2 c9) (fun _ => ?_)
                      refine lv_iconst (v := 1) hx hb dL_suits_575 (by decide) ?_
                      refine lv_goto (tgt := 580) hx hb dL_suits_576 (by decide) ?_
                      refine W.widen (k := 8) (n := 342) (Nat.le_of_ble_eq_true rfl) (Nat.le_of_ble_eq_true rfl) ?_
                      exact W.zret (v := 1) (ty := .boolean) hx hb hr rfl (fun t9 ht9 hW9 => ⟨⟨1, g, rfl, ⟨rfl, by rw [hG]; exact hK⟩, ⟨by rw [hG, ht9]; exact hI.1, by rw [hG, ht9]; exact hI.2.1⟩⟩, hI.2.2.1.F ht9⟩) hI.2.2.1.2.2 dL_suits_580
          · have hB448 : jL_suits_448 zv = jL_suits_448 zv := rfl
            refine lv_if_ne (tgt := 439) hx hb dL_suits_432 (by decide) (fun c_18 => ?_) (fun c_18 => ?_)
            · have hB448 := hB448.trans (if_neg c_18)
              refine lv_iconst (v := 1) hx hb dL_suits_439 (by decide) ?_
              refine lv_iload_n hx hb dL_suits_440 rfl (lv_at hl 5 rfl) ?_
              refine lv_iconst (v := 4) hx hb dL_suits_441 (by decide) ?_
              refine lv_ishr hx hb dL_suits_442 ?_
              refine lv_iconst (v := 2) hx hb dL_suits_443 (by decide) ?_
              refine xr_callS (As := [.int (zv >>> ((4 : Int32) &&& 31)), .int 2]) (rest := [.int 1]) hC hI (qL_low l (zv >>> ((4 : Int32) &&& 31)) 2 (by decide)) (va_cwS 2 hts gL_suits_L_low rfl rfl rfl (by decide +kernel) ⟨Nat.le_of_ble_eq_true rfl, Nat.le_of_ble_eq_true rfl⟩) rfl hl.1 rfl (Nat.le_of_ble_eq_true rfl) dL_suits_444 ⟨Nat.le_of_ble_eq_true rfl, Nat.le_of_ble_eq_true rfl⟩ (fun H locs hI => ?_)
              refine lv_iadd hx hb dL_suits_447 ?_
              exact J448 (1 + (fL_low (zv >>> ((4 : Int32) &&& 31)) 2)) _ _ ls ⟨hB448, hI, lv_sub hl [0, 1, 2, 3, 4, 5, 6, 7, 8, 9, 10, 11, 12, 13, 14, 15, 16] rfl⟩
            · have hB448 := hB448.trans (if_pos c_18)
              refine lv_iconst (v := 3) hx hb dL_suits_435 (by decide) ?_
              refine lv_goto (tgt := 448) hx hb dL_suits_436 (by decide) ?_
              exact J448 3 _ _ ls ⟨hB448, hI, lv_sub hl [0, 1, 2, 3, 4, 5, 6, 7, 8, 9, 10, 11, 12, 13, 14, 15, 16] rfl⟩
      · have hG := hG.trans (if_pos c_3)
        refine lv_iload hx hb dL_suits_303 (lv_at hl 0 rfl) ?_
        refine lv_if_eq (tgt := 329) hx hb dL_suits_305 (by decide) (fun c_28 => ?_) (fun c_28 => ?_)
        · have hG := hG.trans (if_pos c_28)
          refine lv_iconst (v := 0) hx hb dL_suits_329 (by decide) ?_
          refine lv_istore (lv' := [(17, .int 0), (16, .int y44_0), (15, .int (L 6 (8 * k + 3))), (14, .int (nI k)), (0, .ref x0), (1, .int act), (2, .int zv), (3, .ref (la 0)), (4, .ref (la 1)), (5, .ref (la 2)), (6, .ref (la 3)), (7, .ref (la 4)), (8, .ref (la 5)), (9, .ref (la 6)), (10, .ref (la 7)), (11, .ref (la 8)), (12, .ref (la 9)), (13, .ref (la 11))]) hx hb dL_suits_330 hl (by decide) rfl (fun ls hl => ?_)
          refine lv_aload hx hb dL_suits_332 (lv_at hl 13 rfl) ?_
          refine lv_bipush (v := 8) hx hb dL_suits_334 (by decide) ?_
          refine lv_iload hx hb dL_suits_336 (lv_at hl 3 rfl) ?_
          refine lv_imul hx hb dL_suits_338 ?_
          refine lv_iconst (v := 5) hx hb dL_suits_339 (by decide) ?_
          refine lv_iadd hx hb dL_suits_340 ?_
          refine lv_dup2_11 hx hb dL_suits_341 rfl rfl ?_
          refine xr_ld hC hI 6 (by decide) (show vp_in ((8 * (nI k)) + 5) 64 from nx_in (nx_add (nx_mul (by decide : (8 : Int32) = nI 8) rfl) (by decide : (5 : Int32) = nI 5)) (by omega) (by decide)) (v := (L 6 (8 * k + 5))) (congrArg (L 6) (nx_ix (x := ((8 * (nI k)) + 5)) (nx_add (nx_mul (by decide : (8 : Int32) = nI 8) rfl) (by decide : (5 : Int32) = nI 5)) (by omega))) dL_suits_342 ?_
          refine lv_iload hx hb dL_suits_343 (lv_at hl 0 rfl) ?_
          refine lv_if_eq (tgt := 353) hx hb dL_suits_345 (by decide) (fun _ => ?_) (fun c => absurd (by decide : (0 : Int32) = 0) c)
          refine lv_iconst (v := 0) hx hb dL_suits_353 (by decide) ?_
          refine lv_iadd hx hb dL_suits_354 ?_
          refine xr_st hC hK hI 6 (by decide) (show vp_in ((8 * (nI k)) + 5) 64 from nx_in (nx_add (nx_mul (by decide : (8 : Int32) = nI 8) rfl) (by decide : (5 : Int32) = nI 5)) (by omega) (by decide)) (n := (8 * k + 5)) (nx_ix (x := ((8 * (nI k)) + 5)) (nx_add (nx_mul (by decide : (8 : Int32) = nI 8) rfl) (by decide : (5 : Int32) = nI 5)) (by omega)) dL_suits_355 (fun H locs hI => ?_)
          refine lv_aload hx hb dL_suits_356 (lv_at hl 13 rfl) ?_
          refine lv_bipush (v := 8) hx hb dL_suits_358 (by decide) ?_
          refine lv_iload hx hb dL_suits_360 (lv_at hl 3 rfl) ?_
          refine lv_imul hx hb dL_suits_362 ?_
          refine lv_iconst (v := 4) hx hb dL_suits_363 (by decide) ?_
          refine lv_iadd hx hb dL_suits_364 ?_
          refine lv_dup2_11 hx hb dL_suits_365 rfl rfl ?_
          refine xr_ld hC hI 6 (by decide) (show vp_in ((8 * (nI k)) + 4) 64 from nx_in (nx_add (nx_mul (by decide : (8 : Int32) = nI 8) rfl) (by decide : (4 : Int32) = nI 4)) (by omega) (by decide)) (v := ((up L 6 (8 * k + 5) ((L 6 (8 * k + 5)) + 0)) 6 (8 * k + 4))) (congrArg ((up L 6 (8 * k + 5) ((L 6 (8 * k + 5)) + 0)) 6) (nx_ix (x := ((8 * (nI k)) + 4)) (nx_add (nx_mul (by decide : (8 : Int32) = nI 8) rfl) (by decide : (4 : Int32) = nI 4)) (by omega))) dL_suits_366 ?_
          refine lv_iload hx hb dL_suits_367 (lv_at hl 0 rfl) ?_
          refine lv_if_eq (tgt := 377) hx hb dL_suits_369 (by decide) (fun _ => ?_) (fun c => absurd (by decide : (0 : Int32) = 0) c)
          refine lv_iconst (v := 0) hx hb dL_suits_377 (by decide) ?_
          refine lv_iadd hx hb dL_suits_378 ?_
          refine xr_st hC hK hI 6 (by decide) (show vp_in ((8 * (nI k)) + 4) 64 from nx_in (nx_add (nx_mul (by decide : (8 : Int32) = nI 8) rfl) (by decide : (4 : Int32) = nI 4)) (by omega) (by decide)) (n := (8 * k + 4)) (nx_ix (x := ((8 * (nI k)) + 4)) (nx_add (nx_mul (by decide : (8 : Int32) = nI 8) rfl) (by decide : (4 : Int32) = nI 4)) (by omega)) dL_suits_379 (fun H locs hI => ?_)
          refine lv_aload_n hx hb dL_suits_380 rfl (lv_at hl 4 rfl) ?_
          refine lv_iconst (v := 5) hx hb dL_suits_381 (by decide) ?_
          refine lv_iload hx hb dL_suits_382 (lv_at hl 3 rfl) ?_
          refine lv_iconst (v := 0) hx hb dL_suits_384 (by decide) ?_
          refine lv_iconst (v := 0) hx hb dL_suits_385 (by decide) ?_
          have hok : ((xq7 S 5 (nI k) 0 0).2.1 = 0 ∨ (xq7 S 5 (nI k) 0 0).2.1 = 3) ∧ (if (xq7 S 5 (nI k) 0 0).2.1 = 0 then (xq7 S 5 (nI k) 0 0).1 else -1003) = (-1003) := XOK.c (by have h9 := hOK; rw [hG] at h9; exact h9) (by decide)
          refine xr_cs (As := [.ref x0, .int 5, .int (nI k), .int 0, .int 0]) (rest := []) 5 (nI k) 0 0 hC hK hI (qC_extend l hC.2.1 A D cy g hK.1 S e0 mi n0 hK.2.2.2.1 hK.v hK.i x0 hK.2.2.2.2.2.2.2 (nI k) 0 0 hok.1) (vx_cwSW 5 hts gL_suits_L_calls rfl rfl rfl (by decide +kernel) ⟨Nat.le_of_ble_eq_true rfl, Nat.le_of_ble_eq_true rfl⟩) rfl hl.1 rfl (Nat.le_of_ble_eq_true rfl) dL_suits_386 ⟨Nat.le_of_ble_eq_true rfl, Nat.le_of_ble_eq_true rfl⟩ (fun g H locs hK hI => ?_)
          refine lv_iload hx hb dL_suits_389 (lv_at hl 0 rfl) ?_
          refine lv_if_eq (tgt := 407) hx hb dL_suits_391 (by decide) (fun _ => ?_) (fun c => absurd (by decide : (0 : Int32) = 0) c)
          refine lv_sipush (v := (-1003)) hx hb dL_suits_407 (by decide) ?_
          refine lv_icmp_ne (tgt := 417) hx hb dL_suits_410 (by decide) (fun c9 => absurd hok.2 c9) (fun _ => ?_)
          refine lv_iconst (v := 1) hx hb dL_suits_413 (by decide) ?_
          refine lv_goto (tgt := 418) hx hb dL_suits_414 (by decide) ?_
          refine W.widen (k := 8) (n := 342) (Nat.le_of_ble_eq_true rfl) (Nat.le_of_ble_eq_true rfl) ?_
          exact W.zret (v := 1) (ty := .boolean) hx hb hr rfl (fun t9 ht9 hW9 => ⟨⟨1, g, rfl, ⟨rfl, by rw [hG]; exact hK⟩, ⟨by rw [hG, ht9]; exact hI.1, by rw [hG, ht9]; exact hI.2.1⟩⟩, hI.2.2.1.F ht9⟩) hI.2.2.1.2.2 dL_suits_418
        · have hG := hG.trans (if_neg c_28)
          refine lv_aload hx hb dL_suits_308 (lv_at hl 12 rfl) ?_
          refine lv_bipush (v := 8) hx hb dL_suits_310 (by decide) ?_
          refine lv_iload hx hb dL_suits_312 (lv_at hl 2 rfl) ?_
          refine lv_imul hx hb dL_suits_314 ?_
          refine lv_iconst (v := 5) hx hb dL_suits_315 (by decide) ?_
          refine lv_iadd hx hb dL_suits_316 ?_
          refine xr_ld hC hI 6 (by decide) (show vp_in ((8 * (nI k)) + 5) 64 from nx_in (nx_add (nx_mul (by decide : (8 : Int32) = nI 8) rfl) (by decide : (5 : Int32) = nI 5)) (by omega) (by decide)) (v := (L 6 (8 * k + 5))) (congrArg (L 6) (nx_ix (x := ((8 * (nI k)) + 5)) (nx_add (nx_mul (by decide : (8 : Int32) = nI 8) rfl) (by decide : (5 : Int32) = nI 5)) (by omega))) dL_suits_317 ?_
          refine lv_bipush (v := 8) hx hb dL_suits_318 (by decide) ?_
          refine lv_idiv hx hb dL_suits_320 (by decide) ?_
          refine lv_iconst (v := 4) hx hb dL_suits_321 (by decide) ?_
          refine lv_icmp_ge (tgt := 329) hx hb dL_suits_322 (by decide) (fun c_29 => ?_) (fun c_29 => ?_)
          · have hG := hG.trans (if_pos c_29)
            refine lv_iconst (v := 0) hx hb dL_suits_329 (by decide) ?_
            refine lv_istore (lv' := [(17, .int 0), (16, .int y44_0), (15, .int (L 6 (8 * k + 3))), (14, .int (nI k)), (0, .ref x0), (1, .int act), (2, .int zv), (3, .ref (la 0)), (4, .ref (la 1)), (5, .ref (la 2)), (6, .ref (la 3)), (7, .ref (la 4)), (8, .ref (la 5)), (9, .ref (la 6)), (10, .ref (la 7)), (11, .ref (la 8)), (12, .ref (la 9)), (13, .ref (la 11))]) hx hb dL_suits_330 hl (by decide) rfl (fun ls hl => ?_)
            refine lv_aload hx hb dL_suits_332 (lv_at hl 13 rfl) ?_
            refine lv_bipush (v := 8) hx hb dL_suits_334 (by decide) ?_
            refine lv_iload hx hb dL_suits_336 (lv_at hl 3 rfl) ?_
            refine lv_imul hx hb dL_suits_338 ?_
            refine lv_iconst (v := 5) hx hb dL_suits_339 (by decide) ?_
            refine lv_iadd hx hb dL_suits_340 ?_
            refine lv_dup2_11 hx hb dL_suits_341 rfl rfl ?_
            refine xr_ld hC hI 6 (by decide) (show vp_in ((8 * (nI k)) + 5) 64 from nx_in (nx_add (nx_mul (by decide : (8 : Int32) = nI 8) rfl) (by decide : (5 : Int32) = nI 5)) (by omega) (by decide)) (v := (L 6 (8 * k + 5))) (congrArg (L 6) (nx_ix (x := ((8 * (nI k)) + 5)) (nx_add (nx_mul (by decide : (8 : Int32) = nI 8) rfl) (by decide : (5 : Int32) = nI 5)) (by omega))) dL_suits_342 ?_
            refine lv_iload hx hb dL_suits_343 (lv_at hl 0 rfl) ?_
            refine lv_if_eq (tgt := 353) hx hb dL_suits_345 (by decide) (fun _ => ?_) (fun c => absurd (by decide : (0 : Int32) = 0) c)
            refine lv_iconst (v := 0) hx hb dL_suits_353 (by decide) ?_
            refine lv_iadd hx hb dL_suits_354 ?_
            refine xr_st hC hK hI 6 (by decide) (show vp_in ((8 * (nI k)) + 5) 64 from nx_in (nx_add (nx_mul (by decide : (8 : Int32) = nI 8) rfl) (by decide : (5 : Int32) = nI 5)) (by omega) (by decide)) (n := (8 * k + 5)) (nx_ix (x := ((8 * (nI k)) + 5)) (nx_add (nx_mul (by decide : (8 : Int32) = nI 8) rfl) (by decide : (5 : Int32) = nI 5)) (by omega)) dL_suits_355 (fun H locs hI => ?_)
            refine lv_aload hx hb dL_suits_356 (lv_at hl 13 rfl) ?_
            refine lv_bipush (v := 8) hx hb dL_suits_358 (by decide) ?_
            refine lv_iload hx hb dL_suits_360 (lv_at hl 3 rfl) ?_
            refine lv_imul hx hb dL_suits_362 ?_
            refine lv_iconst (v := 4) hx hb dL_suits_363 (by decide) ?_
            refine lv_iadd hx hb dL_suits_364 ?_
            refine lv_dup2_11 hx hb dL_suits_365 rfl rfl ?_
            refine xr_ld hC hI 6 (by decide) (show vp_in ((8 * (nI k)) + 4) 64 from nx_in (nx_add (nx_mul (by decide : (8 : Int32) = nI 8) rfl) (by decide : (4 : Int32) = nI 4)) (by omega) (by decide)) (v := ((up L 6 (8 * k + 5) ((L 6 (8 * k + 5)) + 0)) 6 (8 * k + 4))) (congrArg ((up L 6 (8 * k + 5) ((L 6 (8 * k + 5)) + 0)) 6) (nx_ix (x := ((8 * (nI k)) + 4)) (nx_add (nx_mul (by decide : (8 : Int32) = nI 8) rfl) (by decide : (4 : Int32) = nI 4)) (by omega))) dL_suits_366 ?_
            refine lv_iload hx hb dL_suits_367 (lv_at hl 0 rfl) ?_
            refine lv_if_eq (tgt := 377) hx hb dL_suits_369 (by decide) (fun _ => ?_) (fun c => absurd (by decide : (0 : Int32) = 0) c)
            refine lv_iconst (v := 0) hx hb dL_suits_377 (by decide) ?_
            refine lv_iadd hx hb dL_suits_378 ?_
            refine xr_st hC hK hI 6 (by decide) (show vp_in ((8 * (nI k)) + 4) 64 from nx_in (nx_add (nx_mul (by decide : (8 : Int32) = nI 8) rfl) (by decide : (4 : Int32) = nI 4)) (by omega) (by decide)) (n := (8 * k + 4)) (nx_ix (x := ((8 * (nI k)) + 4)) (nx_add (nx_mul (by decide : (8 : Int32) = nI 8) rfl) (by decide : (4 : Int32) = nI 4)) (by omega)) dL_suits_379 (fun H locs hI => ?_)
            refine lv_aload_n hx hb dL_suits_380 rfl (lv_at hl 4 rfl) ?_
            refine lv_iconst (v := 5) hx hb dL_suits_381 (by decide) ?_
            refine lv_iload hx hb dL_suits_382 (lv_at hl 3 rfl) ?_
            refine lv_iconst (v := 0) hx hb dL_suits_384 (by decide) ?_
            refine lv_iconst (v := 0) hx hb dL_suits_385 (by decide) ?_
            have hok : ((xq7 S 5 (nI k) 0 0).2.1 = 0 ∨ (xq7 S 5 (nI k) 0 0).2.1 = 3) ∧ (if (xq7 S 5 (nI k) 0 0).2.1 = 0 then (xq7 S 5 (nI k) 0 0).1 else -1003) = (-1003) := XOK.c (by have h9 := hOK; rw [hG] at h9; exact h9) (by decide)
            refine xr_cs (As := [.ref x0, .int 5, .int (nI k), .int 0, .int 0]) (rest := []) 5 (nI k) 0 0 hC hK hI (qC_extend l hC.2.1 A D cy g hK.1 S e0 mi n0 hK.2.2.2.1 hK.v hK.i x0 hK.2.2.2.2.2.2.2 (nI k) 0 0 hok.1) (vx_cwSW 5 hts gL_suits_L_calls rfl rfl rfl (by decide +kernel) ⟨Nat.le_of_ble_eq_true rfl, Nat.le_of_ble_eq_true rfl⟩) rfl hl.1 rfl (Nat.le_of_ble_eq_true rfl) dL_suits_386 ⟨Nat.le_of_ble_eq_true rfl, Nat.le_of_ble_eq_true rfl⟩ (fun g H locs hK hI => ?_)
            refine lv_iload hx hb dL_suits_389 (lv_at hl 0 rfl) ?_
            refine lv_if_eq (tgt := 407) hx hb dL_suits_391 (by decide) (fun _ => ?_) (fun c => absurd (by decide : (0 : Int32) = 0) c)
            refine lv_sipush (v := (-1003)) hx hb dL_suits_407 (by decide) ?_
            refine lv_icmp_ne (tgt := 417) hx hb dL_suits_410 (by decide) (fun c9 => absurd hok.2 c9) (fun _ => ?_)
            refine lv_iconst (v := 1) hx hb dL_suits_413 (by decide) ?_
            refine lv_goto (tgt := 418) hx hb dL_suits_414 (by decide) ?_
            refine W.widen (k := 8) (n := 342) (Nat.le_of_ble_eq_true rfl) (Nat.le_of_ble_eq_true rfl) ?_
            exact W.zret (v := 1) (ty := .boolean) hx hb hr rfl (fun t9 ht9 hW9 => ⟨⟨1, g, rfl, ⟨rfl, by rw [hG]; exact hK⟩, ⟨by rw [hG, ht9]; exact hI.1, by rw [hG, ht9]; exact hI.2.1⟩⟩, hI.2.2.1.F ht9⟩) hI.2.2.1.2.2 dL_suits_418
          · have hG := hG.trans (if_neg c_29)
            refine lv_iconst (v := 1) hx hb dL_suits_325 (by decide) ?_
            refine lv_goto (tgt := 330) hx hb dL_suits_326 (by decide) ?_
            refine lv_istore (lv' := [(17, .int 1), (16, .int y44_0), (15, .int (L 6 (8 * k + 3))), (14, .int (nI k)), (0, .ref x0), (1, .int act), (2, .int zv), (3, .ref (la 0)), (4, .ref (la 1)), (5, .ref (la 2)), (6, .ref (la 3)), (7, .ref (la 4)), (8, .ref (la 5)), (9, .ref (la 6)), (10, .ref (la 7)), (11, .ref (la 8)), (12, .ref (la 9)), (13, .ref (la 11))]) hx hb dL_suits_330 hl (by decide) rfl (fun ls hl => ?_)
            refine lv_aload hx hb dL_suits_332 (lv_at hl 13 rfl) ?_
            refine lv_bipush (v := 8) hx hb dL_suits_334 (by decide) ?_
            refine lv_iload hx hb dL_suits_336 (lv_at hl 3 rfl) ?_
            refine lv_imul hx hb dL_suits_338 ?_
            refine lv_iconst (v := 5) hx hb dL_suits_339 (by decide) ?_
            refine lv_iadd hx hb dL_suits_340 ?_
            refine lv_dup2_11 hx hb dL_suits_341 rfl rfl ?_
            refine xr_ld hC hI 6 (by decide) (show vp_in ((8 * (nI k)) + 5) 64 from nx_in (nx_add (nx_mul (by decide : (8 : Int32) = nI 8) rfl) (by decide : (5 : Int32) = nI 5)) (by omega) (by decide)) (v := (L 6 (8 * k + 5))) (congrArg (L 6) (nx_ix (x := ((8 * (nI k)) + 5)) (nx_add (nx_mul (by decide : (8 : Int32) = nI 8) rfl) (by decide : (5 : Int32) = nI 5)) (by omega))) dL_suits_342 ?_
            refine lv_iload hx hb dL_suits_343 (lv_at hl 0 rfl) ?_
            refine lv_if_eq (tgt := 353) hx hb dL_suits_345 (by decide) (fun c => absurd c (by decide : ¬ (1 : Int32) = 0)) (fun _ => ?_)
            refine lv_bipush (v := 8) hx hb dL_suits_348 (by decide) ?_
            refine lv_goto (tgt := 354) hx hb dL_suits_350 (by decide) ?_
            refine lv_iadd hx hb dL_suits_354 ?_
            refine xr_st hC hK hI 6 (by decide) (show vp_in ((8 * (nI k)) + 5) 64 from nx_in (nx_add (nx_mul (by decide : (8 : Int32) = nI 8) rfl) (by decide : (5 : Int32) = nI 5)) (by omega) (by decide)) (n := (8 * k + 5)) (nx_ix (x := ((8 * (nI k)) + 5)) (nx_add (nx_mul (by decide : (8 : Int32) = nI 8) rfl) (by decide : (5 : Int32) = nI 5)) (by omega)) dL_suits_355 (fun H locs hI => ?_)
            refine lv_aload hx hb dL_suits_356 (lv_at hl 13 rfl) ?_
            refine lv_bipush (v := 8) hx hb dL_suits_358 (by decide) ?_
            refine lv_iload hx hb dL_suits_360 (lv_at hl 3 rfl) ?_
            refine lv_imul hx hb dL_suits_362 ?_
            refine lv_iconst (v := 4) hx hb dL_suits_363 (by decide) ?_
            refine lv_iadd hx hb dL_suits_364 ?_
            refine lv_dup2_11 hx hb dL_suits_365 rfl rfl ?_
            refine xr_ld hC hI 6 (by decide) (show vp_in ((8 * (nI k)) + 4) 64 from nx_in (nx_add (nx_mul (by decide : (8 : Int32) = nI 8) rfl) (by decide : (4 : Int32) = nI 4)) (by omega) (by decide)) (v := ((up L 6 (8 * k + 5) ((L 6 (8 * k + 5)) + 8)) 6 (8 * k + 4))) (congrArg ((up L 6 (8 * k + 5) ((L 6 (8 * k + 5)) + 8)) 6) (nx_ix (x := ((8 * (nI k)) + 4)) (nx_add (nx_mul (by decide : (8 : Int32) = nI 8) rfl) (by decide : (4 : Int32) = nI 4)) (by omega))) dL_suits_366 ?_
            refine lv_iload hx hb dL_suits_367 (lv_at hl 0 rfl) ?_
            refine lv_if_eq (tgt := 377) hx hb dL_suits_369 (by decide) (fun c => absurd c (by decide : ¬ (1 : Int32) = 0)) (fun _ => ?_)
            refine lv_bipush (v := 30) hx hb dL_suits_372 (by decide) ?_
            refine lv_goto (tgt := 378) hx hb dL_suits_374 (by decide) ?_
            refine lv_iadd hx hb dL_suits_378 ?_
            refine xr_st hC hK hI 6 (by decide) (show vp_in ((8 * (nI k)) + 4) 64 from nx_in (nx_add (nx_mul (by decide : (8 : Int32) = nI 8) rfl) (by decide : (4 : Int32) = nI 4)) (by omega) (by decide)) (n := (8 * k + 4)) (nx_ix (x := ((8 * (nI k)) + 4)) (nx_add (nx_mul (by decide : (8 : Int32) = nI 8) rfl) (by decide : (4 : Int32) = nI 4)) (by omega)) dL_suits_379 (fun H locs hI => ?_)
            refine lv_aload_n hx hb dL_suits_380 rfl (lv_at hl 4 rfl) ?_
            refine lv_iconst (v := 5) hx hb dL_suits_381 (by decide) ?_
            refine lv_iload hx hb dL_suits_382 (lv_at hl 3 rfl) ?_
            refine lv_iconst (v := 0) hx hb dL_suits_384 (by decide) ?_
            refine lv_iconst (v := 0) hx hb dL_suits_385 (by decide) ?_
            have hok : ((xq7 S 5 (nI k) 0 0).2.1 = 0 ∨ (xq7 S 5 (nI k) 0 0).2.1 = 3) ∧ (if (xq7 S 5 (nI k) 0 0).2.1 = 0 then (xq7 S 5 (nI k) 0 0).1 else -1003) = (((up L 6 (8 * k + 5) ((L 6 (8 * k + 5)) + 8)) 6 (8 * k + 4)) + 30) := XOK.c (by have h9 := hOK; rw [hG] at h9; exact h9) (by decide)
            refine xr_cs (As := [.ref x0, .int 5, .int (nI k), .int 0, .int 0]) (rest := []) 5 (nI k) 0 0 hC hK hI (qC_extend l hC.2.1 A D cy g hK.1 S e0 mi n0 hK.2.2.2.1 hK.v hK.i x0 hK.2.2.2.2.2.2.2 (nI k) 0 0 hok.1) (vx_cwSW 5 hts gL_suits_L_calls rfl rfl rfl (by decide +kernel) ⟨Nat.le_of_ble_eq_true rfl, Nat.le_of_ble_eq_true rfl⟩) rfl hl.1 rfl (Nat.le_of_ble_eq_true rfl) dL_suits_386 ⟨Nat.le_of_ble_eq_true rfl, Nat.le_of_ble_eq_true rfl⟩ (fun g H locs hK hI => ?_)
            refine lv_iload hx hb dL_suits_389 (lv_at hl 0 rfl) ?_
            refine lv_if_eq (tgt := 407) hx hb dL_suits_391 (by decide) (fun c => absurd c (by decide : ¬ (1 : Int32) = 0)) (fun _ => ?_)
            refine lv_aload hx hb dL_suits_394 (lv_at hl 13 rfl) ?_
            refine lv_bipush (v := 8) hx hb dL_suits_396 (by decide) ?_
            refine lv_iload hx hb dL_suits_398 (lv_at hl 3 rfl) ?_
            refine lv_imul hx hb dL_suits_400 ?_
            refine lv_iconst (v := 4) hx hb dL_suits_401 (by decide) ?_
            refine lv_iadd hx hb dL_suits_402 ?_
            refine xr_ld hC hI 6 (by decide) (show vp_in ((8 * (nI k)) + 4) 64 from nx_in (nx_add (nx_mul (by decide : (8 : Int32) = nI 8) rfl) (by decide : (4 : Int32) = nI 4)) (by omega) (by decide)) (v := (((up L 6 (8 * k + 5) ((L 6 (8 * k + 5)) + 8)) 6 (8 * k + 4)) + 30)) ((congrArg ((up (up L 6 (8 * k + 5) ((L 6 (8 * k + 5)) + 8)) 6 (8 * k + 4) (((up L 6 (8 * k + 5) ((L 6 (8 * k + 5)) + 8)) 6 (8 * k + 4)) + 30)) 6) (nx_ix (x := ((8 * (nI k)) + 4)) (nx_add (nx_mul (by decide : (8 : Int32) = nI 8) rfl) (by decide : (4 : Int32) = nI 4)) (by omega))).trans (up_at _ _ _ _)) dL_suits_403 ?_
            refine lv_goto (tgt := 410) hx hb dL_suits_404 (by decide) ?_
            refine lv_icmp_ne (tgt := 417) hx hb dL_suits_410 (by decide) (fun c9 => absurd hok.2 c9) (fun _ => ?_)
            refine lv_iconst (v := 1) hx hb dL_suits_413 (by decide) ?_
            refine lv_goto (tgt := 418) hx hb dL_suits_414 (by decide) ?_
            refine W.widen (k := 8) (n := 342) (Nat.le_of_ble_eq_true rfl) (Nat.le_of_ble_eq_true rfl) ?_
            exact W.zret (v := 1) (ty := .boolean) hx hb hr rfl (fun t9 ht9 hW9 => ⟨⟨1, g, rfl, ⟨rfl, by rw [hG]; exact hK⟩, ⟨by rw [hG, ht9]; exact hI.1, by rw [hG, ht9]; exact hI.2.1⟩⟩, hI.2.2.1.F ht9⟩) hI.2.2.1.2.2 dL_suits_418
    · have hG := hG.trans (if_pos c_2)
      refine lv_iconst (v := 1) hx hb dL_suits_50 (by decide) ?_
      refine lv_iload_n hx hb dL_suits_51 rfl (lv_at hl 5 rfl) ?_
      refine lv_iconst (v := 4) hx hb dL_suits_52 (by decide) ?_
      refine lv_ishr hx hb dL_suits_53 ?_
      refine lv_sipush (v := 255) hx hb dL_suits_54 (by decide) ?_
      refine xr_callS (As := [.int (zv >>> ((4 : Int32) &&& 31)), .int 255]) (rest := [.int 1]) hC hI (qL_low l (zv >>> ((4 : Int32) &&& 31)) 255 (by decide)) (va_cwS 2 hts gL_suits_L_low rfl rfl rfl (by decide +kernel) ⟨Nat.le_of_ble_eq_true rfl, Nat.le_of_ble_eq_true rfl⟩) rfl hl.1 rfl (Nat.le_of_ble_eq_true rfl) dL_suits_57 ⟨Nat.le_of_ble_eq_true rfl, Nat.le_of_ble_eq_true rfl⟩ (fun H locs hI => ?_)
      refine lv_iadd hx hb dL_suits_60 ?_
      refine lv_istore (lv' := [(17, .int (1 + (fL_low (zv >>> ((4 : Int32) &&& 31)) 255))), (16, .int y44_0), (15, .int (L 6 (8 * k + 3))), (14, .int (nI k)), (0, .ref x0), (1, .int act), (2, .int zv), (3, .ref (la 0)), (4, .ref (la 1)), (5, .ref (la 2)), (6, .ref (la 3)), (7, .ref (la 4)), (8, .ref (la 5)), (9, .ref (la 6)), (10, .ref (la 7)), (11, .ref (la 8)), (12, .ref (la 9)), (13, .ref (la 11))]) hx hb dL_suits_61 hl (by decide) rfl (fun ls hl => ?_)
      refine lv_iload_n hx hb dL_suits_63 rfl (lv_at hl 6 rfl) ?_
      refine lv_iconst (v := 5) hx hb dL_suits_64 (by decide) ?_
      refine lv_ishr hx hb dL_suits_65 ?_
      refine lv_iconst (v := 5) hx hb dL_suits_66 (by decide) ?_
      refine xr_callS (As := [.int (zv >>> ((5 : Int32) &&& 31)), .int 5]) (rest := []) hC hI (qL_low l (zv >>> ((5 : Int32) &&& 31)) 5 (by decide)) (va_cwS 2 hts gL_suits_L_low rfl rfl rfl (by decide +kernel) ⟨Nat.le_of_ble_eq_true rfl, Nat.le_of_ble_eq_true rfl⟩) rfl hl.1 rfl (Nat.le_of_ble_eq_true rfl) dL_suits_67 ⟨Nat.le_of_ble_eq_true rfl, Nat.le_of_ble_eq_true rfl⟩ (fun H locs hI => ?_)
      have hG : fL_suits L act zv k = bL_suits_115 L k (jL_suits_115 L zv k) := hG
      refine w_join (σ := Int32) 115 (fun y115_0 H locs ls => jL_suits_115 L zv k = y115_0 ∧ XI A B D cy g n0 la s S L H locs ∧ lv_has ls 22 [(17, .int (1 + (fL_low (zv >>> ((4 : Int32) &&& 31)) 255))), (16, .int y44_0), (15, .int (L 6 (8 * k + 3))), (14, .int (nI k)), (0, .ref x0), (1, .int act), (2, .int zv), (3, .ref (la 0)), (4, .ref (la 1)), (5, .ref (la 2)), (6, .ref (la 3)), (7, .ref (la 4)), (8, .ref (la 5)), (9, .ref (la 6)), (10, .ref (la 7)), (11, .ref (la 8)), (12, .ref (la 9)), (13, .ref (la 11))]) (fun y115_0 => [.int y115_0]) ?_ (fun J115 => ?_)
      · intro y115_0 H locs ls ⟨hy115_0, hI, hl⟩
        rw [hy115_0] at hG
        refine lv_istore (lv' := [(17, .int y115_0), (16, .int y44_0), (15, .int (L 6 (8 * k + 3))), (14, .int (nI k)), (0, .ref x0), (1, .int act), (2, .int zv), (3, .ref (la 0)), (4, .ref (la 1)), (5, .ref (la 2)), (6, .ref (la 3)), (7, .ref (la 4)), (8, .ref (la 5)), (9, .ref (la 6)), (10, .ref (la 7)), (11, .ref (la 8)), (12, .ref (la 9)), (13, .ref (la 11))]) hx hb dL_suits_115 hl (by decide) rfl (fun ls hl => ?_)
        refine lv_iload hx hb dL_suits_117 (lv_at hl 2 rfl) ?_
        refine lv_iconst (v := 3) hx hb dL_suits_119 (by decide) ?_
        refine lv_icmp_ge (tgt := 158) hx hb dL_suits_120 (by decide) (fun c_32 => ?_) (fun c_32 => ?_)
        · have hG := hG.trans (if_pos c_32)
          refine lv_iconst (v := 0) hx hb dL_suits_158 (by decide) ?_
          refine lv_istore (lv' := [(18, .int 0), (17, .int y115_0), (16, .int y44_0), (15, .int (L 6 (8 * k + 3))), (14, .int (nI k)), (0, .ref x0), (1, .int act), (2, .int zv), (3, .ref (la 0)), (4, .ref (la 1)), (5, .ref (la 2)), (6, .ref (la 3)), (7, .ref (la 4)), (8, .ref (la 5)), (9, .ref (la 6)), (10, .ref (la 7)), (11, .ref (la 8)), (12, .ref (la 9)), (13, .ref (la 11))]) hx hb dL_suits_159 hl (by decide) rfl (fun ls hl => ?_)
          refine lv_iconst (v := 0) hx hb dL_suits_161 (by decide) ?_
          refine lv_istore (lv' := [(19, .int 0), (18, .int 0), (17, .int y115_0), (16, .int y44_0), (15, .int (L 6 (8 * k + 3))), (14, .int (nI k)), (0, .ref x0), (1, .int act), (2, .int zv), (3, .ref (la 0)), (4, .ref (la 1)), (5, .ref (la 2)), (6, .ref (la 3)), (7, .ref (la 4)), (8, .ref (la 5)), (9, .ref (la 6)), (10, .ref (la 7)), (11, .ref (la 8)), (12, .ref (la 9)), (13, .ref (la 11))]) hx hb dL_suits_162 hl (by decide) rfl (fun ls hl => ?_)
          refine lv_iload hx hb dL_suits_164 (lv_at hl 0 rfl) ?_
          refine lv_bipush (v := 8) hx hb dL_suits_166 (by decide) ?_
          refine lv_icmp_ge (tgt := 238) hx hb dL_suits_168 (by decide) (fun c => absurd c (by decide : ¬ (8 : Int32) ≤ 0)) (fun _ => ?_)
          refine lv_iload hx hb dL_suits_171 (lv_at hl 1 rfl) ?_
          refine lv_if_eq (tgt := 238) hx hb dL_suits_173 (by decide) (fun _ => ?_) (fun c => absurd (by decide : (0 : Int32) = 0) c)
          refine lv_aload hx hb dL_suits_238 (lv_at hl 19 rfl) ?_
          refine lv_iconst (v := 5) hx hb dL_suits_240 (by decide) ?_
          refine lv_dup2_11 hx hb dL_suits_241 rfl rfl ?_
          refine xr_ld hC hI 11 (by decide) (nx_in (by decide : (5 : Int32) = nI 5) (by decide) (by decide)) (v := (L 11 5)) (congrArg (L 11) (by decide : ix 5 = 5)) dL_suits_242 ?_
          refine lv_iload hx hb dL_suits_243 (lv_at hl 1 rfl) ?_
          refine lv_if_eq (tgt := 252) hx hb dL_suits_245 (by decide) (fun _ => ?_) (fun c => absurd (by decide : (0 : Int32) = 0) c)
          refine lv_iconst (v := 0) hx hb dL_suits_252 (by decide) ?_
          refine lv_iadd hx hb dL_suits_253 ?_
          refine xr_st hC hK hI 11 (by decide) (nx_in (by decide : (5 : Int32) = nI 5) (by decide) (by decide)) (n := 5) (by decide : ix 5 = 5) dL_suits_254 (fun H locs hI => ?_)
          refine lv_aload_n hx hb dL_suits_255 rfl (lv_at hl 6 rfl) ?_
          refine lv_iconst (v := 4) hx hb dL_suits_256 (by decide) ?_
          refine lv_iload hx hb dL_suits_257 (lv_at hl 5 rfl) ?_
          refine lv_iload hx hb dL_suits_259 (lv_at hl 2 rfl) ?_
          refine lv_iconst (v := 0) hx hb dL_suits_261 (by decide) ?_
          have hok : ((xq7 S 4 (nI k) y115_0 0).2.1 = 0 ∨ (xq7 S 4 (nI k) y115_0 0).2.1 = 3) ∧ (if (xq7 S 4 (nI k) y115_0 0).2.1 = 0 then (xq7 S 4 (nI k) y115_0 0).1 else -1003) = (-1003) := XOK.c (by have h9 := hOK; rw [hG] at h9; exact h9) (by decide)
          refine xr_cs (As := [.ref x0, .int 4, .int (nI k), .int y115_0, .int 0]) (rest := []) 4 (nI k) y115_0 0 hC hK hI (qC_amend l hC.2.1 A D cy g hK.1 S e0 mi n0 hK.2.2.2.1 hK.v hK.i x0 hK.2.2.2.2.2.2.2 (nI k) y115_0 0 hok.1) (vx_cwSW 5 hts gL_suits_L_calls rfl rfl rfl (by decide +kernel) ⟨Nat.le_of_ble_eq_true rfl, Nat.le_of_ble_eq_true rfl⟩) rfl hl.1 rfl (Nat.le_of_ble_eq_true rfl) dL_suits_262 ⟨Nat.le_of_ble_eq_true rfl, Nat.le_of_ble_eq_true rfl⟩ (fun g H locs hK hI => ?_)
          refine lv_iload hx hb dL_suits_265 (lv_at hl 1 rfl) ?_
          refine lv_if_eq (tgt := 286) hx hb dL_suits_267 (by decide) (fun _ => ?_) (fun c => absurd (by decide : (0 : Int32) = 0) c)
          refine lv_sipush (v := (-1003)) hx hb dL_suits_286 (by decide) ?_
          refine lv_icmp_ne (tgt := 296) hx hb dL_suits_289 (by decide) (fun c9 => absurd hok.2 c9) (fun _ => ?_)
          refine lv_iconst (v := 1) hx hb dL_suits_292 (by decide) ?_
          refine lv_goto (tgt := 297) hx hb dL_suits_293 (by decide) ?_
          refine W.widen (k := 8) (n := 342) (Nat.le_of_ble_eq_true rfl) (Nat.le_of_ble_eq_true rfl) ?_
          exact W.zret (v := 1) (ty := .boolean) hx hb hr rfl (fun t9 ht9 hW9 => ⟨⟨1, g, rfl, ⟨rfl, by rw [hG]; exact hK⟩, ⟨by rw [hG, ht9]; exact hI.1, by rw [hG, ht9]; exact hI.2.1⟩⟩, hI.2.2.1.F ht9⟩) hI.2.2.1.2.2 dL_suits_297
        · have hG := hG.trans (if_neg c_32)
          refine lv_iload hx hb dL_suits_123 (lv_at hl 0 rfl) ?_
          refine lv_aload hx hb dL_suits_125 (lv_at hl 11 rfl) ?_
          refine lv_bipush (v := 8) hx hb dL_suits_127 (by decide) ?_
          refine lv_aload hx hb dL_suits_129 (lv_at hl 13 rfl) ?_
          refine lv_bipush (v := 8) hx hb dL_suits_131 (by decide) ?_
          refine lv_iload hx hb dL_suits_133 (lv_at hl 3 rfl) ?_
          refine lv_imul hx hb dL_suits_135 ?_
          refine xr_ld hC hI 6 (by decide) (show vp_in (8 * (nI k)) 64 from nx_in (nx_mul (by decide : (8 : Int32) = nI 8) rfl) (by omega) (by decide)) (v := (L 6 (8 * k))) (congrArg (L 6) (nx_ix (x := (8 * (nI k))) (nx_mul (by decide : (8 : Int32) = nI 8) rfl) (by omega))) dL_suits_136 ?_
          refine lv_imul hx hb dL_suits_137 ?_
          refine xr_ld hC hI 4 (by decide) (show vp_in (8 * (L 6 (8 * k))) 40 from nx_in (nx_mul (by decide : (8 : Int32) = nI 8) (vp_ixe (hV.u0 (k := k) (by omega)))) (by have h90 := vp_ixl (hV.u0 (k := k) (by omega)); omega) (by decide)) (v := (L 4 (8 * (ix (L 6 (8 * k)))))) (congrArg (L 4) (nx_ix (x := (8 * (L 6 (8 * k)))) (nx_mul (by decide : (8 : Int32) = nI 8) (vp_ixe (hV.u0 (k := k) (by omega)))) (by have h90 := vp_ixl (hV.u0 (k := k) (by omega)); omega))) dL_suits_138 ?_
          refine lv_iconst (v := (-1)) hx hb dL_suits_139 (by decide) ?_
          refine lv_ixor hx hb dL_suits_140 ?_
          refine lv_iand hx hb dL_suits_141 ?_
          refine lv_if_ne (tgt := 158) hx hb dL_suits_142 (by decide) (fun c_33 => ?_) (fun c_33 => ?_)
          · have hG := hG.trans (if_neg c_33)
            refine lv_iconst (v := 0) hx hb dL_suits_158 (by decide) ?_
            refine lv_istore (lv' := [(18, .int 0), (17, .int y115_0), (16, .int y44_0), (15, .int (L 6 (8 * k + 3))), (14, .int (nI k)), (0, .ref x0), (1, .int act), (2, .int zv), (3, .ref (la 0)), (4, .ref (la 1)), (5, .ref (la 2)), (6, .ref (la 3)), (7, .ref (la 4)), (8, .ref (la 5)), (9, .ref (la 6)), (10, .ref (la 7)), (11, .ref (la 8)), (12, .ref (la 9)), (13, .ref (la 11))]) hx hb dL_suits_159 hl (by decide) rfl (fun ls hl => ?_)
            refine lv_iconst (v := 0) hx hb dL_suits_161 (by decide) ?_
            refine lv_istore (lv' := [(19, .int 0), (18, .int 0), (17, .int y115_0), (16, .int y44_0), (15, .int (L 6 (8 * k + 3))), (14, .int (nI k)), (0, .ref x0), (1, .int act), (2, .int zv), (3, .ref (la 0)), (4, .ref (la 1)), (5, .ref (la 2)), (6, .ref (la 3)), (7, .ref (la 4)), (8, .ref (la 5)), (9, .ref (la 6)), (10, .ref (la 7)), (11, .ref (la 8)), (12, .ref (la 9)), (13, .ref (la 11))]) hx hb dL_suits_162 hl (by decide) rfl (fun ls hl => ?_)
            refine lv_iload hx hb dL_suits_164 (lv_at hl 0 rfl) ?_
            refine lv_bipush (v := 8) hx hb dL_suits_166 (by decide) ?_
            refine lv_icmp_ge (tgt := 238) hx hb dL_suits_168 (by decide) (fun c => absurd c (by decide : ¬ (8 : Int32) ≤ 0)) (fun _ => ?_)
            refine lv_iload hx hb dL_suits_171 (lv_at hl 1 rfl) ?_
            refine lv_if_eq (tgt := 238) hx hb dL_suits_173 (by decide) (fun _ => ?_) (fun c => absurd (by decide : (0 : Int32) = 0) c)
            refine lv_aload hx hb dL_suits_238 (lv_at hl 19 rfl) ?_
            refine lv_iconst (v := 5) hx hb dL_suits_240 (by decide) ?_
            refine lv_dup2_11 hx hb dL_suits_241 rfl rfl ?_
            refine xr_ld hC hI 11 (by decide) (nx_in (by decide : (5 : Int32) = nI 5) (by decide) (by decide)) (v := (L 11 5)) (congrArg (L 11) (by decide : ix 5 = 5)) dL_suits_242 ?_
            refine lv_iload hx hb dL_suits_243 (lv_at hl 1 rfl) ?_
            refine lv_if_eq (tgt := 252) hx hb dL_suits_245 (by decide) (fun _ => ?_) (fun c => absurd (by decide : (0 : Int32) = 0) c)
            refine lv_iconst (v := 0) hx hb dL_suits_252 (by decide) ?_
            refine lv_iadd hx hb dL_suits_253 ?_
            refine xr_st hC hK hI 11 (by decide) (nx_in (by decide : (5 : Int32) = nI 5) (by decide) (by decide)) (n := 5) (by decide : ix 5 = 5) dL_suits_254 (fun H locs hI => ?_)
            refine lv_aload_n hx hb dL_suits_255 rfl (lv_at hl 6 rfl) ?_
            refine lv_iconst (v := 4) hx hb dL_suits_256 (by decide) ?_
            refine lv_iload hx hb dL_suits_257 (lv_at hl 5 rfl) ?_
            refine lv_iload hx hb dL_suits_259 (lv_at hl 2 rfl) ?_
            refine lv_iconst (v := 0) hx hb dL_suits_261 (by decide) ?_
            have hok : ((xq7 S 4 (nI k) y115_0 0).2.1 = 0 ∨ (xq7 S 4 (nI k) y115_0 0).2.1 = 3) ∧ (if (xq7 S 4 (nI k) y115_0 0).2.1 = 0 then (xq7 S 4 (nI k) y115_0 0).1 else -1003) = (-1003) := XOK.c (by have h9 := hOK; rw [hG] at h9; exact h9) (by decide)
            refine xr_cs (As := [.ref x0, .int 4, .int (nI k), .int y115_0, .int 0]) (rest := []) 4 (nI k) y115_0 0 hC hK hI (qC_amend l hC.2.1 A D cy g hK.1 S e0 mi n0 hK.2.2.2.1 hK.v hK.i x0 hK.2.2.2.2.2.2.2 (nI k) y115_0 0 hok.1) (vx_cwSW 5 hts gL_suits_L_calls rfl rfl rfl (by decide +kernel) ⟨Nat.le_of_ble_eq_true rfl, Nat.le_of_ble_eq_true rfl⟩) rfl hl.1 rfl (Nat.le_of_ble_eq_true rfl) dL_suits_262 ⟨Nat.le_of_ble_eq_true rfl, Nat.le_of_ble_eq_true rfl⟩ (fun g H locs hK hI => ?_)
            refine lv_iload hx hb dL_suits_265 (lv_at hl 1 rfl) ?_
            refine lv_if_eq (tgt := 286) hx hb dL_suits_267 (by decide) (fun _ => ?_) (fun c => absurd (by decide : (0 : Int32) = 0) c)
            refine lv_sipush (v := (-1003)) hx hb dL_suits_286 (by decide) ?_
            refine lv_icmp_ne (tgt := 296) hx hb dL_suits_289 (by decide) (fun c9 => absurd hok.2 c9) (fun _ => ?_)
            refine lv_iconst (v := 1) hx hb dL_suits_292 (by decide) ?_
            refine lv_goto (tgt := 297) hx hb dL_suits_293 (by decide) ?_
            refine W.widen (k := 8) (n := 342) (Nat.le_of_ble_eq_true rfl) (Nat.le_of_ble_eq_true rfl) ?_
            exact W.zret (v := 1) (ty := .boolean) hx hb hr rfl (fun t9 ht9 hW9 => ⟨⟨1, g, rfl, ⟨rfl, by rw [hG]; exact hK⟩, ⟨by rw [hG, ht9]; exact hI.1, by rw [hG, ht9]; exact hI.2.1⟩⟩, hI.2.2.1.F ht9⟩) hI.2.2.1.2.2 dL_suits_297
          · have hG := hG.trans (if_pos c_33)
            refine lv_aload hx hb dL_suits_145 (lv_at hl 17 rfl) ?_
            refine lv_iconst (v := 5) hx hb dL_suits_147 (by decide) ?_
            refine xr_ld hC hI 11 (by decide) (nx_in (by decide : (5 : Int32) = nI 5) (by decide) (by decide)) (v := (L 11 5)) (congrArg (L 11) (by decide : ix 5 = 5)) dL_suits_148 ?_
            refine lv_bipush (v := 40) hx hb dL_suits_149 (by decide) ?_
            refine lv_icmp_ge (tgt := 158) hx hb dL_suits_151 (by decide) (fun c_34 => ?_) (fun c_34 => ?_)
            · have hG := hG.trans (if_pos c_34)
              refine lv_iconst (v := 0) hx hb dL_suits_158 (by decide) ?_
              refine lv_istore (lv' := [(18, .int 0), (17, .int y115_0), (16, .int y44_0), (15, .int (L 6 (8 * k + 3))), (14, .int (nI k)), (0, .ref x0), (1, .int act), (2, .int zv), (3, .ref (la 0)), (4, .ref (la 1)), (5, .ref (la 2)), (6, .ref (la 3)), (7, .ref (la 4)), (8, .ref (la 5)), (9, .ref (la 6)), (10, .ref (la 7)), (11, .ref (la 8)), (12, .ref (la 9)), (13, .ref (la 11))]) hx hb dL_suits_159 hl (by decide) rfl (fun ls hl => ?_)
              refine lv_iconst (v := 0) hx hb dL_suits_161 (by decide) ?_
              refine lv_istore (lv' := [(19, .int 0), (18, .int 0), (17, .int y115_0), (16, .int y44_0), (15, .int (L 6 (8 * k + 3))), (14, .int (nI k)), (0, .ref x0), (1, .int act), (2, .int zv), (3, .ref (la 0)), (4, .ref (la 1)), (5, .ref (la 2)), (6, .ref (la 3)), (7, .ref (la 4)), (8, .ref (la 5)), (9, .ref (la 6)), (10, .ref (la 7)), (11, .ref (la 8)), (12, .ref (la 9)), (13, .ref (la 11))]) hx hb dL_suits_162 hl (by decide) rfl (fun ls hl => ?_)
              refine lv_iload hx hb dL_suits_164 (lv_at hl 0 rfl) ?_
              refine lv_bipush (v := 8) hx hb dL_suits_166 (by decide) ?_
              refine lv_icmp_ge (tgt := 238) hx hb dL_suits_168 (by decide) (fun c => absurd c (by decide : ¬ (8 : Int32) ≤ 0)) (fun _ => ?_)
              refine lv_iload hx hb dL_suits_171 (lv_at hl 1 rfl) ?_
              refine lv_if_eq (tgt := 238) hx hb dL_suits_173 (by decide) (fun _ => ?_) (fun c => absurd (by decide : (0 : Int32) = 0) c)
              refine lv_aload hx hb dL_suits_238 (lv_at hl 19 rfl) ?_
              refine lv_iconst (v := 5) hx hb dL_suits_240 (by decide) ?_
              refine lv_dup2_11 hx hb dL_suits_241 rfl rfl ?_
              refine xr_ld hC hI 11 (by decide) (nx_in (by decide : (5 : Int32) = nI 5) (by decide) (by decide)) (v := (L 11 5)) (congrArg (L 11) (by decide : ix 5 = 5)) dL_suits_242 ?_
              refine lv_iload hx hb dL_suits_243 (lv_at hl 1 rfl) ?_
              refine lv_if_eq (tgt := 252) hx hb dL_suits_245 (by decide) (fun _ => ?_) (fun c => absurd (by decide : (0 : Int32) = 0) c)
              refine lv_iconst (v := 0) hx hb dL_suits_252 (by decide) ?_
              refine lv_iadd hx hb dL_suits_253 ?_
              refine xr_st hC hK hI 11 (by decide) (nx_in (by decide : (5 : Int32) = nI 5) (by decide) (by decide)) (n := 5) (by decide : ix 5 = 5) dL_suits_254 (fun H locs hI => ?_)
              refine lv_aload_n hx hb dL_suits_255 rfl (lv_at hl 6 rfl) ?_
              refine lv_iconst (v := 4) hx hb dL_suits_256 (by decide) ?_
              refine lv_iload hx hb dL_suits_257 (lv_at hl 5 rfl) ?_
              refine lv_iload hx hb dL_suits_259 (lv_at hl 2 rfl) ?_
              refine lv_iconst (v := 0) hx hb dL_suits_261 (by decide) ?_
              have hok : ((xq7 S 4 (nI k) y115_0 0).2.1 = 0 ∨ (xq7 S 4 (nI k) y115_0 0).2.1 = 3) ∧ (if (xq7 S 4 (nI k) y115_0 0).2.1 = 0 then (xq7 S 4 (nI k) y115_0 0).1 else -1003) = (-1003) := XOK.c (by have h9 := hOK; rw [hG] at h9; exact h9) (by decide)
              refine xr_cs (As := [.ref x0, .int 4, .int (nI k), .int y115_0, .int 0]) (rest := []) 4 (nI k) y115_0 0 hC hK hI (qC_amend l hC.2.1 A D cy g hK.1 S e0 mi n0 hK.2.2.2.1 hK.v hK.i x0 hK.2.2.2.2.2.2.2 (nI k) y115_0 0 hok.1) (vx_cwSW 5 hts gL_suits_L_calls rfl rfl rfl (by decide +kernel) ⟨Nat.le_of_ble_eq_true rfl, Nat.le_of_ble_eq_true rfl⟩) rfl hl.1 rfl (Nat.le_of_ble_eq_true rfl) dL_suits_262 ⟨Nat.le_of_ble_eq_true rfl, Nat.le_of_ble_eq_true rfl⟩ (fun g H locs hK hI => ?_)
              refine lv_iload hx hb dL_suits_265 (lv_at hl 1 rfl) ?_
              refine lv_if_eq (tgt := 286) hx hb dL_suits_267 (by decide) (fun _ => ?_) (fun c => absurd (by decide : (0 : Int32) = 0) c)
              refine lv_sipush (v := (-1003)) hx hb dL_suits_286 (by decide) ?_
              refine lv_icmp_ne (tgt := 296) hx hb dL_suits_289 (by decide) (fun c9 => absurd hok.2 c9) (fun _ => ?_)
              refine lv_iconst (v := 1) hx hb dL_suits_292 (by decide) ?_
              refine lv_goto (tgt := 297) hx hb dL_suits_293 (by decide) ?_
              refine W.widen (k := 8) (n := 342) (Nat.le_of_ble_eq_true rfl) (Nat.le_of_ble_eq_true rfl) ?_
              exact W.zret (v := 1) (ty := .boolean) hx hb hr rfl (fun t9 ht9 hW9 => ⟨⟨1, g, rfl, ⟨rfl, by rw [hG]; exact hK⟩, ⟨by rw [hG, ht9]; exact hI.1, by rw [hG, ht9]; exact hI.2.1⟩⟩, hI.2.2.1.F ht9⟩) hI.2.2.1.2.2 dL_suits_297
            · have hG := hG.trans (if_neg c_34)
              refine lv_iconst (v := 1) hx hb dL_suits_154 (by decide) ?_
              refine lv_goto (tgt := 159) hx hb dL_suits_155 (by decide) ?_
              refine lv_istore (lv' := [(18, .int 1), (17, .int y115_0), (16, .int y44_0), (15, .int (L 6 (8 * k + 3))), (14, .int (nI k)), (0, .ref x0), (1, .int act), (2, .int zv), (3, .ref (la 0)), (4, .ref (la 1)), (5, .ref (la 2)), (6, .ref (la 3)), (7, .ref (la 4)), (8, .ref (la 5)), (9, .ref (la 6)), (10, .ref (la 7)), (11, .ref (la 8)), (12, .ref (la 9)), (13, .ref (la 11))]) hx hb dL_suits_159 hl (by decide) rfl (fun ls hl => ?_)
              refine lv_iconst (v := 0) hx hb dL_suits_161 (by decide) ?_
              refine lv_istore (lv' := [(19, .int 0), (18, .int 1), (17, .int y115_0), (16, .int y44_0), (15, .int (L 6 (8 * k + 3))), (14, .int (nI k)), (0, .ref x0), (1, .int act), (2, .int zv), (3, .ref (la 0)), (4, .ref (la 1)), (5, .ref (la 2)), (6, .ref (la 3)), (7, .ref (la 4)), (8, .ref (la 5)), (9, .ref (la 6)), (10, .ref (la 7)), (11, .ref (la 8)), (12, .ref (la 9)), (13, .ref (la 11))]) hx hb dL_suits_162 hl (by decide) rfl (fun ls hl => ?_)
              refine w_loop (σ := (Nat → Int32)) 8 164 (fun i164 z H locs ls => z = lL_suits_164 L k y115_0 i164 ∧ XI A B D cy g n0 la s S (upr L 7 z) H locs ∧ lv_has ls 22 [(19, .int (nI i164)), (18, .int 1), (17, .int y115_0), (16, .int y44_0), (15, .int (L 6 (8 * k + 3))), (14, .int (nI k)), (0, .ref x0), (1, .int act), (2, .int zv), (3, .ref (la 0)), (4, .ref (la 1)), (5, .ref (la 2)), (6, .ref (la 3)), (7, .ref (la 4)), (8, .ref (la 5)), (9, .ref (la 6)), (10, .ref (la 7)), (11, .ref (la 8)), (12, .ref (la 9)), (13, .ref (la 11))]) ?_ (L 7) ⟨rfl, (XI_upr hI 7 rfl), lv_sub hl [0, 1, 2, 3, 4, 5, 6, 7, 8, 9, 10, 11, 12, 13, 14, 15, 16, 17, 18, 19] rfl⟩
              intro i164 z H locs ls ⟨hz164, hI, hl⟩ hi164 ih164
              obtain ⟨w164_7, rfl⟩ : ∃ x, x = z := ⟨_, rfl⟩
              refine lv_iload hx hb dL_suits_164 (lv_at hl 0 rfl) ?_
              refine lv_bipush (v := 8) hx hb dL_suits_166 (by decide) ?_
              refine lv_icmp_ge (tgt := 238) hx hb dL_suits_168 (by decide) (fun c_35 => ?_) (fun c_35 => ?_)
              · obtain rfl : i164 = 8 := w_exit (by decide : (8 : Int32) = nI 8) hi164 (by decide) c_35
                obtain rfl : w164_7 = (lL_suits_164 L k y115_0 8) := by rw [← hz164]
                refine lv_aload hx hb dL_suits_238 (lv_at hl 19 rfl) ?_
                refine lv_iconst (v := 5) hx hb dL_suits_240 (by decide) ?_
                refine lv_dup2_11 hx hb dL_suits_241 rfl rfl ?_
                refine xr_ld hC hI 11 (by decide) (nx_in (by decide : (5 : Int32) = nI 5) (by decide) (by decide)) (v := (L 11 5)) ((congrArg ((upr L 7 (lL_suits_164 L k y115_0 8)) 11) (by decide : ix 5 = 5)).trans (congrFun (upr_ne (by decide)) _)) dL_suits_242 ?_
                refine lv_iload hx hb dL_suits_243 (lv_at hl 1 rfl) ?_
                refine lv_if_eq (tgt := 252) hx hb dL_suits_245 (by decide) (fun c => absurd c (by decide : ¬ (1 : Int32) = 0)) (fun _ => ?_)
                refine lv_iconst (v := 1) hx hb dL_suits_248 (by decide) ?_
                refine lv_goto (tgt := 253) hx hb dL_suits_249 (by decide) ?_
                refine lv_iadd hx hb dL_suits_253 ?_
                refine xr_st hC hK hI 11 (by decide) (nx_in (by decide : (5 : Int32) = nI 5) (by decide) (by decide)) (n := 5) (by decide : ix 5 = 5) dL_suits_254 (fun H locs hI => ?_)
                refine lv_aload_n hx hb dL_suits_255 rfl (lv_at hl 6 rfl) ?_
                refine lv_iconst (v := 4) hx hb dL_suits_256 (by decide) ?_
                refine lv_iload hx hb dL_suits_257 (lv_at hl 5 rfl) ?_
                refine lv_iload hx hb dL_suits_259 (lv_at hl 2 rfl) ?_
                refine lv_iconst (v := 0) hx hb dL_suits_261 (by decide) ?_
                have hok : ((xq7 S 4 (nI k) y115_0 0).2.1 = 0 ∨ (xq7 S 4 (nI k) y115_0 0).2.1 = 3) ∧ (if (xq7 S 4 (nI k) y115_0 0).2.1 = 0 then (xq7 S 4 (nI k) y115_0 0).1 else -1003) = (fL_ones (fL_had (up (upr L 7 (lL_suits_164 L k y115_0 8)) 11 5 ((L 11 5) + 1)) k 3000)) := XOK.c (by have h9 := hOK; rw [hG] at h9; exact h9) (by decide)
                refine xr_cs (As := [.ref x0, .int 4, .int (nI k), .int y115_0, .int 0]) (rest := []) 4 (nI k) y115_0 0 hC hK hI (qC_amend l hC.2.1 A D cy g hK.1 S e0 mi n0 hK.2.2.2.1 hK.v hK.i x0 hK.2.2.2.2.2.2.2 (nI k) y115_0 0 hok.1) (vx_cwSW 5 hts gL_suits_L_calls rfl rfl rfl (by decide +kernel) ⟨Nat.le_of_ble_eq_true rfl, Nat.le_of_ble_eq_true rfl⟩) rfl hl.1 rfl (Nat.le_of_ble_eq_true rfl) dL_suits_262 ⟨Nat.le_of_ble_eq_true rfl, Nat.le_of_ble_eq_true rfl⟩ (fun g H locs hK hI => ?_)
                refine lv_iload hx hb dL_suits_265 (lv_at hl 1 rfl) ?_
                refine lv_if_eq (tgt := 286) hx hb dL_suits_267 (by decide) (fun c => absurd c (by decide : ¬ (1 : Int32) = 0)) (fun _ => ?_)
                refine lv_iload hx hb dL_suits_270 (lv_at hl 5 rfl) ?_
                refine lv_sipush (v := 3000) hx hb dL_suits_272 (by decide) ?_
                refine lv_aload hx hb dL_suits_275 (lv_at hl 16 rfl) ?_
                refine xr_call (As := [.int (nI k), .int 3000, .ref (la 7)]) (rest := [.int (if (xq7 S 4 (nI k) y115_0 0).2.1 = 0 then (xq7 S 4 (nI k) y115_0 0).1 else -1003)]) hC hI (qL_had l D cy la (up (upr L 7 (lL_suits_164 L k y115_0 8)) 11 5 ((L 11 5) + 1)) (hV.congr ⟨rfl, rfl, rfl, rfl⟩ rfl rfl rfl rfl) k (by omega) rfl 3000) (va_cwS 3 hts gL_suits_L_had rfl rfl rfl (by decide +kernel) ⟨Nat.le_of_ble_eq_true rfl, Nat.le_of_ble_eq_true rfl⟩) rfl hl.1 rfl (Nat.le_of_ble_eq_true rfl) dL_suits_277 ⟨Nat.le_of_ble_eq_true rfl, Nat.le_of_ble_eq_true rfl⟩ (fun H locs hI => ?_)
                refine xr_callS (As := [.int (fL_had (up (upr L 7 (lL_suits_164 L k y115_0 8)) 11 5 ((L 11 5) + 1)) k 3000)]) (rest := [.int (if (xq7 S 4 (nI k) y115_0 0).2.1 = 0 then (xq7 S 4 (nI k) y115_0 0).1 else -1003)]) hC hI (qL_ones l (fL_had (up (upr L 7 (lL_suits_164 L k y115_0 8)) 11 5 ((L 11 5) + 1)) k 3000)) (va_cwS 1 hts gL_suits_L_ones rfl rfl rfl (by decide +kernel) ⟨Nat.le_of_ble_eq_true rfl, Nat.le_of_ble_eq_true rfl⟩) rfl hl.1 rfl (Nat.le_of_ble_eq_true rfl) dL_suits_280 ⟨Nat.le_of_ble_eq_true rfl, Nat.le_of_ble_eq_true rfl⟩ (fun H locs hI => ?_)
                refine lv_goto (tgt := 289) hx hb dL_suits_283 (by decide) ?_
                refine lv_icmp_ne (tgt := 296) hx hb dL_suits_289 (by decide) (fun c9 => absurd hok.2 c9) (fun _ => ?_)
                refine lv_iconst (v := 1) hx hb dL_suits_292 (by decide) ?_
                refine lv_goto (tgt := 297) hx hb dL_suits_293 (by decide) ?_
                refine W.widen (k := 8) (n := 342) (Nat.le_of_ble_eq_true rfl) (Nat.le_of_ble_eq_true rfl) ?_
                exact W.zret (v := 1) (ty := .boolean) hx hb hr rfl (fun t9 ht9 hW9 => ⟨⟨1, g, rfl, ⟨rfl, by rw [hG]; exact hK⟩, ⟨by rw [hG, ht9]; exact hI.1, by rw [hG, ht9]; exact hI.2.1⟩⟩, hI.2.2.1.F ht9⟩) hI.2.2.1.2.2 dL_suits_297
              · have hlt164 : i164 < 8 := w_in (by decide : (8 : Int32) = nI 8) hi164 (by decide) c_35
                have hB164 : iL_suits_164 L k y115_0 i164 w164_7 = iL_suits_164 L k y115_0 i164 w164_7 := rfl
                refine lv_iload hx hb dL_suits_171 (lv_at hl 1 rfl) ?_
                refine lv_if_eq (tgt := 238) hx hb dL_suits_173 (by decide) (fun c => absurd c (by decide : ¬ (1 : Int32) = 0)) (fun _ => ?_)
                refine lv_aload hx hb dL_suits_176 (lv_at hl 16 rfl) ?_
                refine lv_bipush (v := 8) hx hb dL_suits_178 (by decide) ?_
                refine lv_iload hx hb dL_suits_180 (lv_at hl 5 rfl) ?_
                refine lv_imul hx hb dL_suits_182 ?_
                refine lv_iload hx hb dL_suits_183 (lv_at hl 0 rfl) ?_
                refine lv_iadd hx hb dL_suits_185 ?_
                refine lv_iload hx hb dL_suits_186 (lv_at hl 2 rfl) ?_
                refine lv_iload hx hb dL_suits_188 (lv_at hl 0 rfl) ?_
                refine lv_ishr hx hb dL_suits_190 ?_
                refine lv_iconst (v := 1) hx hb dL_suits_191 (by decide) ?_
                refine lv_iand hx hb dL_suits_192 ?_
                refine lv_iconst (v := 1) hx hb dL_suits_193 (by decide) ?_
                refine lv_icmp_ne (tgt := 220) hx hb dL_suits_194 (by decide) (fun c_36 => ?_) (fun c_36 => ?_)
                · have hB164 := hB164.trans (if_neg c_36)
                  refine lv_aload hx hb dL_suits_220 (lv_at hl 16 rfl) ?_
                  refine lv_bipush (v := 8) hx hb dL_suits_222 (by decide) ?_
                  refine lv_iload hx hb dL_suits_224 (lv_at hl 5 rfl) ?_
                  refine lv_imul hx hb dL_suits_226 ?_
                  refine lv_iload hx hb dL_suits_227 (lv_at hl 0 rfl) ?_
                  refine lv_iadd hx hb dL_suits_229 ?_
                  refine xr_ld hC hI 7 (by decide) (show vp_in ((8 * (nI k)) + (nI i164)) 64 from nx_in (nx_add (nx_mul (by decide : (8 : Int32) = nI 8) rfl) rfl) (by omega) (by decide)) (v := (w164_7 (8 * k + i164))) ((congrArg ((upr L 7 w164_7) 7) (nx_ix (x := ((8 * (nI k)) + (nI i164))) (nx_add (nx_mul (by decide : (8 : Int32) = nI 8) rfl) rfl) (by omega))).trans (congrFun (upr_at _ _ _) _)) dL_suits_230 ?_
                  refine xr_st hC hK hI 7 (by decide) (show vp_in ((8 * (nI k)) + (nI i164)) 64 from nx_in (nx_add (nx_mul (by decide : (8 : Int32) = nI 8) rfl) rfl) (by omega) (by decide)) (n := (8 * k + i164)) (nx_ix (x := ((8 * (nI k)) + (nI i164))) (nx_add (nx_mul (by decide : (8 : Int32) = nI 8) rfl) rfl) (by omega)) dL_suits_231 (fun H locs hI => ?_)
                  refine lv_iinc (v := (nI (i164 + 1))) (lv' := [(19, .int (nI (i164 + 1))), (18, .int 1), (17, .int y115_0), (16, .int y44_0), (15, .int (L 6 (8 * k + 3))), (14, .int (nI k)), (0, .ref x0), (1, .int act), (2, .int zv), (3, .ref (la 0)), (4, .ref (la 1)), (5, .ref (la 2)), (6, .ref (la 3)), (7, .ref (la 4)), (8, .ref (la 5)), (9, .ref (la 6)), (10, .ref (la 7)), (11, .ref (la 8)), (12, .ref (la 9)), (13, .ref (la 11))]) hx hb dL_suits_232 hl (k := 0) rfl (nI_1 i164) (by decide) rfl (fun ls hl => ?_)
                  refine lv_goto (tgt := 164) hx hb dL_suits_235 (by decide) ?_
                  exact ih164 (upd w164_7 (8 * k + i164) (w164_7 (8 * k + i164))) _ _ ls hlt164 ⟨(by show _ = iL_suits_164 L k y115_0 i164 (lL_suits_164 L k y115_0 i164); rw [← hz164]; exact hB164.symm), (XI_eq hI (upr_up _ _ _ _ _)), lv_sub hl [0, 1, 2, 3, 4, 5, 6, 7, 8, 9, 10, 11, 12, 13, 14, 15, 16, 17, 18, 19] rfl⟩
                · have hB164 := hB164.trans (if_pos c_36)
                  refine lv_aload hx hb dL_suits_197 (lv_at hl 16 rfl) ?_
                  refine lv_bipush (v := 8) hx hb dL_suits_199 (by decide) ?_
                  refine lv_iload hx hb dL_suits_201 (lv_at hl 5 rfl) ?_
                  refine lv_imul hx hb dL_suits_203 ?_
                  refine lv_iload hx hb dL_suits_204 (lv_at hl 0 rfl) ?_
                  refine lv_iadd hx hb dL_suits_206 ?_
                  refine xr_ld hC hI 7 (by decide) (show vp_in ((8 * (nI k)) + (nI i164)) 64 from nx_in (nx_add (nx_mul (by decide : (8 : Int32) = nI 8) rfl) rfl) (by omega) (by decide)) (v := (w164_7 (8 * k + i164))) ((congrArg ((upr L 7 w164_7) 7) (nx_ix (x := ((8 * (nI k)) + (nI i164))) (nx_add (nx_mul (by decide : (8 : Int32) = nI 8) rfl) rfl) (by omega))).trans (congrFun (upr_at _ _ _) _)) dL_suits_207 ?_
                  refine lv_if_ne (tgt := 220) hx hb dL_suits_208 (by decide) (fun c_37 => ?_) (fun c_37 => ?_)
                  · have hB164 := hB164.trans (if_neg c_37)
                    refine lv_aload hx hb dL_suits_220 (lv_at hl 16 rfl) ?_
                    refine lv_bipush (v := 8) hx hb dL_suits_222 (by decide) ?_
                    refine lv_iload hx hb dL_suits_224 (lv_at hl 5 rfl) ?_
                    refine lv_imul hx hb dL_suits_226 ?_
                    refine lv_iload hx hb dL_suits_227 (lv_at hl 0 rfl) ?_
                    refine lv_iadd hx hb dL_suits_229 ?_
                    refine xr_ld hC hI 7 (by decide) (show vp_in ((8 * (nI k)) + (nI i164)) 64 from nx_in (nx_add (nx_mul (by decide : (8 : Int32) = nI 8) rfl) rfl) (by omega) (by decide)) (v := (w164_7 (8 * k + i164))) ((congrArg ((upr L 7 w164_7) 7) (nx_ix (x := ((8 * (nI k)) + (nI i164))) (nx_add (nx_mul (by decide : (8 : Int32) = nI 8) rfl) rfl) (by omega))).trans (congrFun (upr_at _ _ _) _)) dL_suits_230 ?_
                    refine xr_st hC hK hI 7 (by decide) (show vp_in ((8 * (nI k)) + (nI i164)) 64 from nx_in (nx_add (nx_mul (by decide : (8 : Int32) = nI 8) rfl) rfl) (by omega) (by decide)) (n := (8 * k + i164)) (nx_ix (x := ((8 * (nI k)) + (nI i164))) (nx_add (nx_mul (by decide : (8 : Int32) = nI 8) rfl) rfl) (by omega)) dL_suits_231 (fun H locs hI => ?_)
                    refine lv_iinc (v := (nI (i164 + 1))) (lv' := [(19, .int (nI (i164 + 1))), (18, .int 1), (17, .int y115_0), (16, .int y44_0), (15, .int (L 6 (8 * k + 3))), (14, .int (nI k)), (0, .ref x0), (1, .int act), (2, .int zv), (3, .ref (la 0)), (4, .ref (la 1)), (5, .ref (la 2)), (6, .ref (la 3)), (7, .ref (la 4)), (8, .ref (la 5)), (9, .ref (la 6)), (10, .ref (la 7)), (11, .ref (la 8)), (12, .ref (la 9)), (13, .ref (la 11))]) hx hb dL_suits_232 hl (k := 0) rfl (nI_1 i164) (by decide) rfl (fun ls hl => ?_)
                    refine lv_goto (tgt := 164) hx hb dL_suits_235 (by decide) ?_
                    exact ih164 (upd w164_7 (8 * k + i164) (w164_7 (8 * k + i164))) _ _ ls hlt164 ⟨(by show _ = iL_suits_164 L k y115_0 i164 (lL_suits_164 L k y115_0 i164); rw [← hz164]; exact hB164.symm), (XI_eq hI (upr_up _ _ _ _ _)), lv_sub hl [0, 1, 2, 3, 4, 5, 6, 7, 8, 9, 10, 11, 12, 13, 14, 15, 16, 17, 18, 19] rfl⟩
                  · have hB164 := hB164.trans (if_pos c_37)
                    refine lv_aload hx hb dL_suits_211 (lv_at hl 19 rfl) ?_
                    refine lv_iconst (v := 0) hx hb dL_suits_213 (by decide) ?_
                    refine xr_ld hC hI 11 (by decide) (nx_in (by decide : (0 : Int32) = nI 0) (by decide) (by decide)) (v := (L 11 0)) ((congrArg ((upr L 7 w164_7) 11) (by decide : ix 0 = 0)).trans (congrFun (upr_ne (by decide)) _)) dL_suits_214 ?_
                    refine lv_iconst (v := 1) hx hb dL_suits_215 (by decide) ?_
                    refine lv_iadd hx hb dL_suits_216 ?_
                    refine lv_goto (tgt := 231) hx hb dL_suits_217 (by decide) ?_
                    refine xr_st hC hK hI 7 (by decide) (show vp_in ((8 * (nI k)) + (nI i164)) 64 from nx_in (nx_add (nx_mul (by decide : (8 : Int32) = nI 8) rfl) rfl) (by omega) (by decide)) (n := (8 * k + i164)) (nx_ix (x := ((8 * (nI k)) + (nI i164))) (nx_add (nx_mul (by decide : (8 : Int32) = nI 8) rfl) rfl) (by omega)) dL_suits_231 (fun H locs hI => ?_)
                    refine lv_iinc (v := (nI (i164 + 1))) (lv' := [(19, .int (nI (i164 + 1))), (18, .int 1), (17, .int y115_0), (16, .int y44_0), (15, .int (L 6 (8 * k + 3))), (14, .int (nI k)), (0, .ref x0), (1, .int act), (2, .int zv), (3, .ref (la 0)), (4, .ref (la 1)), (5, .ref (la 2)), (6, .ref (la 3)), (7, .ref (la 4)), (8, .ref (la 5)), (9, .ref (la 6)), (10, .ref (la 7)), (11, .ref (la 8)), (12, .ref (la 9)), (13, .ref (la 11))]) hx hb dL_suits_232 hl (k := 0) rfl (nI_1 i164) (by decide) rfl (fun ls hl => ?_)
                    refine lv_goto (tgt := 164) hx hb dL_suits_235 (by decide) ?_
                    exact ih164 (upd w164_7 (8 * k + i164) ((L 11 0) + 1)) _ _ ls hlt164 ⟨(by show _ = iL_suits_164 L k y115_0 i164 (lL_suits_164 L k y115_0 i164); rw [← hz164]; exact hB164.symm), (XI_eq hI (upr_up _ _ _ _ _)), lv_sub hl [0, 1, 2, 3, 4, 5, 6, 7, 8, 9, 10, 11, 12, 13, 14, 15, 16, 17, 18, 19] rfl⟩
      · have hB115 : jL_suits_115 L zv k = jL_suits_115 L zv k := rfl
        refine lv_if_eq (tgt := 93) hx hb dL_suits_70 (by decide) (fun c_30 => ?_) (fun c_30 => ?_)
        · have hB115 := hB115.trans (if_pos c_30)
          refine lv_iload hx hb dL_suits_93 (lv_at hl 0 rfl) ?_
          refine lv_goto (tgt := 115) hx hb dL_suits_95 (by decide) ?_
          exact J115 (1 + (fL_low (zv >>> ((4 : Int32) &&& 31)) 255)) _ _ ls ⟨hB115, hI, lv_sub hl [0, 1, 2, 3, 4, 5, 6, 7, 8, 9, 10, 11, 12, 13, 14, 15, 16, 17] rfl⟩
        · have hB115 := hB115.trans (if_neg c_30)
          refine lv_iload hx hb dL_suits_73 (lv_at hl 0 rfl) ?_
          refine lv_aload hx hb dL_suits_75 (lv_at hl 11 rfl) ?_
          refine lv_bipush (v := 8) hx hb dL_suits_77 (by decide) ?_
          refine lv_aload hx hb dL_suits_79 (lv_at hl 13 rfl) ?_
          refine lv_bipush (v := 8) hx hb dL_suits_81 (by decide) ?_
          refine lv_iload hx hb dL_suits_83 (lv_at hl 3 rfl) ?_
          refine lv_imul hx hb dL_suits_85 ?_
          refine xr_ld hC hI 6 (by decide) (show vp_in (8 * (nI k)) 64 from nx_in (nx_mul (by decide : (8 : Int32) = nI 8) rfl) (by omega) (by decide)) (v := (L 6 (8 * k))) (congrArg (L 6) (nx_ix (x := (8 * (nI k))) (nx_mul (by decide : (8 : Int32) = nI 8) rfl) (by omega))) dL_suits_86 ?_
          refine lv_imul hx hb dL_suits_87 ?_
          refine xr_ld hC hI 4 (by decide) (show vp_in (8 * (L 6 (8 * k))) 40 from nx_in (nx_mul (by decide : (8 : Int32) = nI 8) (vp_ixe (hV.u0 (k := k) (by omega)))) (by have h90 := vp_ixl (hV.u0 (k := k) (by omega)); omega) (by decide)) (v := (L 4 (8 * (ix (L 6 (8 * k)))))) (congrArg (L 4) (nx_ix (x := (8 * (L 6 (8 * k)))) (nx_mul (by decide : (8 : Int32) = nI 8) (vp_ixe (hV.u0 (k := k) (by omega)))) (by have h90 := vp_ixl (hV.u0 (k := k) (by omega)); omega))) dL_suits_88 ?_
          refine lv_iand hx hb dL_suits_89 ?_
          refine lv_if_ne (tgt := 98) hx hb dL_suits_90 (by decide) (fun c_31 => ?_) (fun c_31 => ?_)
          · have hB115 := hB115.trans (if_neg c_31)
            refine lv_iload hx hb dL_suits_98 (lv_at hl 0 rfl) ?_
            refine lv_aload hx hb dL_suits_100 (lv_at hl 11 rfl) ?_
            refine lv_bipush (v := 8) hx hb dL_suits_102 (by decide) ?_
            refine lv_aload hx hb dL_suits_104 (lv_at hl 13 rfl) ?_
            refine lv_bipush (v := 8) hx hb dL_suits_106 (by decide) ?_
            refine lv_iload hx hb dL_suits_108 (lv_at hl 3 rfl) ?_
            refine lv_imul hx hb dL_suits_110 ?_
            refine xr_ld hC hI 6 (by decide) (show vp_in (8 * (nI k)) 64 from nx_in (nx_mul (by decide : (8 : Int32) = nI 8) rfl) (by omega) (by decide)) (v := (L 6 (8 * k))) (congrArg (L 6) (nx_ix (x := (8 * (nI k))) (nx_mul (by decide : (8 : Int32) = nI 8) rfl) (by omega))) dL_suits_111 ?_
            refine lv_imul hx hb dL_suits_112 ?_
            refine xr_ld hC hI 4 (by decide) (show vp_in (8 * (L 6 (8 * k))) 40 from nx_in (nx_mul (by decide : (8 : Int32) = nI 8) (vp_ixe (hV.u0 (k := k) (by omega)))) (by have h90 := vp_ixl (hV.u0 (k := k) (by omega)); omega) (by decide)) (v := (L 4 (8 * (ix (L 6 (8 * k)))))) (congrArg (L 4) (nx_ix (x := (8 * (L 6 (8 * k)))) (nx_mul (by decide : (8 : Int32) = nI 8) (vp_ixe (hV.u0 (k := k) (by omega)))) (by have h90 := vp_ixl (hV.u0 (k := k) (by omega)); omega))) dL_suits_113 ?_
            refine lv_iand hx hb dL_suits_114 ?_
            exact J115 ((1 + (fL_low (zv >>> ((4 : Int32) &&& 31)) 255)) &&& (L 4 (8 * (ix (L 6 (8 * k)))))) _ _ ls ⟨hB115, hI, lv_sub hl [0, 1, 2, 3, 4, 5, 6, 7, 8, 9, 10, 11, 12, 13, 14, 15, 16, 17] rfl⟩
          · have hB115 := hB115.trans (if_pos c_31)
            refine lv_iload hx hb dL_suits_93 (lv_at hl 0 rfl) ?_
            refine lv_goto (tgt := 115) hx hb dL_suits_95 (by decide) ?_
            exact J115 (1 + (fL_low (zv >>> ((4 : Int32) &&& 31)) 255)) _ _ ls ⟨hB115, hI, lv_sub hl [0, 1, 2, 3, 4, 5, 6, 7, 8, 9, 10, 11, 12, 13, 14, 15, 16, 17] rfl⟩
  · have hB44 : jL_suits_44 L k = jL_suits_44 L k := rfl
    refine lv_icmp_ge (tgt := 43) hx hb dL_suits_36 (by decide) (fun c_1 => ?_) (fun c_1 => ?_)
    · have hB44 := hB44.trans (if_pos c_1)
      refine lv_iconst (v := 0) hx hb dL_suits_43 (by decide) ?_
      exact J44 0 _ _ ls ⟨hB44, hI, lv_sub hl [0, 1, 2, 3, 4, 5, 6, 7, 8, 9, 10, 11, 12, 13, 14, 15] rfl⟩
    · have hB44 := hB44.trans (if_neg c_1)
      refine lv_iconst (v := 1) hx hb dL_suits_39 (by decide) ?_
      refine lv_goto (tgt := 44) hx hb dL_suits_40 (by decide) ?_
      exact J44 1 _ _ ls ⟨hB44, hI, lv_sub hl [0, 1, 2, 3, 4, 5, 6, 7, 8, 9, 10, 11, 12, 13, 14, 15] rfl⟩
