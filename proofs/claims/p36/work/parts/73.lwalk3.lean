/-! the law's readers, walked -/
set_option maxHeartbeats 4000000 in
set_option maxRecDepth 100000 in
theorem qL_wins (l : Launch) (A : Nat → Prop) (D : va_G) (cy : Nat → ClassId) (la : Nat → Nat) (hL : LL 12 A la) (L : St) (hV : LV L) (k : Nat) (hk : k < 8) {x_k : Int32} (ek : x_k = nI k) (much : Int32) : LMutV l A D cy la L yL_wins wsL_wins ({ frames := 5, cells := 0, slots := 0, locals := 141 } : Room) [.int x_k, .int much, .ref (la 0), .ref (la 1), .ref (la 2), .ref (la 3), .ref (la 4), .ref (la 5), .ref (la 6), .ref (la 7), .ref (la 8), .ref (la 9), .ref (la 11)] (fL_wins L k much) := by
  subst ek
  refine Met.ofW (cc := cL_wins) (maxL := 21) (ret := none) (by decide) rfl ?_
  intro p e s m args below meth c s₁ B hml hv
  obtain ⟨rfl, hM, hK⟩ := hv
  have hx := B.exec
  have hb := B.bytes
  have hr := B.returns
  have hts := atoms_spec (ws := wsL_wins) B.pre
  have hown : s.vm.findClass RL = some m.cls := findClass_of_methodNamed B.named
  have hlocks := B.notSynchronized
  have hC : CC p s m _ c cL_wins 21 RL D cy wsL_wins := ⟨⟨hx, hb, hml, hown, hts⟩, hK⟩
  have hI : LI A 12 D cy la s L s.heap [] := ⟨hM, va_S.rf⟩
  have hb1 := hV.b1
  have hb2 := hV.b2
  have hb3 := hV.b3
  have hb4 := hV.b4
  have hl := lv_entry ([.int (nI k), .int much, .ref (la 0), .ref (la 1), .ref (la 2), .ref (la 3), .ref (la 4), .ref (la 5), .ref (la 6), .ref (la 7), .ref (la 8), .ref (la 9), .ref (la 11)]) (n := 21) (Nat.le_of_ble_eq_true rfl)
  rw [lg_entry_eq]
  generalize (lg_sl ([.int (nI k), .int much, .ref (la 0), .ref (la 1), .ref (la 2), .ref (la 3), .ref (la 4), .ref (la 5), .ref (la 6), .ref (la 7), .ref (la 8), .ref (la 9), .ref (la 11)]) ++ List.replicate (21 - (lg_sl ([.int (nI k), .int much, .ref (la 0), .ref (la 1), .ref (la 2), .ref (la 3), .ref (la 4), .ref (la 5), .ref (la 6), .ref (la 7), .ref (la 8), .ref (la 9), .ref (la 11)])).length) Slot.unset).toArray = ls at hl ⊢
  have hl : lv_has ls 21 [(0, .int (nI k)), (1, .int much), (2, .ref (la 0)), (3, .ref (la 1)), (4, .ref (la 2)), (5, .ref (la 3)), (6, .ref (la 4)), (7, .ref (la 5)), (8, .ref (la 6)), (9, .ref (la 7)), (10, .ref (la 8)), (11, .ref (la 9)), (12, .ref (la 11))] := hl
  have hG : fL_wins L k much = fL_wins L k much := rfl
  refine lv_iload_n hx hb dL_wins_0 rfl (lv_at hl 0 rfl) ?_
  refine lv_aload_n hx hb dL_wins_1 rfl (lv_at hl 2 rfl) ?_
  refine lv_aload hx hb dL_wins_2 (lv_at hl 5 rfl) ?_
  refine lv_aload hx hb dL_wins_4 (lv_at hl 6 rfl) ?_
  refine lv_aload hx hb dL_wins_6 (lv_at hl 8 rfl) ?_
  refine lv_aload hx hb dL_wins_8 (lv_at hl 9 rfl) ?_
  refine lv_aload hx hb dL_wins_10 (lv_at hl 12 rfl) ?_
  refine lr_call (As := [.int (nI k), .ref (la 0), .ref (la 3), .ref (la 4), .ref (la 6), .ref (la 7), .ref (la 11)]) (rest := []) hC hI (by decide) (fun _ _ => rfl) (qL_hundredths l D cy la L hV k (by omega) rfl) (va_cwS 7 hts gL_wins_L_hundredths rfl rfl rfl (by decide +kernel) ⟨Nat.le_of_ble_eq_true rfl, Nat.le_of_ble_eq_true rfl⟩) rfl hl.1 rfl (Nat.le_of_ble_eq_true rfl) dL_wins_12 ⟨Nat.le_of_ble_eq_true rfl, Nat.le_of_ble_eq_true rfl⟩ (fun H locs hk9 hz9 hI => ?_)
  refine lv_istore (lv' := [(13, .int (fL_hundredths L k)), (0, .int (nI k)), (1, .int much), (2, .ref (la 0)), (3, .ref (la 1)), (4, .ref (la 2)), (5, .ref (la 3)), (6, .ref (la 4)), (7, .ref (la 5)), (8, .ref (la 6)), (9, .ref (la 7)), (10, .ref (la 8)), (11, .ref (la 9)), (12, .ref (la 11))]) hx hb dL_wins_15 hl (by decide) rfl (fun ls hl => ?_)
  refine lv_iload_n hx hb dL_wins_17 rfl (lv_at hl 2 rfl) ?_
  refine lv_bipush (v := 100) hx hb dL_wins_18 (by decide) ?_
  refine lv_idiv hx hb dL_wins_20 (by decide) ?_
  refine lv_iload hx hb dL_wins_21 (lv_at hl 0 rfl) ?_
  refine lv_imul hx hb dL_wins_23 ?_
  refine lv_iload_n hx hb dL_wins_24 rfl (lv_at hl 2 rfl) ?_
  refine lv_bipush (v := 100) hx hb dL_wins_25 (by decide) ?_
  refine lv_irem hx hb dL_wins_27 (by decide) ?_
  refine lv_iload hx hb dL_wins_28 (lv_at hl 0 rfl) ?_
  refine lv_imul hx hb dL_wins_30 ?_
  refine lv_bipush (v := 100) hx hb dL_wins_31 (by decide) ?_
  refine lv_idiv hx hb dL_wins_33 (by decide) ?_
  refine lv_iadd hx hb dL_wins_34 ?_
  refine lv_istore (lv' := [(14, .int (((much / 100) * (fL_hundredths L k)) + (((much - much / 100 * 100) * (fL_hundredths L k)) / 100))), (13, .int (fL_hundredths L k)), (0, .int (nI k)), (1, .int much), (2, .ref (la 0)), (3, .ref (la 1)), (4, .ref (la 2)), (5, .ref (la 3)), (6, .ref (la 4)), (7, .ref (la 5)), (8, .ref (la 6)), (9, .ref (la 7)), (10, .ref (la 8)), (11, .ref (la 9)), (12, .ref (la 11))]) hx hb dL_wins_35 hl (by decide) rfl (fun ls hl => ?_)
  refine lv_aload hx hb dL_wins_37 (lv_at hl 10 rfl) ?_
  refine lv_bipush (v := 8) hx hb dL_wins_39 (by decide) ?_
  refine lv_iload_n hx hb dL_wins_41 rfl (lv_at hl 2 rfl) ?_
  refine lv_imul hx hb dL_wins_42 ?_
  refine lv_iconst (v := 1) hx hb dL_wins_43 (by decide) ?_
  refine lv_iadd hx hb dL_wins_44 ?_
  refine lr_ld hC hI 6 (by decide) (show vp_in ((8 * (nI k)) + 1) 64 from nx_in (nx_add (nx_mul (by decide : (8 : Int32) = nI 8) rfl) (by decide : (1 : Int32) = nI 1)) (by omega) (by decide)) (v := (L 6 (8 * k + 1))) (congrArg (L 6) (nx_ix (x := ((8 * (nI k)) + 1)) (nx_add (nx_mul (by decide : (8 : Int32) = nI 8) rfl) (by decide : (1 : Int32) = nI 1)) (by omega))) dL_wins_45 ?_
  refine lv_istore (lv' := [(15, .int (L 6 (8 * k + 1))), (14, .int (((much / 100) * (fL_hundredths L k)) + (((much - much / 100 * 100) * (fL_hundredths L k)) / 100))), (13, .int (fL_hundredths L k)), (0, .int (nI k)), (1, .int much), (2, .ref (la 0)), (3, .ref (la 1)), (4, .ref (la 2)), (5, .ref (la 3)), (6, .ref (la 4)), (7, .ref (la 5)), (8, .ref (la 6)), (9, .ref (la 7)), (10, .ref (la 8)), (11, .ref (la 9)), (12, .ref (la 11))]) hx hb dL_wins_46 hl (by decide) rfl (fun ls hl => ?_)
  refine lv_aload hx hb dL_wins_48 (lv_at hl 11 rfl) ?_
  refine lv_bipush (v := 8) hx hb dL_wins_50 (by decide) ?_
  refine lv_iload_n hx hb dL_wins_52 rfl (lv_at hl 3 rfl) ?_
  refine lv_imul hx hb dL_wins_53 ?_
  refine lr_ld hC hI 6 (by decide) (show vp_in (8 * (nI k)) 64 from nx_in (nx_mul (by decide : (8 : Int32) = nI 8) rfl) (by omega) (by decide)) (v := (L 6 (8 * k))) (congrArg (L 6) (nx_ix (x := (8 * (nI k))) (nx_mul (by decide : (8 : Int32) = nI 8) rfl) (by omega))) dL_wins_54 ?_
  refine lv_istore (lv' := [(16, .int (L 6 (8 * k))), (15, .int (L 6 (8 * k + 1))), (14, .int (((much / 100) * (fL_hundredths L k)) + (((much - much / 100 * 100) * (fL_hundredths L k)) / 100))), (13, .int (fL_hundredths L k)), (0, .int (nI k)), (1, .int much), (2, .ref (la 0)), (3, .ref (la 1)), (4, .ref (la 2)), (5, .ref (la 3)), (6, .ref (la 4)), (7, .ref (la 5)), (8, .ref (la 6)), (9, .ref (la 7)), (10, .ref (la 8)), (11, .ref (la 9)), (12, .ref (la 11))]) hx hb dL_wins_55 hl (by decide) rfl (fun ls hl => ?_)
  refine lv_aload hx hb dL_wins_57 (lv_at hl 15 rfl) ?_
  refine lv_iconst (v := 4) hx hb dL_wins_59 (by decide) ?_
  refine lv_iload hx hb dL_wins_60 (lv_at hl 1 rfl) ?_
  refine lv_imul hx hb dL_wins_62 ?_
  refine lv_dup2_11 hx hb dL_wins_63 rfl rfl ?_
  refine lr_ld hC hI 9 (by decide) (show vp_in (4 * (L 6 (8 * k + 1))) 12 from nx_in (nx_mul (by decide : (4 : Int32) = nI 4) (vp_ixe (hV.u1 (k := k) (by omega)))) (by have h90 := vp_ixl (hV.u1 (k := k) (by omega)); omega) (by decide)) (v := (L 9 (4 * (ix (L 6 (8 * k + 1)))))) (congrArg (L 9) (nx_ix (x := (4 * (L 6 (8 * k + 1)))) (nx_mul (by decide : (4 : Int32) = nI 4) (vp_ixe (hV.u1 (k := k) (by omega)))) (by have h90 := vp_ixl (hV.u1 (k := k) (by omega)); omega))) dL_wins_64 ?_
  refine lv_iload_n hx hb dL_wins_65 rfl (lv_at hl 5 rfl) ?_
  refine lv_isub hx hb dL_wins_66 ?_
  refine lr_st hC 9 (by decide) (hL.at 9 (by decide)) hI (show vp_in (4 * (L 6 (8 * k + 1))) 12 from nx_in (nx_mul (by decide : (4 : Int32) = nI 4) (vp_ixe (hV.u1 (k := k) (by omega)))) (by have h90 := vp_ixl (hV.u1 (k := k) (by omega)); omega) (by decide)) (n := (4 * (ix (L 6 (8 * k + 1))))) (nx_ix (x := (4 * (L 6 (8 * k + 1)))) (nx_mul (by decide : (4 : Int32) = nI 4) (vp_ixe (hV.u1 (k := k) (by omega)))) (by have h90 := vp_ixl (hV.u1 (k := k) (by omega)); omega)) dL_wins_67 (fun H locs hI => ?_)
  refine lv_aload hx hb dL_wins_68 (lv_at hl 15 rfl) ?_
  refine lv_iconst (v := 4) hx hb dL_wins_70 (by decide) ?_
  refine lv_iload hx hb dL_wins_71 (lv_at hl 1 rfl) ?_
  refine lv_imul hx hb dL_wins_73 ?_
  refine lv_iconst (v := 2) hx hb dL_wins_74 (by decide) ?_
  refine lv_iadd hx hb dL_wins_75 ?_
  refine lv_dup2_11 hx hb dL_wins_76 rfl rfl ?_
  refine lr_ld hC hI 9 (by decide) (show vp_in ((4 * (L 6 (8 * k + 1))) + 2) 12 from nx_in (nx_add (nx_mul (by decide : (4 : Int32) = nI 4) (vp_ixe (hV.u1 (k := k) (by omega)))) (by decide : (2 : Int32) = nI 2)) (by have h90 := vp_ixl (hV.u1 (k := k) (by omega)); omega) (by decide)) (v := ((up L 9 (4 * (ix (L 6 (8 * k + 1)))) ((L 9 (4 * (ix (L 6 (8 * k + 1))))) - much)) 9 (4 * (ix (L 6 (8 * k + 1))) + 2))) (congrArg ((up L 9 (4 * (ix (L 6 (8 * k + 1)))) ((L 9 (4 * (ix (L 6 (8 * k + 1))))) - much)) 9) (nx_ix (x := ((4 * (L 6 (8 * k + 1))) + 2)) (nx_add (nx_mul (by decide : (4 : Int32) = nI 4) (vp_ixe (hV.u1 (k := k) (by omega)))) (by decide : (2 : Int32) = nI 2)) (by have h90 := vp_ixl (hV.u1 (k := k) (by omega)); omega))) dL_wins_77 ?_
  refine lv_iload_n hx hb dL_wins_78 rfl (lv_at hl 5 rfl) ?_
  refine lv_iadd hx hb dL_wins_79 ?_
  refine lr_st hC 9 (by decide) (hL.at 9 (by decide)) hI (show vp_in ((4 * (L 6 (8 * k + 1))) + 2) 12 from nx_in (nx_add (nx_mul (by decide : (4 : Int32) = nI 4) (vp_ixe (hV.u1 (k := k) (by omega)))) (by decide : (2 : Int32) = nI 2)) (by have h90 := vp_ixl (hV.u1 (k := k) (by omega)); omega) (by decide)) (n := (4 * (ix (L 6 (8 * k + 1))) + 2)) (nx_ix (x := ((4 * (L 6 (8 * k + 1))) + 2)) (nx_add (nx_mul (by decide : (4 : Int32) = nI 4) (vp_ixe (hV.u1 (k := k) (by omega)))) (by decide : (2 : Int32) = nI 2)) (by have h90 := vp_ixl (hV.u1 (k := k) (by omega)); omega)) dL_wins_80 (fun H locs hI => ?_)
  refine lv_aload hx hb dL_wins_81 (lv_at hl 14 rfl) ?_
  refine lv_iload_n hx hb dL_wins_83 rfl (lv_at hl 4 rfl) ?_
  refine lv_iload_n hx hb dL_wins_84 rfl (lv_at hl 5 rfl) ?_
  refine lr_st hC 8 (by decide) (hL.at 8 (by decide)) hI (show vp_in (nI k) 16 from nx_in rfl (by omega) (by decide)) (n := k) (nx_ix (x := (nI k)) rfl (by omega)) dL_wins_85 (fun H locs hI => ?_)
  refine lv_aload hx hb dL_wins_86 (lv_at hl 14 rfl) ?_
  refine lv_bipush (v := 8) hx hb dL_wins_88 (by decide) ?_
  refine lv_iload_n hx hb dL_wins_90 rfl (lv_at hl 4 rfl) ?_
  refine lv_iadd hx hb dL_wins_91 ?_
  refine lv_iload hx hb dL_wins_92 (lv_at hl 2 rfl) ?_
  refine lr_st hC 8 (by decide) (hL.at 8 (by decide)) hI (show vp_in (8 + (nI k)) 16 from nx_in (nx_add (by decide : (8 : Int32) = nI 8) rfl) (by omega) (by decide)) (n := (8 + k)) (nx_ix (x := (8 + (nI k))) (nx_add (by decide : (8 : Int32) = nI 8) rfl) (by omega)) dL_wins_94 (fun H locs hI => ?_)
  refine lv_aload hx hb dL_wins_95 (lv_at hl 16 rfl) ?_
  refine lv_bipush (v := 6) hx hb dL_wins_97 (by decide) ?_
  refine lv_dup2_11 hx hb dL_wins_99 rfl rfl ?_
  refine lr_ld hC hI 11 (by decide) (nx_in (by decide : (6 : Int32) = nI 6) (by decide) (by decide)) (v := (L 11 6)) ((congrArg ((up (up (up (up L 9 (4 * (ix (L 6 (8 * k + 1)))) ((L 9 (4 * (ix (L 6 (8 * k + 1))))) - much)) 9 (4 * (ix (L 6 (8 * k + 1))) + 2) (((up L 9 (4 * (ix (L 6 (8 * k + 1)))) ((L 9 (4 * (ix (L 6 (8 * k + 1))))) - much)) 9 (4 * (ix (L 6 (8 * k + 1))) + 2)) + much)) 8 k much) 8 (8 + k) (((much / 100) * (fL_hundredths L k)) + (((much - much / 100 * 100) * (fL_hundredths L k)) / 100))) 11) (by decide : ix 6 = 6)).trans ((congrFun (up_ne (by decide)) _).trans ((congrFun (up_ne (by decide)) _).trans ((congrFun (up_ne (by decide)) _).trans (congrFun (up_ne (by decide)) _))))) dL_wins_100 ?_
  refine lv_iload_n hx hb dL_wins_101 rfl (lv_at hl 5 rfl) ?_
  refine lv_iload hx hb dL_wins_102 (lv_at hl 2 rfl) ?_
  refine lv_isub hx hb dL_wins_104 ?_
  refine lv_iadd hx hb dL_wins_105 ?_
  refine lr_st hC 11 (by decide) (hL.at 11 (by decide)) hI (nx_in (by decide : (6 : Int32) = nI 6) (by decide) (by decide)) (n := 6) (by decide : ix 6 = 6) dL_wins_106 (fun H locs hI => ?_)
  refine lv_iload hx hb dL_wins_107 (lv_at hl 2 rfl) ?_
  refine lv_istore (lv' := [(17, .int (((much / 100) * (fL_hundredths L k)) + (((much - much / 100 * 100) * (fL_hundredths L k)) / 100))), (16, .int (L 6 (8 * k))), (15, .int (L 6 (8 * k + 1))), (14, .int (((much / 100) * (fL_hundredths L k)) + (((much - much / 100 * 100) * (fL_hundredths L k)) / 100))), (13, .int (fL_hundredths L k)), (0, .int (nI k)), (1, .int much), (2, .ref (la 0)), (3, .ref (la 1)), (4, .ref (la 2)), (5, .ref (la 3)), (6, .ref (la 4)), (7, .ref (la 5)), (8, .ref (la 6)), (9, .ref (la 7)), (10, .ref (la 8)), (11, .ref (la 9)), (12, .ref (la 11))]) hx hb dL_wins_109 hl (by decide) rfl (fun ls hl => ?_)
  refine lv_iconst (v := 0) hx hb dL_wins_111 (by decide) ?_
  refine lv_istore (lv' := [(18, .int 0), (17, .int (((much / 100) * (fL_hundredths L k)) + (((much - much / 100 * 100) * (fL_hundredths L k)) / 100))), (16, .int (L 6 (8 * k))), (15, .int (L 6 (8 * k + 1))), (14, .int (((much / 100) * (fL_hundredths L k)) + (((much - much / 100 * 100) * (fL_hundredths L k)) / 100))), (13, .int (fL_hundredths L k)), (0, .int (nI k)), (1, .int much), (2, .ref (la 0)), (3, .ref (la 1)), (4, .ref (la 2)), (5, .ref (la 3)), (6, .ref (la 4)), (7, .ref (la 5)), (8, .ref (la 6)), (9, .ref (la 7)), (10, .ref (la 8)), (11, .ref (la 9)), (12, .ref (la 11))]) hx hb dL_wins_112 hl (by decide) rfl (fun ls hl => ?_)
  refine w_loop (σ := Int32 × (Nat → Int32)) (q3 L) 114 (fun i114 z H locs ls => z = lL_wins_114 L k much i114 ∧ LI A 12 D cy la s (upr (up (up (up (up (up L 9 (4 * (ix (L 6 (8 * k + 1)))) ((L 9 (4 * (ix (L 6 (8 * k + 1))))) - much)) 9 (4 * (ix (L 6 (8 * k + 1))) + 2) (((up L 9 (4 * (ix (L 6 (8 * k + 1)))) ((L 9 (4 * (ix (L 6 (8 * k + 1))))) - much)) 9 (4 * (ix (L 6 (8 * k + 1))) + 2)) + much)) 8 k much) 8 (8 + k) (((much / 100) * (fL_hundredths L k)) + (((much - much / 100 * 100) * (fL_hundredths L k)) / 100))) 11 6 ((L 11 6) + (much - (((much / 100) * (fL_hundredths L k)) + (((much - much / 100 * 100) * (fL_hundredths L k)) / 100))))) 4 z.2) H locs ∧ lv_has ls 21 [(18, .int (nI i114)), (17, .int z.1), (16, .int (L 6 (8 * k))), (15, .int (L 6 (8 * k + 1))), (14, .int (((much / 100) * (fL_hundredths L k)) + (((much - much / 100 * 100) * (fL_hundredths L k)) / 100))), (13, .int (fL_hundredths L k)), (0, .int (nI k)), (1, .int much), (2, .ref (la 0)), (3, .ref (la 1)), (4, .ref (la 2)), (5, .ref (la 3)), (6, .ref (la 4)), (7, .ref (la 5)), (8, .ref (la 6)), (9, .ref (la 7)), (10, .ref (la 8)), (11, .ref (la 9)), (12, .ref (la 11))]) ?_ ((((much / 100) * (fL_hundredths L k)) + (((much - much / 100 * 100) * (fL_hundredths L k)) / 100)), (L 4)) ⟨rfl, (LI_upr hI 4 rfl), lv_sub hl [0, 1, 2, 3, 4, 5, 6, 7, 8, 9, 10, 11, 12, 13, 14, 15, 16, 17, 18] rfl⟩
  intro i114 z H locs ls ⟨hz114, hI, hl⟩ hi114 ih114
  obtain ⟨x114_17, w114_4⟩ := z
  dsimp only at hI hl hz114
  refine lv_iload hx hb dL_wins_114 (lv_at hl 0 rfl) ?_
  refine lv_aload hx hb dL_wins_116 (lv_at hl 18 rfl) ?_
  refine lv_iconst (v := 3) hx hb dL_wins_118 (by decide) ?_
  refine lr_ld hC hI 11 (by decide) (nx_in (by decide : (3 : Int32) = nI 3) (by decide) (by decide)) (v := (L 11 3)) ((congrArg ((upr (up (up (up (up (up L 9 (4 * (ix (L 6 (8 * k + 1)))) ((L 9 (4 * (ix (L 6 (8 * k + 1))))) - much)) 9 (4 * (ix (L 6 (8 * k + 1))) + 2) (((up L 9 (4 * (ix (L 6 (8 * k + 1)))) ((L 9 (4 * (ix (L 6 (8 * k + 1))))) - much)) 9 (4 * (ix (L 6 (8 * k + 1))) + 2)) + much)) 8 k much) 8 (8 + k) (((much / 100) * (fL_hundredths L k)) + (((much - much / 100 * 100) * (fL_hundredths L k)) / 100))) 11 6 ((L 11 6) + (much - (((much / 100) * (fL_hundredths L k)) + (((much - much / 100 * 100) * (fL_hundredths L k)) / 100))))) 4 w114_4) 11) (by decide : ix 3 = 3)).trans ((congrFun (upr_ne (by decide)) _).trans ((up_off (by decide)).trans ((congrFun (up_ne (by decide)) _).trans ((congrFun (up_ne (by decide)) _).trans ((congrFun (up_ne (by decide)) _).trans (congrFun (up_ne (by decide)) _))))))) dL_wins_119 ?_
  refine lv_icmp_ge (tgt := 230) hx hb dL_wins_120 (by decide) (fun c_1 => ?_) (fun c_1 => ?_)
  · obtain rfl : i114 = q3 L := w_exit hV.n3 hi114 (by have := hV.b3; omega) c_1
    obtain rfl : x114_17 = (lL_wins_114 L k much (q3 L)).1 := by rw [← hz114]
    obtain rfl : w114_4 = (lL_wins_114 L k much (q3 L)).2 := by rw [← hz114]
    refine lv_aload hx hb dL_wins_230 (lv_at hl 12 rfl) ?_
    refine lv_bipush (v := 8) hx hb dL_wins_232 (by decide) ?_
    refine lv_iload hx hb dL_wins_234 (lv_at hl 2 rfl) ?_
    refine lv_imul hx hb dL_wins_236 ?_
    refine lv_iconst (v := 4) hx hb dL_wins_237 (by decide) ?_
    refine lv_iadd hx hb dL_wins_238 ?_
    refine lv_dup2_11 hx hb dL_wins_239 rfl rfl ?_
    refine lr_ld hC hI 4 (by decide) (show vp_in ((8 * (L 6 (8 * k))) + 4) 40 from nx_in (nx_add (nx_mul (by decide : (8 : Int32) = nI 8) (vp_ixe (hV.u0 (k := k) (by omega)))) (by decide : (4 : Int32) = nI 4)) (by have h90 := vp_ixl (hV.u0 (k := k) (by omega)); omega) (by decide)) (v := (((lL_wins_114 L k much (q3 L)).2) (8 * (ix (L 6 (8 * k))) + 4))) ((congrArg ((upr (up (up (up (up (up L 9 (4 * (ix (L 6 (8 * k + 1)))) ((L 9 (4 * (ix (L 6 (8 * k + 1))))) - much)) 9 (4 * (ix (L 6 (8 * k + 1))) + 2) (((up L 9 (4 * (ix (L 6 (8 * k + 1)))) ((L 9 (4 * (ix (L 6 (8 * k + 1))))) - much)) 9 (4 * (ix (L 6 (8 * k + 1))) + 2)) + much)) 8 k much) 8 (8 + k) (((much / 100) * (fL_hundredths L k)) + (((much - much / 100 * 100) * (fL_hundredths L k)) / 100))) 11 6 ((L 11 6) + (much - (((much / 100) * (fL_hundredths L k)) + (((much - much / 100 * 100) * (fL_hundredths L k)) / 100))))) 4 ((lL_wins_114 L k much (q3 L)).2)) 4) (nx_ix (x := ((8 * (L 6 (8 * k))) + 4)) (nx_add (nx_mul (by decide : (8 : Int32) = nI 8) (vp_ixe (hV.u0 (k := k) (by omega)))) (by decide : (4 : Int32) = nI 4)) (by have h90 := vp_ixl (hV.u0 (k := k) (by omega)); omega))).trans (congrFun (upr_at _ _ _) _)) dL_wins_240 ?_
    refine lv_iload hx hb dL_wins_241 (lv_at hl 1 rfl) ?_
    refine lv_iadd hx hb dL_wins_243 ?_
    refine lr_st hC 4 (by decide) (hL.at 4 (by decide)) hI (show vp_in ((8 * (L 6 (8 * k))) + 4) 40 from nx_in (nx_add (nx_mul (by decide : (8 : Int32) = nI 8) (vp_ixe (hV.u0 (k := k) (by omega)))) (by decide : (4 : Int32) = nI 4)) (by have h90 := vp_ixl (hV.u0 (k := k) (by omega)); omega) (by decide)) (n := (8 * (ix (L 6 (8 * k))) + 4)) (nx_ix (x := ((8 * (L 6 (8 * k))) + 4)) (nx_add (nx_mul (by decide : (8 : Int32) = nI 8) (vp_ixe (hV.u0 (k := k) (by omega)))) (by decide : (4 : Int32) = nI 4)) (by have h90 := vp_ixl (hV.u0 (k := k) (by omega)); omega)) dL_wins_244 (fun H locs hI => ?_)
    refine lv_iconst (v := 0) hx hb dL_wins_245 (by decide) ?_
    refine lv_istore (lv' := [(18, .int 0), (17, .int ((lL_wins_114 L k much (q3 L)).1)), (16, .int (L 6 (8 * k))), (15, .int (L 6 (8 * k + 1))), (14, .int (((much / 100) * (fL_hundredths L k)) + (((much - much / 100 * 100) * (fL_hundredths L k)) / 100))), (13, .int (fL_hundredths L k)), (0, .int (nI k)), (1, .int much), (2, .ref (la 0)), (3, .ref (la 1)), (4, .ref (la 2)), (5, .ref (la 3)), (6, .ref (la 4)), (7, .ref (la 5)), (8, .ref (la 6)), (9, .ref (la 7)), (10, .ref (la 8)), (11, .ref (la 9)), (12, .ref (la 11))]) hx hb dL_wins_246 hl (by decide) rfl (fun ls hl => ?_)
    refine lv_iconst (v := 0) hx hb dL_wins_248 (by decide) ?_
    refine lv_istore (lv' := [(19, .int 0), (18, .int 0), (17, .int ((lL_wins_114 L k much (q3 L)).1)), (16, .int (L 6 (8 * k))), (15, .int (L 6 (8 * k + 1))), (14, .int (((much / 100) * (fL_hundredths L k)) + (((much - much / 100 * 100) * (fL_hundredths L k)) / 100))), (13, .int (fL_hundredths L k)), (0, .int (nI k)), (1, .int much), (2, .ref (la 0)), (3, .ref (la 1)), (4, .ref (la 2)), (5, .ref (la 3)), (6, .ref (la 4)), (7, .ref (la 5)), (8, .ref (la 6)), (9, .ref (la 7)), (10, .ref (la 8)), (11, .ref (la 9)), (12, .ref (la 11))]) hx hb dL_wins_249 hl (by decide) rfl (fun ls hl => ?_)
    refine w_loop (σ := Int32) (q1 L) 251 (fun i251 z H locs ls => z = lL_wins_251_v2 L k much i251 ∧ LI A 12 D cy la s (up (upr (up (up (up (up (up L 9 (4 * (ix (L 6 (8 * k + 1)))) ((L 9 (4 * (ix (L 6 (8 * k + 1))))) - much)) 9 (4 * (ix (L 6 (8 * k + 1))) + 2) (((up L 9 (4 * (ix (L 6 (8 * k + 1)))) ((L 9 (4 * (ix (L 6 (8 * k + 1))))) - much)) 9 (4 * (ix (L 6 (8 * k + 1))) + 2)) + much)) 8 k much) 8 (8 + k) (((much / 100) * (fL_hundredths L k)) + (((much - much / 100 * 100) * (fL_hundredths L k)) / 100))) 11 6 ((L 11 6) + (much - (((much / 100) * (fL_hundredths L k)) + (((much - much / 100 * 100) * (fL_hundredths L k)) / 100))))) 4 ((lL_wins_114 L k much (q3 L)).2)) 4 (8 * (ix (L 6 (8 * k))) + 4) ((((lL_wins_114 L k much (q3 L)).2) (8 * (ix (L 6 (8 * k))) + 4)) + ((lL_wins_114 L k much (q3 L)).1))) H locs ∧ lv_has ls 21 [(19, .int (nI i251)), (18, .int z), (17, .int ((lL_wins_114 L k much (q3 L)).1)), (16, .int (L 6 (8 * k))), (15, .int (L 6 (8 * k + 1))), (14, .int (((much / 100) * (fL_hundredths L k)) + (((much - much / 100 * 100) * (fL_hundredths L k)) / 100))), (13, .int (fL_hundredths L k)), (0, .int (nI k)), (1, .int much), (2, .ref (la 0)), (3, .ref (la 1)), (4, .ref (la 2)), (5, .ref (la 3)), (6, .ref (la 4)), (7, .ref (la 5)), (8, .ref (la 6)), (9, .ref (la 7)), (10, .ref (la 8)), (11, .ref (la 9)), (12, .ref (la 11))]) ?_ 0 ⟨rfl, hI, lv_sub hl [0, 1, 2, 3, 4, 5, 6, 7, 8, 9, 10, 11, 12, 13, 14, 15, 16, 17, 18, 19] rfl⟩
    intro i251 z H locs ls ⟨hz251, hI, hl⟩ hi251 ih251
    obtain ⟨x251_18, rfl⟩ : ∃ x, x = z := ⟨_, rfl⟩
    refine lv_iload hx hb dL_wins_251 (lv_at hl 0 rfl) ?_
    refine lv_aload hx hb dL_wins_253 (lv_at hl 19 rfl) ?_
    refine lv_iconst (v := 1) hx hb dL_wins_255 (by decide) ?_
    refine lr_ld hC hI 11 (by decide) (nx_in (by decide : (1 : Int32) = nI 1) (by decide) (by decide)) (v := (L 11 1)) ((congrArg ((up (upr (up (up (up (up (up L 9 (4 * (ix (L 6 (8 * k + 1)))) ((L 9 (4 * (ix (L 6 (8 * k + 1))))) - much)) 9 (4 * (ix (L 6 (8 * k + 1))) + 2) (((up L 9 (4 * (ix (L 6 (8 * k + 1)))) ((L 9 (4 * (ix (L 6 (8 * k + 1))))) - much)) 9 (4 * (ix (L 6 (8 * k + 1))) + 2)) + much)) 8 k much) 8 (8 + k) (((much / 100) * (fL_hundredths L k)) + (((much - much / 100 * 100) * (fL_hundredths L k)) / 100))) 11 6 ((L 11 6) + (much - (((much / 100) * (fL_hundredths L k)) + (((much - much / 100 * 100) * (fL_hundredths L k)) / 100))))) 4 ((lL_wins_114 L k much (q3 L)).2)) 4 (8 * (ix (L 6 (8 * k))) + 4) ((((lL_wins_114 L k much (q3 L)).2) (8 * (ix (L 6 (8 * k))) + 4)) + ((lL_wins_114 L k much (q3 L)).1))) 11) (by decide : ix 1 = 1)).trans ((congrFun (up_ne (by decide)) _).trans ((congrFun (upr_ne (by decide)) _).trans ((up_off (by decide)).trans ((congrFun (up_ne (by decide)) _).trans ((congrFun (up_ne (by decide)) _).trans ((congrFun (up_ne (by decide)) _).trans (congrFun (up_ne (by decide)) _)))))))) dL_wins_256 ?_
    refine lv_icmp_ge (tgt := 297) hx hb dL_wins_257 (by decide) (fun c_12 => ?_) (fun c_12 => ?_)
    · obtain rfl : i251 = q1 L := w_exit hV.n1 hi251 (by have := hV.b1; omega) c_12
      obtain rfl : x251_18 = (lL_wins_251_v2 L k much (q1 L)) := by rw [← hz251]
      refine lv_iconst (v := 0) hx hb dL_wins_297 (by decide) ?_
      refine lv_istore (lv' := [(19, .int 0), (18, .int (lL_wins_251_v2 L k much (q1 L))), (17, .int ((lL_wins_114 L k much (q3 L)).1)), (16, .int (L 6 (8 * k))), (15, .int (L 6 (8 * k + 1))), (14, .int (((much / 100) * (fL_hundredths L k)) + (((much - much / 100 * 100) * (fL_hundredths L k)) / 100))), (13, .int (fL_hundredths L k)), (0, .int (nI k)), (1, .int much), (2, .ref (la 0)), (3, .ref (la 1)), (4, .ref (la 2)), (5, .ref (la 3)), (6, .ref (la 4)), (7, .ref (la 5)), (8, .ref (la 6)), (9, .ref (la 7)), (10, .ref (la 8)), (11, .ref (la 9)), (12, .ref (la 11))]) hx hb dL_wins_298 hl (by decide) rfl (fun ls hl => ?_)
      refine w_loop (σ := (Nat → Int32)) (q2 L) 300 (fun i300 z H locs ls => z = lL_wins_300_v4 L k much i300 ∧ LI A 12 D cy la s (upr (up (upr (up (up (up (up (up L 9 (4 * (ix (L 6 (8 * k + 1)))) ((L 9 (4 * (ix (L 6 (8 * k + 1))))) - much)) 9 (4 * (ix (L 6 (8 * k + 1))) + 2) (((up L 9 (4 * (ix (L 6 (8 * k + 1)))) ((L 9 (4 * (ix (L 6 (8 * k + 1))))) - much)) 9 (4 * (ix (L 6 (8 * k + 1))) + 2)) + much)) 8 k much) 8 (8 + k) (((much / 100) * (fL_hundredths L k)) + (((much - much / 100 * 100) * (fL_hundredths L k)) / 100))) 11 6 ((L 11 6) + (much - (((much / 100) * (fL_hundredths L k)) + (((much - much / 100 * 100) * (fL_hundredths L k)) / 100))))) 4 ((lL_wins_114 L k much (q3 L)).2)) 4 (8 * (ix (L 6 (8 * k))) + 4) ((((lL_wins_114 L k much (q3 L)).2) (8 * (ix (L 6 (8 * k))) + 4)) + ((lL_wins_114 L k much (q3 L)).1))) 2 z) H locs ∧ lv_has ls 21 [(19, .int (nI i300)), (18, .int (lL_wins_251_v2 L k much (q1 L))), (17, .int ((lL_wins_114 L k much (q3 L)).1)), (16, .int (L 6 (8 * k))), (15, .int (L 6 (8 * k + 1))), (14, .int (((much / 100) * (fL_hundredths L k)) + (((much - much / 100 * 100) * (fL_hundredths L k)) / 100))), (13, .int (fL_hundredths L k)), (0, .int (nI k)), (1, .int much), (2, .ref (la 0)), (3, .ref (la 1)), (4, .ref (la 2)), (5, .ref (la 3)), (6, .ref (la 4)), (7, .ref (la 5)), (8, .ref (la 6)), (9, .ref (la 7)), (10, .ref (la 8)), (11, .ref (la 9)), (12, .ref (la 11))]) ?_ (L 2) ⟨rfl, (LI_upr hI 2 rfl), lv_sub hl [0, 1, 2, 3, 4, 5, 6, 7, 8, 9, 10, 11, 12, 13, 14, 15, 16, 17, 18, 19] rfl⟩
      intro i300 z H locs ls ⟨hz300, hI, hl⟩ hi300 ih300
      obtain ⟨w300_2, rfl⟩ : ∃ x, x = z := ⟨_, rfl⟩
      refine lv_iload hx hb dL_wins_300 (lv_at hl 0 rfl) ?_
      refine lv_aload hx hb dL_wins_302 (lv_at hl 19 rfl) ?_
      refine lv_iconst (v := 2) hx hb dL_wins_304 (by decide) ?_
      refine lr_ld hC hI 11 (by decide) (nx_in (by decide : (2 : Int32) = nI 2) (by decide) (by decide)) (v := (L 11 2)) ((congrArg ((upr (up (upr (up (up (up (up (up L 9 (4 * (ix (L 6 (8 * k + 1)))) ((L 9 (4 * (ix (L 6 (8 * k + 1))))) - much)) 9 (4 * (ix (L 6 (8 * k + 1))) + 2) (((up L 9 (4 * (ix (L 6 (8 * k + 1)))) ((L 9 (4 * (ix (L 6 (8 * k + 1))))) - much)) 9 (4 * (ix (L 6 (8 * k + 1))) + 2)) + much)) 8 k much) 8 (8 + k) (((much / 100) * (fL_hundredths L k)) + (((much - much / 100 * 100) * (fL_hundredths L k)) / 100))) 11 6 ((L 11 6) + (much - (((much / 100) * (fL_hundredths L k)) + (((much - much / 100 * 100) * (fL_hundredths L k)) / 100))))) 4 ((lL_wins_114 L k much (q3 L)).2)) 4 (8 * (ix (L 6 (8 * k))) + 4) ((((lL_wins_114 L k much (q3 L)).2) (8 * (ix (L 6 (8 * k))) + 4)) + ((lL_wins_114 L k much (q3 L)).1))) 2 w300_2) 11) (by decide : ix 2 = 2)).trans ((congrFun (upr_ne (by decide)) _).trans ((congrFun (up_ne (by decide)) _).trans ((congrFun (upr_ne (by decide)) _).trans ((up_off (by decide)).trans ((congrFun (up_ne (by decide)) _).trans ((congrFun (up_ne (by decide)) _).trans ((congrFun (up_ne (by decide)) _).trans (congrFun (up_ne (by decide)) _))))))))) dL_wins_305 ?_
      refine lv_icmp_ge (tgt := 380) hx hb dL_wins_306 (by decide) (fun c_17 => ?_) (fun c_17 => ?_)
      · obtain rfl : i300 = q2 L := w_exit hV.n2 hi300 (by have := hV.b2; omega) c_17
        obtain rfl : w300_2 = (lL_wins_300_v4 L k much (q2 L)) := by rw [← hz300]
        refine lv_aload hx hb dL_wins_380 (lv_at hl 15 rfl) ?_
        refine lv_bipush (v := 8) hx hb dL_wins_382 (by decide) ?_
        refine lv_iload_n hx hb dL_wins_384 rfl (lv_at hl 7 rfl) ?_
        refine lv_imul hx hb dL_wins_385 ?_
        refine lv_bipush (v := 7) hx hb dL_wins_386 (by decide) ?_
        refine lv_iadd hx hb dL_wins_388 ?_
        refine lv_iload hx hb dL_wins_389 (lv_at hl 6 rfl) ?_
        refine lr_st hC 6 (by decide) (hL.at 6 (by decide)) hI (show vp_in ((8 * (nI k)) + 7) 64 from nx_in (nx_add (nx_mul (by decide : (8 : Int32) = nI 8) rfl) (by decide : (7 : Int32) = nI 7)) (by omega) (by decide)) (n := (8 * k + 7)) (nx_ix (x := ((8 * (nI k)) + 7)) (nx_add (nx_mul (by decide : (8 : Int32) = nI 8) rfl) (by decide : (7 : Int32) = nI 7)) (by omega)) dL_wins_391 (fun H locs hI => ?_)
        refine lv_aload hx hb dL_wins_392 (lv_at hl 15 rfl) ?_
        refine lv_bipush (v := 8) hx hb dL_wins_394 (by decide) ?_
        refine lv_iload_n hx hb dL_wins_396 rfl (lv_at hl 7 rfl) ?_
        refine lv_imul hx hb dL_wins_397 ?_
        refine lv_iconst (v := 3) hx hb dL_wins_398 (by decide) ?_
        refine lv_iadd hx hb dL_wins_399 ?_
        refine lv_iconst (v := 4) hx hb dL_wins_400 (by decide) ?_
        refine lr_st hC 6 (by decide) (hL.at 6 (by decide)) hI (show vp_in ((8 * (nI k)) + 3) 64 from nx_in (nx_add (nx_mul (by decide : (8 : Int32) = nI 8) rfl) (by decide : (3 : Int32) = nI 3)) (by omega) (by decide)) (n := (8 * k + 3)) (nx_ix (x := ((8 * (nI k)) + 3)) (nx_add (nx_mul (by decide : (8 : Int32) = nI 8) rfl) (by decide : (3 : Int32) = nI 3)) (by omega)) dL_wins_401 (fun H locs hI => ?_)
        exact W.vret hx hb hr (fun t9 ht9 hW9 => ⟨⟨(), rfl, trivial, by show LH 12 D cy la _ t9.heap; rw [ht9, hG]; exact hI.1⟩, hI.2.F ht9⟩) hI.2.2.2 dL_wins_402
      · have hlt300 : i300 < q2 L := w_in hV.n2 hi300 (by have := hV.b2; omega) c_17
        have hB300 : iL_wins_300_v4 L k much i300 w300_2 = iL_wins_300_v4 L k much i300 w300_2 := rfl
        refine lv_iload hx hb dL_wins_309 (lv_at hl 1 rfl) ?_
        refine lv_aload_n hx hb dL_wins_311 rfl (lv_at hl 10 rfl) ?_
        refine lv_iload hx hb dL_wins_312 (lv_at hl 0 rfl) ?_
        refine lr_ld hC hI 1 (by decide) (show vp_in (nI i300) 40 from nx_in rfl (by omega) (by decide)) (v := (L 1 i300)) ((congrArg ((upr (up (upr (up (up (up (up (up L 9 (4 * (ix (L 6 (8 * k + 1)))) ((L 9 (4 * (ix (L 6 (8 * k + 1))))) - much)) 9 (4 * (ix (L 6 (8 * k + 1))) + 2) (((up L 9 (4 * (ix (L 6 (8 * k + 1)))) ((L 9 (4 * (ix (L 6 (8 * k + 1))))) - much)) 9 (4 * (ix (L 6 (8 * k + 1))) + 2)) + much)) 8 k much) 8 (8 + k) (((much / 100) * (fL_hundredths L k)) + (((much - much / 100 * 100) * (fL_hundredths L k)) / 100))) 11 6 ((L 11 6) + (much - (((much / 100) * (fL_hundredths L k)) + (((much - much / 100 * 100) * (fL_hundredths L k)) / 100))))) 4 ((lL_wins_114 L k much (q3 L)).2)) 4 (8 * (ix (L 6 (8 * k))) + 4) ((((lL_wins_114 L k much (q3 L)).2) (8 * (ix (L 6 (8 * k))) + 4)) + ((lL_wins_114 L k much (q3 L)).1))) 2 w300_2) 1) (nx_ix (x := (nI i300)) rfl (by omega))).trans ((congrFun (upr_ne (by decide)) _).trans ((congrFun (up_ne (by decide)) _).trans ((congrFun (upr_ne (by decide)) _).trans ((congrFun (up_ne (by decide)) _).trans ((congrFun (up_ne (by decide)) _).trans ((congrFun (up_ne (by decide)) _).trans ((congrFun (up_ne (by decide)) _).trans (congrFun (up_ne (by decide)) _))))))))) dL_wins_314 ?_
        refine lv_bipush (v := 8) hx hb dL_wins_315 (by decide) ?_
        refine lv_irem hx hb dL_wins_317 (by decide) ?_
        refine lv_ishr hx hb dL_wins_318 ?_
        refine lv_iconst (v := 1) hx hb dL_wins_319 (by decide) ?_
        refine lv_iand hx hb dL_wins_320 ?_
        refine lv_iconst (v := 1) hx hb dL_wins_321 (by decide) ?_
        refine lv_icmp_ne (tgt := 350) hx hb dL_wins_322 (by decide) (fun c_18 => ?_) (fun c_18 => ?_)
        · have hB300 := hB300.trans (if_neg c_18)
          refine lv_iconst (v := 0) hx hb dL_wins_350 (by decide) ?_
          refine lv_istore (lv' := [(20, .int 0), (19, .int (nI i300)), (18, .int (lL_wins_251_v2 L k much (q1 L))), (17, .int ((lL_wins_114 L k much (q3 L)).1)), (16, .int (L 6 (8 * k))), (15, .int (L 6 (8 * k + 1))), (14, .int (((much / 100) * (fL_hundredths L k)) + (((much - much / 100 * 100) * (fL_hundredths L k)) / 100))), (13, .int (fL_hundredths L k)), (0, .int (nI k)), (1, .int much), (2, .ref (la 0)), (3, .ref (la 1)), (4, .ref (la 2)), (5, .ref (la 3)), (6, .ref (la 4)), (7, .ref (la 5)), (8, .ref (la 6)), (9, .ref (la 7)), (10, .ref (la 8)), (11, .ref (la 9)), (12, .ref (la 11))]) hx hb dL_wins_351 hl (by decide) rfl (fun ls hl => ?_)
          refine lv_aload hx hb dL_wins_353 (lv_at hl 12 rfl) ?_
          refine lv_iload hx hb dL_wins_355 (lv_at hl 1 rfl) ?_
          refine lv_iload hx hb dL_wins_357 (lv_at hl 0 rfl) ?_
          refine lv_if_eq (tgt := 368) hx hb dL_wins_359 (by decide) (fun _ => ?_) (fun c => absurd (by decide : (0 : Int32) = 0) c)
          refine lv_aload hx hb dL_wins_368 (lv_at hl 12 rfl) ?_
          refine lv_iload hx hb dL_wins_370 (lv_at hl 1 rfl) ?_
          refine lr_ld hC hI 2 (by decide) (show vp_in (nI i300) 40 from nx_in rfl (by omega) (by decide)) (v := (w300_2 i300)) ((congrArg ((upr (up (upr (up (up (up (up (up L 9 (4 * (ix (L 6 (8 * k + 1)))) ((L 9 (4 * (ix (L 6 (8 * k + 1))))) - much)) 9 (4 * (ix (L 6 (8 * k + 1))) + 2) (((up L 9 (4 * (ix (L 6 (8 * k + 1)))) ((L 9 (4 * (ix (L 6 (8 * k + 1))))) - much)) 9 (4 * (ix (L 6 (8 * k + 1))) + 2)) + much)) 8 k much) 8 (8 + k) (((much / 100) * (fL_hundredths L k)) + (((much - much / 100 * 100) * (fL_hundredths L k)) / 100))) 11 6 ((L 11 6) + (much - (((much / 100) * (fL_hundredths L k)) + (((much - much / 100 * 100) * (fL_hundredths L k)) / 100))))) 4 ((lL_wins_114 L k much (q3 L)).2)) 4 (8 * (ix (L 6 (8 * k))) + 4) ((((lL_wins_114 L k much (q3 L)).2) (8 * (ix (L 6 (8 * k))) + 4)) + ((lL_wins_114 L k much (q3 L)).1))) 2 w300_2) 2) (nx_ix (x := (nI i300)) rfl (by omega))).trans (congrFun (upr_at _ _ _) _)) dL_wins_372 ?_
          refine lr_st hC 2 (by decide) (hL.at 2 (by decide)) hI (show vp_in (nI i300) 40 from nx_in rfl (by omega) (by decide)) (n := i300) (nx_ix (x := (nI i300)) rfl (by omega)) dL_wins_373 (fun H locs hI => ?_)
          refine lv_iinc (v := (nI (i300 + 1))) (lv' := [(19, .int (nI (i300 + 1))), (20, .int 0), (18, .int (lL_wins_251_v2 L k much (q1 L))), (17, .int ((lL_wins_114 L k much (q3 L)).1)), (16, .int (L 6 (8 * k))), (15, .int (L 6 (8 * k + 1))), (14, .int (((much / 100) * (fL_hundredths L k)) + (((much - much / 100 * 100) * (fL_hundredths L k)) / 100))), (13, .int (fL_hundredths L k)), (0, .int (nI k)), (1, .int much), (2, .ref (la 0)), (3, .ref (la 1)), (4, .ref (la 2)), (5, .ref (la 3)), (6, .ref (la 4)), (7, .ref (la 5)), (8, .ref (la 6)), (9, .ref (la 7)), (10, .ref (la 8)), (11, .ref (la 9)), (12, .ref (la 11))]) hx hb dL_wins_374 hl (k := 1) rfl (nI_1 i300) (by decide) rfl (fun ls hl => ?_)
          refine lv_goto (tgt := 300) hx hb dL_wins_377 (by decide) ?_
          exact ih300 (upd w300_2 i300 (w300_2 i300)) _ _ ls hlt300 ⟨(by show _ = iL_wins_300_v4 L k much i300 (lL_wins_300_v4 L k much i300); rw [← hz300]; exact hB300.symm), (LI_eq hI (upr_up _ _ _ _ _)), lv_sub hl [0, 2, 3, 4, 5, 6, 7, 8, 9, 10, 11, 12, 13, 14, 15, 16, 17, 18, 19, 20] rfl⟩
        · have hB300 := hB300.trans (if_pos c_18)
          refine lv_iload hx hb dL_wins_325 (lv_at hl 0 rfl) ?_
          refine lv_iload_n hx hb dL_wins_327 rfl (lv_at hl 7 rfl) ?_
          refine lv_aload_n hx hb dL_wins_328 rfl (lv_at hl 9 rfl) ?_
          refine lv_aload_n hx hb dL_wins_329 rfl (lv_at hl 10 rfl) ?_
          refine lv_aload hx hb dL_wins_330 (lv_at hl 11 rfl) ?_
          refine lv_aload hx hb dL_wins_332 (lv_at hl 12 rfl) ?_
          refine lv_aload hx hb dL_wins_334 (lv_at hl 15 rfl) ?_
          refine lv_aload hx hb dL_wins_336 (lv_at hl 16 rfl) ?_
          refine lv_aload hx hb dL_wins_338 (lv_at hl 19 rfl) ?_
          refine lr_call (As := [.int (nI i300), .int (nI k), .ref (la 0), .ref (la 1), .ref (la 2), .ref (la 3), .ref (la 6), .ref (la 7), .ref (la 11)]) (rest := []) hC hI (by decide) (fun _ _ => rfl) (qL_counts l D cy la (upr (up (upr (up (up (up (up (up L 9 (4 * (ix (L 6 (8 * k + 1)))) ((L 9 (4 * (ix (L 6 (8 * k + 1))))) - much)) 9 (4 * (ix (L 6 (8 * k + 1))) + 2) (((up L 9 (4 * (ix (L 6 (8 * k + 1)))) ((L 9 (4 * (ix (L 6 (8 * k + 1))))) - much)) 9 (4 * (ix (L 6 (8 * k + 1))) + 2)) + much)) 8 k much) 8 (8 + k) (((much / 100) * (fL_hundredths L k)) + (((much - much / 100 * 100) * (fL_hundredths L k)) / 100))) 11 6 ((L 11 6) + (much - (((much / 100) * (fL_hundredths L k)) + (((much - much / 100 * 100) * (fL_hundredths L k)) / 100))))) 4 ((lL_wins_114 L k much (q3 L)).2)) 4 (8 * (ix (L 6 (8 * k))) + 4) ((((lL_wins_114 L k much (q3 L)).2) (8 * (ix (L 6 (8 * k))) + 4)) + ((lL_wins_114 L k much (q3 L)).1))) 2 w300_2) (hV.congr ⟨rfl, rfl, rfl, rfl⟩ rfl rfl rfl rfl) i300 (by omega) rfl k (by omega) rfl) (va_cwS 9 hts gL_wins_L_counts rfl rfl rfl (by decide +kernel) ⟨Nat.le_of_ble_eq_true rfl, Nat.le_of_ble_eq_true rfl⟩) rfl hl.1 rfl (Nat.le_of_ble_eq_true rfl) dL_wins_340 ⟨Nat.le_of_ble_eq_true rfl, Nat.le_of_ble_eq_true rfl⟩ (fun H locs hk9 hz9 hI => ?_)
          refine lv_if_eq (tgt := 350) hx hb dL_wins_343 (by decide) (fun c_19 => ?_) (fun c_19 => ?_)
          · have hB300 := hB300.trans (if_pos c_19)
            refine lv_iconst (v := 0) hx hb dL_wins_350 (by decide) ?_
            refine lv_istore (lv' := [(20, .int 0), (19, .int (nI i300)), (18, .int (lL_wins_251_v2 L k much (q1 L))), (17, .int ((lL_wins_114 L k much (q3 L)).1)), (16, .int (L 6 (8 * k))), (15, .int (L 6 (8 * k + 1))), (14, .int (((much / 100) * (fL_hundredths L k)) + (((much - much / 100 * 100) * (fL_hundredths L k)) / 100))), (13, .int (fL_hundredths L k)), (0, .int (nI k)), (1, .int much), (2, .ref (la 0)), (3, .ref (la 1)), (4, .ref (la 2)), (5, .ref (la 3)), (6, .ref (la 4)), (7, .ref (la 5)), (8, .ref (la 6)), (9, .ref (la 7)), (10, .ref (la 8)), (11, .ref (la 9)), (12, .ref (la 11))]) hx hb dL_wins_351 hl (by decide) rfl (fun ls hl => ?_)
            refine lv_aload hx hb dL_wins_353 (lv_at hl 12 rfl) ?_
            refine lv_iload hx hb dL_wins_355 (lv_at hl 1 rfl) ?_
            refine lv_iload hx hb dL_wins_357 (lv_at hl 0 rfl) ?_
            refine lv_if_eq (tgt := 368) hx hb dL_wins_359 (by decide) (fun _ => ?_) (fun c => absurd (by decide : (0 : Int32) = 0) c)
            refine lv_aload hx hb dL_wins_368 (lv_at hl 12 rfl) ?_
            refine lv_iload hx hb dL_wins_370 (lv_at hl 1 rfl) ?_
            refine lr_ld hC hI 2 (by decide) (show vp_in (nI i300) 40 from nx_in rfl (by omega) (by decide)) (v := (w300_2 i300)) ((congrArg ((upr (up (upr (up (up (up (up (up L 9 (4 * (ix (L 6 (8 * k + 1)))) ((L 9 (4 * (ix (L 6 (8 * k + 1))))) - much)) 9 (4 * (ix (L 6 (8 * k + 1))) + 2) (((up L 9 (4 * (ix (L 6 (8 * k + 1)))) ((L 9 (4 * (ix (L 6 (8 * k + 1))))) - much)) 9 (4 * (ix (L 6 (8 * k + 1))) + 2)) + much)) 8 k much) 8 (8 + k) (((much / 100) * (fL_hundredths L k)) + (((much - much / 100 * 100) * (fL_hundredths L k)) / 100))) 11 6 ((L 11 6) + (much - (((much / 100) * (fL_hundredths L k)) + (((much - much / 100 * 100) * (fL_hundredths L k)) / 100))))) 4 ((lL_wins_114 L k much (q3 L)).2)) 4 (8 * (ix (L 6 (8 * k))) + 4) ((((lL_wins_114 L k much (q3 L)).2) (8 * (ix (L 6 (8 * k))) + 4)) + ((lL_wins_114 L k much (q3 L)).1))) 2 w300_2) 2) (nx_ix (x := (nI i300)) rfl (by omega))).trans (congrFun (upr_at _ _ _) _)) dL_wins_372 ?_
            refine lr_st hC 2 (by decide) (hL.at 2 (by decide)) hI (show vp_in (nI i300) 40 from nx_in rfl (by omega) (by decide)) (n := i300) (nx_ix (x := (nI i300)) rfl (by omega)) dL_wins_373 (fun H locs hI => ?_)
            refine lv_iinc (v := (nI (i300 + 1))) (lv' := [(19, .int (nI (i300 + 1))), (20, .int 0), (18, .int (lL_wins_251_v2 L k much (q1 L))), (17, .int ((lL_wins_114 L k much (q3 L)).1)), (16, .int (L 6 (8 * k))), (15, .int (L 6 (8 * k + 1))), (14, .int (((much / 100) * (fL_hundredths L k)) + (((much - much / 100 * 100) * (fL_hundredths L k)) / 100))), (13, .int (fL_hundredths L k)), (0, .int (nI k)), (1, .int much), (2, .ref (la 0)), (3, .ref (la 1)), (4, .ref (la 2)), (5, .ref (la 3)), (6, .ref (la 4)), (7, .ref (la 5)), (8, .ref (la 6)), (9, .ref (la 7)), (10, .ref (la 8)), (11, .ref (la 9)), (12, .ref (la 11))]) hx hb dL_wins_374 hl (k := 1) rfl (nI_1 i300) (by decide) rfl (fun ls hl => ?_)
            refine lv_goto (tgt := 300) hx hb dL_wins_377 (by decide) ?_
            exact ih300 (upd w300_2 i300 (w300_2 i300)) _ _ ls hlt300 ⟨(by show _ = iL_wins_300_v4 L k much i300 (lL_wins_300_v4 L k much i300); rw [← hz300]; exact hB300.symm), (LI_eq hI (upr_up _ _ _ _ _)), lv_sub hl [0, 2, 3, 4, 5, 6, 7, 8, 9, 10, 11, 12, 13, 14, 15, 16, 17, 18, 19, 20] rfl⟩
          · have hB300 := hB300.trans (if_neg c_19)
            refine lv_iconst (v := 1) hx hb dL_wins_346 (by decide) ?_
            refine lv_goto (tgt := 351) hx hb dL_wins_347 (by decide) ?_
            refine lv_istore (lv' := [(20, .int 1), (19, .int (nI i300)), (18, .int (lL_wins_251_v2 L k much (q1 L))), (17, .int ((lL_wins_114 L k much (q3 L)).1)), (16, .int (L 6 (8 * k))), (15, .int (L 6 (8 * k + 1))), (14, .int (((much / 100) * (fL_hundredths L k)) + (((much - much / 100 * 100) * (fL_hundredths L k)) / 100))), (13, .int (fL_hundredths L k)), (0, .int (nI k)), (1, .int much), (2, .ref (la 0)), (3, .ref (la 1)), (4, .ref (la 2)), (5, .ref (la 3)), (6, .ref (la 4)), (7, .ref (la 5)), (8, .ref (la 6)), (9, .ref (la 7)), (10, .ref (la 8)), (11, .ref (la 9)), (12, .ref (la 11))]) hx hb dL_wins_351 hl (by decide) rfl (fun ls hl => ?_)
            refine lv_aload hx hb dL_wins_353 (lv_at hl 12 rfl) ?_
            refine lv_iload hx hb dL_wins_355 (lv_at hl 1 rfl) ?_
            refine lv_iload hx hb dL_wins_357 (lv_at hl 0 rfl) ?_
            refine lv_if_eq (tgt := 368) hx hb dL_wins_359 (by decide) (fun c => absurd c (by decide : ¬ (1 : Int32) = 0)) (fun _ => ?_)
            refine lv_iload_n hx hb dL_wins_362 rfl (lv_at hl 8 rfl) ?_
            refine lv_iconst (v := 1) hx hb dL_wins_363 (by decide) ?_
            refine lv_iadd hx hb dL_wins_364 ?_
            refine lv_goto (tgt := 373) hx hb dL_wins_365 (by decide) ?_
            refine lr_st hC 2 (by decide) (hL.at 2 (by decide)) hI (show vp_in (nI i300) 40 from nx_in rfl (by omega) (by decide)) (n := i300) (nx_ix (x := (nI i300)) rfl (by omega)) dL_wins_373 (fun H locs hI => ?_)
            refine lv_iinc (v := (nI (i300 + 1))) (lv' := [(19, .int (nI (i300 + 1))), (20, .int 1), (18, .int (lL_wins_251_v2 L k much (q1 L))), (17, .int ((lL_wins_114 L k much (q3 L)).1)), (16, .int (L 6 (8 * k))), (15, .int (L 6 (8 * k + 1))), (14, .int (((much / 100) * (fL_hundredths L k)) + (((much - much / 100 * 100) * (fL_hundredths L k)) / 100))), (13, .int (fL_hundredths L k)), (0, .int (nI k)), (1, .int much), (2, .ref (la 0)), (3, .ref (la 1)), (4, .ref (la 2)), (5, .ref (la 3)), (6, .ref (la 4)), (7, .ref (la 5)), (8, .ref (la 6)), (9, .ref (la 7)), (10, .ref (la 8)), (11, .ref (la 9)), (12, .ref (la 11))]) hx hb dL_wins_374 hl (k := 1) rfl (nI_1 i300) (by decide) rfl (fun ls hl => ?_)
            refine lv_goto (tgt := 300) hx hb dL_wins_377 (by decide) ?_
            exact ih300 (upd w300_2 i300 ((nI k) + 1)) _ _ ls hlt300 ⟨(by show _ = iL_wins_300_v4 L k much i300 (lL_wins_300_v4 L k much i300); rw [← hz300]; exact hB300.symm), (LI_eq hI (upr_up _ _ _ _ _)), lv_sub hl [0, 2, 3, 4, 5, 6, 7, 8, 9, 10, 11, 12, 13, 14, 15, 16, 17, 18, 19, 20] rfl⟩
    · have hlt251 : i251 < q1 L := w_in hV.n1 hi251 (by have := hV.b1; omega) c_12
      have hB251 : iL_wins_251_v2 L k much i251 x251_18 = iL_wins_251_v2 L k much i251 x251_18 := rfl
      refine lv_iload hx hb dL_wins_260 (lv_at hl 1 rfl) ?_
      refine lv_iload_n hx hb dL_wins_262 rfl (lv_at hl 7 rfl) ?_
      refine lv_iload hx hb dL_wins_263 (lv_at hl 0 rfl) ?_
      refine lv_aload_n hx hb dL_wins_265 rfl (lv_at hl 9 rfl) ?_
      refine lv_aload hx hb dL_wins_266 (lv_at hl 12 rfl) ?_
      refine lv_aload hx hb dL_wins_268 (lv_at hl 15 rfl) ?_
      refine lv_aload hx hb dL_wins_270 (lv_at hl 16 rfl) ?_
      refine lv_aload hx hb dL_wins_272 (lv_at hl 19 rfl) ?_
      refine lr_call (As := [.int (nI k), .int (nI i251), .ref (la 0), .ref (la 3), .ref (la 6), .ref (la 7), .ref (la 11)]) (rest := [.int x251_18]) hC hI (by decide) (fun _ _ => rfl) (qL_bar l D cy la (up (upr (up (up (up (up (up L 9 (4 * (ix (L 6 (8 * k + 1)))) ((L 9 (4 * (ix (L 6 (8 * k + 1))))) - much)) 9 (4 * (ix (L 6 (8 * k + 1))) + 2) (((up L 9 (4 * (ix (L 6 (8 * k + 1)))) ((L 9 (4 * (ix (L 6 (8 * k + 1))))) - much)) 9 (4 * (ix (L 6 (8 * k + 1))) + 2)) + much)) 8 k much) 8 (8 + k) (((much / 100) * (fL_hundredths L k)) + (((much - much / 100 * 100) * (fL_hundredths L k)) / 100))) 11 6 ((L 11 6) + (much - (((much / 100) * (fL_hundredths L k)) + (((much - much / 100 * 100) * (fL_hundredths L k)) / 100))))) 4 ((lL_wins_114 L k much (q3 L)).2)) 4 (8 * (ix (L 6 (8 * k))) + 4) ((((lL_wins_114 L k much (q3 L)).2) (8 * (ix (L 6 (8 * k))) + 4)) + ((lL_wins_114 L k much (q3 L)).1))) (hV.congr ⟨rfl, rfl, rfl, rfl⟩ rfl rfl rfl rfl) k (by omega) rfl i251 (by omega) rfl) (va_cwS 7 hts gL_wins_L_bar rfl rfl rfl (by decide +kernel) ⟨Nat.le_of_ble_eq_true rfl, Nat.le_of_ble_eq_true rfl⟩) rfl hl.1 rfl (Nat.le_of_ble_eq_true rfl) dL_wins_274 ⟨Nat.le_of_ble_eq_true rfl, Nat.le_of_ble_eq_true rfl⟩ (fun H locs hk9 hz9 hI => ?_)
      refine lv_if_ne (tgt := 287) hx hb dL_wins_277 (by decide) (fun c_16 => ?_) (fun c_16 => ?_)
      · have hB251 := hB251.trans (if_neg c_16)
        refine lv_iconst (v := 0) hx hb dL_wins_287 (by decide) ?_
        refine lv_ior hx hb dL_wins_288 ?_
        refine lv_istore (lv' := [(18, .int (x251_18 ||| 0)), (19, .int (nI i251)), (17, .int ((lL_wins_114 L k much (q3 L)).1)), (16, .int (L 6 (8 * k))), (15, .int (L 6 (8 * k + 1))), (14, .int (((much / 100) * (fL_hundredths L k)) + (((much - much / 100 * 100) * (fL_hundredths L k)) / 100))), (13, .int (fL_hundredths L k)), (0, .int (nI k)), (1, .int much), (2, .ref (la 0)), (3, .ref (la 1)), (4, .ref (la 2)), (5, .ref (la 3)), (6, .ref (la 4)), (7, .ref (la 5)), (8, .ref (la 6)), (9, .ref (la 7)), (10, .ref (la 8)), (11, .ref (la 9)), (12, .ref (la 11))]) hx hb dL_wins_289 hl (by decide) rfl (fun ls hl => ?_)
        refine lv_iinc (v := (nI (i251 + 1))) (lv' := [(19, .int (nI (i251 + 1))), (18, .int (x251_18 ||| 0)), (17, .int ((lL_wins_114 L k much (q3 L)).1)), (16, .int (L 6 (8 * k))), (15, .int (L 6 (8 * k + 1))), (14, .int (((much / 100) * (fL_hundredths L k)) + (((much - much / 100 * 100) * (fL_hundredths L k)) / 100))), (13, .int (fL_hundredths L k)), (0, .int (nI k)), (1, .int much), (2, .ref (la 0)), (3, .ref (la 1)), (4, .ref (la 2)), (5, .ref (la 3)), (6, .ref (la 4)), (7, .ref (la 5)), (8, .ref (la 6)), (9, .ref (la 7)), (10, .ref (la 8)), (11, .ref (la 9)), (12, .ref (la 11))]) hx hb dL_wins_291 hl (k := 1) rfl (nI_1 i251) (by decide) rfl (fun ls hl => ?_)
        refine lv_goto (tgt := 251) hx hb dL_wins_294 (by decide) ?_
        exact ih251 (x251_18 ||| 0) _ _ ls hlt251 ⟨(by show _ = iL_wins_251_v2 L k much i251 (lL_wins_251_v2 L k much i251); rw [← hz251]; exact hB251.symm), hI, lv_sub hl [0, 1, 2, 3, 4, 5, 6, 7, 8, 9, 10, 11, 12, 13, 14, 15, 16, 17, 18, 19] rfl⟩
      · have hB251 := hB251.trans (if_pos c_16)
        refine lv_iconst (v := 1) hx hb dL_wins_280 (by decide) ?_
        refine lv_iload hx hb dL_wins_281 (lv_at hl 0 rfl) ?_
        refine lv_ishl hx hb dL_wins_283 ?_
        refine lv_goto (tgt := 288) hx hb dL_wins_284 (by decide) ?_
        refine lv_ior hx hb dL_wins_288 ?_
        refine lv_istore (lv' := [(18, .int (x251_18 ||| (1 <<< ((nI i251) &&& 31)))), (19, .int (nI i251)), (17, .int ((lL_wins_114 L k much (q3 L)).1)), (16, .int (L 6 (8 * k))), (15, .int (L 6 (8 * k + 1))), (14, .int (((much / 100) * (fL_hundredths L k)) + (((much - much / 100 * 100) * (fL_hundredths L k)) / 100))), (13, .int (fL_hundredths L k)), (0, .int (nI k)), (1, .int much), (2, .ref (la 0)), (3, .ref (la 1)), (4, .ref (la 2)), (5, .ref (la 3)), (6, .ref (la 4)), (7, .ref (la 5)), (8, .ref (la 6)), (9, .ref (la 7)), (10, .ref (la 8)), (11, .ref (la 9)), (12, .ref (la 11))]) hx hb dL_wins_289 hl (by decide) rfl (fun ls hl => ?_)
        refine lv_iinc (v := (nI (i251 + 1))) (lv' := [(19, .int (nI (i251 + 1))), (18, .int (x251_18 ||| (1 <<< ((nI i251) &&& 31)))), (17, .int ((lL_wins_114 L k much (q3 L)).1)), (16, .int (L 6 (8 * k))), (15, .int (L 6 (8 * k + 1))), (14, .int (((much / 100) * (fL_hundredths L k)) + (((much - much / 100 * 100) * (fL_hundredths L k)) / 100))), (13, .int (fL_hundredths L k)), (0, .int (nI k)), (1, .int much), (2, .ref (la 0)), (3, .ref (la 1)), (4, .ref (la 2)), (5, .ref (la 3)), (6, .ref (la 4)), (7, .ref (la 5)), (8, .ref (la 6)), (9, .ref (la 7)), (10, .ref (la 8)), (11, .ref (la 9)), (12, .ref (la 11))]) hx hb dL_wins_291 hl (k := 1) rfl (nI_1 i251) (by decide) rfl (fun ls hl => ?_)
        refine lv_goto (tgt := 251) hx hb dL_wins_294 (by decide) ?_
        exact ih251 (x251_18 ||| (1 <<< ((nI i251) &&& 31))) _ _ ls hlt251 ⟨(by show _ = iL_wins_251_v2 L k much i251 (lL_wins_251_v2 L k much i251); rw [← hz251]; exact hB251.symm), hI, lv_sub hl [0, 1, 2, 3, 4, 5, 6, 7, 8, 9, 10, 11, 12, 13, 14, 15, 16, 17, 18, 19] rfl⟩
  · have hlt114 : i114 < q3 L := w_in hV.n3 hi114 (by have := hV.b3; omega) c_1
    have hB114 : iL_wins_114 L k much i114 x114_17 w114_4 = iL_wins_114 L k much i114 x114_17 w114_4 := rfl
    refine lv_aload hx hb dL_wins_123 (lv_at hl 13 rfl) ?_
    refine lv_iload hx hb dL_wins_125 (lv_at hl 0 rfl) ?_
    refine lr_ld hC hI 5 (by decide) (show vp_in (nI i114) 20 from nx_in rfl (by omega) (by decide)) (v := (L 5 i114)) ((congrArg ((upr (up (up (up (up (up L 9 (4 * (ix (L 6 (8 * k + 1)))) ((L 9 (4 * (ix (L 6 (8 * k + 1))))) - much)) 9 (4 * (ix (L 6 (8 * k + 1))) + 2) (((up L 9 (4 * (ix (L 6 (8 * k + 1)))) ((L 9 (4 * (ix (L 6 (8 * k + 1))))) - much)) 9 (4 * (ix (L 6 (8 * k + 1))) + 2)) + much)) 8 k much) 8 (8 + k) (((much / 100) * (fL_hundredths L k)) + (((much - much / 100 * 100) * (fL_hundredths L k)) / 100))) 11 6 ((L 11 6) + (much - (((much / 100) * (fL_hundredths L k)) + (((much - much / 100 * 100) * (fL_hundredths L k)) / 100))))) 4 w114_4) 5) (nx_ix (x := (nI i114)) rfl (by omega))).trans ((congrFun (upr_ne (by decide)) _).trans ((congrFun (up_ne (by decide)) _).trans ((congrFun (up_ne (by decide)) _).trans ((congrFun (up_ne (by decide)) _).trans ((congrFun (up_ne (by decide)) _).trans (congrFun (up_ne (by decide)) _))))))) dL_wins_127 ?_
    refine lv_bipush (v := 8) hx hb dL_wins_128 (by decide) ?_
    refine lv_irem hx hb dL_wins_130 (by decide) ?_
    refine lv_iload hx hb dL_wins_131 (lv_at hl 2 rfl) ?_
    refine lv_icmp_ne (tgt := 224) hx hb dL_wins_133 (by decide) (fun c_10 => ?_) (fun c_10 => ?_)
    · have hB114 := hB114.trans (if_neg c_10)
      refine lv_iinc (v := (nI (i114 + 1))) (lv' := [(18, .int (nI (i114 + 1))), (17, .int x114_17), (16, .int (L 6 (8 * k))), (15, .int (L 6 (8 * k + 1))), (14, .int (((much / 100) * (fL_hundredths L k)) + (((much - much / 100 * 100) * (fL_hundredths L k)) / 100))), (13, .int (fL_hundredths L k)), (0, .int (nI k)), (1, .int much), (2, .ref (la 0)), (3, .ref (la 1)), (4, .ref (la 2)), (5, .ref (la 3)), (6, .ref (la 4)), (7, .ref (la 5)), (8, .ref (la 6)), (9, .ref (la 7)), (10, .ref (la 8)), (11, .ref (la 9)), (12, .ref (la 11))]) hx hb dL_wins_224 hl (k := 0) rfl (nI_1 i114) (by decide) rfl (fun ls hl => ?_)
      refine lv_goto (tgt := 114) hx hb dL_wins_227 (by decide) ?_
      exact ih114 (x114_17, w114_4) _ _ ls hlt114 ⟨(by show _ = iL_wins_114 L k much i114 (lL_wins_114 L k much i114).1 (lL_wins_114 L k much i114).2; rw [← hz114]; exact hB114.symm), hI, lv_sub hl [0, 1, 2, 3, 4, 5, 6, 7, 8, 9, 10, 11, 12, 13, 14, 15, 16, 17, 18] rfl⟩
    · have hB114 := hB114.trans (if_pos c_10)
      refine lv_aload hx hb dL_wins_136 (lv_at hl 13 rfl) ?_
      refine lv_iload hx hb dL_wins_138 (lv_at hl 0 rfl) ?_
      refine lr_ld hC hI 5 (by decide) (show vp_in (nI i114) 20 from nx_in rfl (by omega) (by decide)) (v := (L 5 i114)) ((congrArg ((upr (up (up (up (up (up L 9 (4 * (ix (L 6 (8 * k + 1)))) ((L 9 (4 * (ix (L 6 (8 * k + 1))))) - much)) 9 (4 * (ix (L 6 (8 * k + 1))) + 2) (((up L 9 (4 * (ix (L 6 (8 * k + 1)))) ((L 9 (4 * (ix (L 6 (8 * k + 1))))) - much)) 9 (4 * (ix (L 6 (8 * k + 1))) + 2)) + much)) 8 k much) 8 (8 + k) (((much / 100) * (fL_hundredths L k)) + (((much - much / 100 * 100) * (fL_hundredths L k)) / 100))) 11 6 ((L 11 6) + (much - (((much / 100) * (fL_hundredths L k)) + (((much - much / 100 * 100) * (fL_hundredths L k)) / 100))))) 4 w114_4) 5) (nx_ix (x := (nI i114)) rfl (by omega))).trans ((congrFun (upr_ne (by decide)) _).trans ((congrFun (up_ne (by decide)) _).trans ((congrFun (up_ne (by decide)) _).trans ((congrFun (up_ne (by decide)) _).trans ((congrFun (up_ne (by decide)) _).trans (congrFun (up_ne (by decide)) _))))))) dL_wins_140 ?_
      refine lv_sipush (v := 8192) hx hb dL_wins_141 (by decide) ?_
      refine lv_idiv hx hb dL_wins_144 (by decide) ?_
      refine lv_aload hx hb dL_wins_145 (lv_at hl 14 rfl) ?_
      refine lv_bipush (v := 8) hx hb dL_wins_147 (by decide) ?_
      refine lv_iload_n hx hb dL_wins_149 rfl (lv_at hl 6 rfl) ?_
      refine lv_imul hx hb dL_wins_150 ?_
      refine lv_iconst (v := 2) hx hb dL_wins_151 (by decide) ?_
      refine lv_iadd hx hb dL_wins_152 ?_
      refine lr_ld hC hI 6 (by decide) (show vp_in ((8 * (nI k)) + 2) 64 from nx_in (nx_add (nx_mul (by decide : (8 : Int32) = nI 8) rfl) (by decide : (2 : Int32) = nI 2)) (by omega) (by decide)) (v := (L 6 (8 * k + 2))) ((congrArg ((upr (up (up (up (up (up L 9 (4 * (ix (L 6 (8 * k + 1)))) ((L 9 (4 * (ix (L 6 (8 * k + 1))))) - much)) 9 (4 * (ix (L 6 (8 * k + 1))) + 2) (((up L 9 (4 * (ix (L 6 (8 * k + 1)))) ((L 9 (4 * (ix (L 6 (8 * k + 1))))) - much)) 9 (4 * (ix (L 6 (8 * k + 1))) + 2)) + much)) 8 k much) 8 (8 + k) (((much / 100) * (fL_hundredths L k)) + (((much - much / 100 * 100) * (fL_hundredths L k)) / 100))) 11 6 ((L 11 6) + (much - (((much / 100) * (fL_hundredths L k)) + (((much - much / 100 * 100) * (fL_hundredths L k)) / 100))))) 4 w114_4) 6) (nx_ix (x := ((8 * (nI k)) + 2)) (nx_add (nx_mul (by decide : (8 : Int32) = nI 8) rfl) (by decide : (2 : Int32) = nI 2)) (by omega))).trans ((congrFun (upr_ne (by decide)) _).trans ((congrFun (up_ne (by decide)) _).trans ((congrFun (up_ne (by decide)) _).trans ((congrFun (up_ne (by decide)) _).trans ((congrFun (up_ne (by decide)) _).trans (congrFun (up_ne (by decide)) _))))))) dL_wins_153 ?_
      refine lv_icmp_ge (tgt := 224) hx hb dL_wins_154 (by decide) (fun c_11 => ?_) (fun c_11 => ?_)
      · have hB114 := hB114.trans (if_pos c_11)
        refine lv_iinc (v := (nI (i114 + 1))) (lv' := [(18, .int (nI (i114 + 1))), (17, .int x114_17), (16, .int (L 6 (8 * k))), (15, .int (L 6 (8 * k + 1))), (14, .int (((much / 100) * (fL_hundredths L k)) + (((much - much / 100 * 100) * (fL_hundredths L k)) / 100))), (13, .int (fL_hundredths L k)), (0, .int (nI k)), (1, .int much), (2, .ref (la 0)), (3, .ref (la 1)), (4, .ref (la 2)), (5, .ref (la 3)), (6, .ref (la 4)), (7, .ref (la 5)), (8, .ref (la 6)), (9, .ref (la 7)), (10, .ref (la 8)), (11, .ref (la 9)), (12, .ref (la 11))]) hx hb dL_wins_224 hl (k := 0) rfl (nI_1 i114) (by decide) rfl (fun ls hl => ?_)
        refine lv_goto (tgt := 114) hx hb dL_wins_227 (by decide) ?_
        exact ih114 (x114_17, w114_4) _ _ ls hlt114 ⟨(by show _ = iL_wins_114 L k much i114 (lL_wins_114 L k much i114).1 (lL_wins_114 L k much i114).2; rw [← hz114]; exact hB114.symm), hI, lv_sub hl [0, 1, 2, 3, 4, 5, 6, 7, 8, 9, 10, 11, 12, 13, 14, 15, 16, 17, 18] rfl⟩
      · have hB114 := hB114.trans (if_neg c_11)
        refine lv_aload hx hb dL_wins_157 (lv_at hl 13 rfl) ?_
        refine lv_iload hx hb dL_wins_159 (lv_at hl 0 rfl) ?_
        refine lr_ld hC hI 5 (by decide) (show vp_in (nI i114) 20 from nx_in rfl (by omega) (by decide)) (v := (L 5 i114)) ((congrArg ((upr (up (up (up (up (up L 9 (4 * (ix (L 6 (8 * k + 1)))) ((L 9 (4 * (ix (L 6 (8 * k + 1))))) - much)) 9 (4 * (ix (L 6 (8 * k + 1))) + 2) (((up L 9 (4 * (ix (L 6 (8 * k + 1)))) ((L 9 (4 * (ix (L 6 (8 * k + 1))))) - much)) 9 (4 * (ix (L 6 (8 * k + 1))) + 2)) + much)) 8 k much) 8 (8 + k) (((much / 100) * (fL_hundredths L k)) + (((much - much / 100 * 100) * (fL_hundredths L k)) / 100))) 11 6 ((L 11 6) + (much - (((much / 100) * (fL_hundredths L k)) + (((much - much / 100 * 100) * (fL_hundredths L k)) / 100))))) 4 w114_4) 5) (nx_ix (x := (nI i114)) rfl (by omega))).trans ((congrFun (upr_ne (by decide)) _).trans ((congrFun (up_ne (by decide)) _).trans ((congrFun (up_ne (by decide)) _).trans ((congrFun (up_ne (by decide)) _).trans ((congrFun (up_ne (by decide)) _).trans (congrFun (up_ne (by decide)) _))))))) dL_wins_161 ?_
        refine lv_bipush (v := 64) hx hb dL_wins_162 (by decide) ?_
        refine lv_idiv hx hb dL_wins_164 (by decide) ?_
        refine lv_sipush (v := 128) hx hb dL_wins_165 (by decide) ?_
        refine lv_irem hx hb dL_wins_168 (by decide) ?_
        refine lv_istore (lv' := [(19, .int (((L 5 i114) / 64) - ((L 5 i114) / 64) / 128 * 128)), (18, .int (nI i114)), (17, .int x114_17), (16, .int (L 6 (8 * k))), (15, .int (L 6 (8 * k + 1))), (14, .int (((much / 100) * (fL_hundredths L k)) + (((much - much / 100 * 100) * (fL_hundredths L k)) / 100))), (13, .int (fL_hundredths L k)), (0, .int (nI k)), (1, .int much), (2, .ref (la 0)), (3, .ref (la 1)), (4, .ref (la 2)), (5, .ref (la 3)), (6, .ref (la 4)), (7, .ref (la 5)), (8, .ref (la 6)), (9, .ref (la 7)), (10, .ref (la 8)), (11, .ref (la 9)), (12, .ref (la 11))]) hx hb dL_wins_169 hl (by decide) rfl (fun ls hl => ?_)
        refine lv_iload hx hb dL_wins_171 (lv_at hl 5 rfl) ?_
        refine lv_bipush (v := 100) hx hb dL_wins_173 (by decide) ?_
        refine lv_idiv hx hb dL_wins_175 (by decide) ?_
        refine lv_iload hx hb dL_wins_176 (lv_at hl 0 rfl) ?_
        refine lv_imul hx hb dL_wins_178 ?_
        refine lv_iload hx hb dL_wins_179 (lv_at hl 5 rfl) ?_
        refine lv_bipush (v := 100) hx hb dL_wins_181 (by decide) ?_
        refine lv_irem hx hb dL_wins_183 (by decide) ?_
        refine lv_iload hx hb dL_wins_184 (lv_at hl 0 rfl) ?_
        refine lv_imul hx hb dL_wins_186 ?_
        refine lv_bipush (v := 100) hx hb dL_wins_187 (by decide) ?_
        refine lv_idiv hx hb dL_wins_189 (by decide) ?_
        refine lv_iadd hx hb dL_wins_190 ?_
        refine lv_istore (lv' := [(20, .int ((((((much / 100) * (fL_hundredths L k)) + (((much - much / 100 * 100) * (fL_hundredths L k)) / 100)) / 100) * (((L 5 i114) / 64) - ((L 5 i114) / 64) / 128 * 128)) + ((((((much / 100) * (fL_hundredths L k)) + (((much - much / 100 * 100) * (fL_hundredths L k)) / 100)) - (((much / 100) * (fL_hundredths L k)) + (((much - much / 100 * 100) * (fL_hundredths L k)) / 100)) / 100 * 100) * (((L 5 i114) / 64) - ((L 5 i114) / 64) / 128 * 128)) / 100))), (19, .int (((L 5 i114) / 64) - ((L 5 i114) / 64) / 128 * 128)), (18, .int (nI i114)), (17, .int x114_17), (16, .int (L 6 (8 * k))), (15, .int (L 6 (8 * k + 1))), (14, .int (((much / 100) * (fL_hundredths L k)) + (((much - much / 100 * 100) * (fL_hundredths L k)) / 100))), (13, .int (fL_hundredths L k)), (0, .int (nI k)), (1, .int much), (2, .ref (la 0)), (3, .ref (la 1)), (4, .ref (la 2)), (5, .ref (la 3)), (6, .ref (la 4)), (7, .ref (la 5)), (8, .ref (la 6)), (9, .ref (la 7)), (10, .ref (la 8)), (11, .ref (la 9)), (12, .ref (la 11))]) hx hb dL_wins_191 hl (by decide) rfl (fun ls hl => ?_)
        refine lv_aload hx hb dL_wins_193 (lv_at hl 14 rfl) ?_
        refine lv_bipush (v := 8) hx hb dL_wins_195 (by decide) ?_
        refine lv_aload hx hb dL_wins_197 (lv_at hl 15 rfl) ?_
        refine lv_iload hx hb dL_wins_199 (lv_at hl 2 rfl) ?_
        refine lr_ld hC hI 5 (by decide) (show vp_in (nI i114) 20 from nx_in rfl (by omega) (by decide)) (v := (L 5 i114)) ((congrArg ((upr (up (up (up (up (up L 9 (4 * (ix (L 6 (8 * k + 1)))) ((L 9 (4 * (ix (L 6 (8 * k + 1))))) - much)) 9 (4 * (ix (L 6 (8 * k + 1))) + 2) (((up L 9 (4 * (ix (L 6 (8 * k + 1)))) ((L 9 (4 * (ix (L 6 (8 * k + 1))))) - much)) 9 (4 * (ix (L 6 (8 * k + 1))) + 2)) + much)) 8 k much) 8 (8 + k) (((much / 100) * (fL_hundredths L k)) + (((much - much / 100 * 100) * (fL_hundredths L k)) / 100))) 11 6 ((L 11 6) + (much - (((much / 100) * (fL_hundredths L k)) + (((much - much / 100 * 100) * (fL_hundredths L k)) / 100))))) 4 w114_4) 5) (nx_ix (x := (nI i114)) rfl (by omega))).trans ((congrFun (upr_ne (by decide)) _).trans ((congrFun (up_ne (by decide)) _).trans ((congrFun (up_ne (by decide)) _).trans ((congrFun (up_ne (by decide)) _).trans ((congrFun (up_ne (by decide)) _).trans (congrFun (up_ne (by decide)) _))))))) dL_wins_201 ?_
        refine lv_bipush (v := 8) hx hb dL_wins_202 (by decide) ?_
        refine lv_idiv hx hb dL_wins_204 (by decide) ?_
        refine lv_bipush (v := 8) hx hb dL_wins_205 (by decide) ?_
        refine lv_irem hx hb dL_wins_207 (by decide) ?_
        refine lv_imul hx hb dL_wins_208 ?_
        refine lv_iconst (v := 5) hx hb dL_wins_209 (by decide) ?_
        refine lv_iadd hx hb dL_wins_210 ?_
        refine lv_dup2_11 hx hb dL_wins_211 rfl rfl ?_
        refine lr_ld hC hI 4 (by decide) (show vp_in ((8 * (((L 5 i114) / 8) - ((L 5 i114) / 8) / 8 * 8)) + 5) 40 from nx_in (nx_add (nx_mul (by decide : (8 : Int32) = nI 8) (vp_ixe (hV.d8 i114))) (by decide : (5 : Int32) = nI 5)) (by have h90 := vp_ixl (hV.d8 i114); omega) (by decide)) (v := (w114_4 (8 * (ix (L 5 i114 / 8 - L 5 i114 / 8 / 8 * 8)) + 5))) ((congrArg ((upr (up (up (up (up (up L 9 (4 * (ix (L 6 (8 * k + 1)))) ((L 9 (4 * (ix (L 6 (8 * k + 1))))) - much)) 9 (4 * (ix (L 6 (8 * k + 1))) + 2) (((up L 9 (4 * (ix (L 6 (8 * k + 1)))) ((L 9 (4 * (ix (L 6 (8 * k + 1))))) - much)) 9 (4 * (ix (L 6 (8 * k + 1))) + 2)) + much)) 8 k much) 8 (8 + k) (((much / 100) * (fL_hundredths L k)) + (((much - much / 100 * 100) * (fL_hundredths L k)) / 100))) 11 6 ((L 11 6) + (much - (((much / 100) * (fL_hundredths L k)) + (((much - much / 100 * 100) * (fL_hundredths L k)) / 100))))) 4 w114_4) 4) (nx_ix (x := ((8 * (((L 5 i114) / 8) - ((L 5 i114) / 8) / 8 * 8)) + 5)) (nx_add (nx_mul (by decide : (8 : Int32) = nI 8) (vp_ixe (hV.d8 i114))) (by decide : (5 : Int32) = nI 5)) (by have h90 := vp_ixl (hV.d8 i114); omega))).trans (congrFun (upr_at _ _ _) _)) dL_wins_212 ?_
        refine lv_iload hx hb dL_wins_213 (lv_at hl 0 rfl) ?_
        refine lv_iadd hx hb dL_wins_215 ?_
        refine lr_st hC 4 (by decide) (hL.at 4 (by decide)) hI (show vp_in ((8 * (((L 5 i114) / 8) - ((L 5 i114) / 8) / 8 * 8)) + 5) 40 from nx_in (nx_add (nx_mul (by decide : (8 : Int32) = nI 8) (vp_ixe (hV.d8 i114))) (by decide : (5 : Int32) = nI 5)) (by have h90 := vp_ixl (hV.d8 i114); omega) (by decide)) (n := (8 * (ix (L 5 i114 / 8 - L 5 i114 / 8 / 8 * 8)) + 5)) (nx_ix (x := ((8 * (((L 5 i114) / 8) - ((L 5 i114) / 8) / 8 * 8)) + 5)) (nx_add (nx_mul (by decide : (8 : Int32) = nI 8) (vp_ixe (hV.d8 i114))) (by decide : (5 : Int32) = nI 5)) (by have h90 := vp_ixl (hV.d8 i114); omega)) dL_wins_216 (fun H locs hI => ?_)
        refine lv_iload hx hb dL_wins_217 (lv_at hl 3 rfl) ?_
        refine lv_iload hx hb dL_wins_219 (lv_at hl 0 rfl) ?_
        refine lv_isub hx hb dL_wins_221 ?_
        refine lv_istore (lv' := [(17, .int (x114_17 - ((((((much / 100) * (fL_hundredths L k)) + (((much - much / 100 * 100) * (fL_hundredths L k)) / 100)) / 100) * (((L 5 i114) / 64) - ((L 5 i114) / 64) / 128 * 128)) + ((((((much / 100) * (fL_hundredths L k)) + (((much - much / 100 * 100) * (fL_hundredths L k)) / 100)) - (((much / 100) * (fL_hundredths L k)) + (((much - much / 100 * 100) * (fL_hundredths L k)) / 100)) / 100 * 100) * (((L 5 i114) / 64) - ((L 5 i114) / 64) / 128 * 128)) / 100)))), (20, .int ((((((much / 100) * (fL_hundredths L k)) + (((much - much / 100 * 100) * (fL_hundredths L k)) / 100)) / 100) * (((L 5 i114) / 64) - ((L 5 i114) / 64) / 128 * 128)) + ((((((much / 100) * (fL_hundredths L k)) + (((much - much / 100 * 100) * (fL_hundredths L k)) / 100)) - (((much / 100) * (fL_hundredths L k)) + (((much - much / 100 * 100) * (fL_hundredths L k)) / 100)) / 100 * 100) * (((L 5 i114) / 64) - ((L 5 i114) / 64) / 128 * 128)) / 100))), (19, .int (((L 5 i114) / 64) - ((L 5 i114) / 64) / 128 * 128)), (18, .int (nI i114)), (16, .int (L 6 (8 * k))), (15, .int (L 6 (8 * k + 1))), (14, .int (((much / 100) * (fL_hundredths L k)) + (((much - much / 100 * 100) * (fL_hundredths L k)) / 100))), (13, .int (fL_hundredths L k)), (0, .int (nI k)), (1, .int much), (2, .ref (la 0)), (3, .ref (la 1)), (4, .ref (la 2)), (5, .ref (la 3)), (6, .ref (la 4)), (7, .ref (la 5)), (8, .ref (la 6)), (9, .ref (la 7)), (10, .ref (la 8)), (11, .ref (la 9)), (12, .ref (la 11))]) hx hb dL_wins_222 hl (by decide) rfl (fun ls hl => ?_)
        refine lv_iinc (v := (nI (i114 + 1))) (lv' := [(18, .int (nI (i114 + 1))), (17, .int (x114_17 - ((((((much / 100) * (fL_hundredths L k)) + (((much - much / 100 * 100) * (fL_hundredths L k)) / 100)) / 100) * (((L 5 i114) / 64) - ((L 5 i114) / 64) / 128 * 128)) + ((((((much / 100) * (fL_hundredths L k)) + (((much - much / 100 * 100) * (fL_hundredths L k)) / 100)) - (((much / 100) * (fL_hundredths L k)) + (((much - much / 100 * 100) * (fL_hundredths L k)) / 100)) / 100 * 100) * (((L 5 i114) / 64) - ((L 5 i114) / 64) / 128 * 128)) / 100)))), (20, .int ((((((much / 100) * (fL_hundredths L k)) + (((much - much / 100 * 100) * (fL_hundredths L k)) / 100)) / 100) * (((L 5 i114) / 64) - ((L 5 i114) / 64) / 128 * 128)) + ((((((much / 100) * (fL_hundredths L k)) + (((much - much / 100 * 100) * (fL_hundredths L k)) / 100)) - (((much / 100) * (fL_hundredths L k)) + (((much - much / 100 * 100) * (fL_hundredths L k)) / 100)) / 100 * 100) * (((L 5 i114) / 64) - ((L 5 i114) / 64) / 128 * 128)) / 100))), (19, .int (((L 5 i114) / 64) - ((L 5 i114) / 64) / 128 * 128)), (16, .int (L 6 (8 * k))), (15, .int (L 6 (8 * k + 1))), (14, .int (((much / 100) * (fL_hundredths L k)) + (((much - much / 100 * 100) * (fL_hundredths L k)) / 100))), (13, .int (fL_hundredths L k)), (0, .int (nI k)), (1, .int much), (2, .ref (la 0)), (3, .ref (la 1)), (4, .ref (la 2)), (5, .ref (la 3)), (6, .ref (la 4)), (7, .ref (la 5)), (8, .ref (la 6)), (9, .ref (la 7)), (10, .ref (la 8)), (11, .ref (la 9)), (12, .ref (la 11))]) hx hb dL_wins_224 hl (k := 3) rfl (nI_1 i114) (by decide) rfl (fun ls hl => ?_)
        refine lv_goto (tgt := 114) hx hb dL_wins_227 (by decide) ?_
        exact ih114 ((x114_17 - ((((((much / 100) * (fL_hundredths L k)) + (((much - much / 100 * 100) * (fL_hundredths L k)) / 100)) / 100) * (((L 5 i114) / 64) - ((L 5 i114) / 64) / 128 * 128)) + ((((((much / 100) * (fL_hundredths L k)) + (((much - much / 100 * 100) * (fL_hundredths L k)) / 100)) - (((much / 100) * (fL_hundredths L k)) + (((much - much / 100 * 100) * (fL_hundredths L k)) / 100)) / 100 * 100) * (((L 5 i114) / 64) - ((L 5 i114) / 64) / 128 * 128)) / 100))), (upd w114_4 (8 * (ix (L 5 i114 / 8 - L 5 i114 / 8 / 8 * 8)) + 5) ((w114_4 (8 * (ix (L 5 i114 / 8 - L 5 i114 / 8 / 8 * 8)) + 5)) + ((((((much / 100) * (fL_hundredths L k)) + (((much - much / 100 * 100) * (fL_hundredths L k)) / 100)) / 100) * (((L 5 i114) / 64) - ((L 5 i114) / 64) / 128 * 128)) + ((((((much / 100) * (fL_hundredths L k)) + (((much - much / 100 * 100) * (fL_hundredths L k)) / 100)) - (((much / 100) * (fL_hundredths L k)) + (((much - much / 100 * 100) * (fL_hundredths L k)) / 100)) / 100 * 100) * (((L 5 i114) / 64) - ((L 5 i114) / 64) / 128 * 128)) / 100))))) _ _ ls hlt114 ⟨(by show _ = iL_wins_114 L k much i114 (lL_wins_114 L k much i114).1 (lL_wins_114 L k much i114).2; rw [← hz114]; exact hB114.symm), (LI_eq hI (upr_up _ _ _ _ _)), lv_sub hl [0, 1, 4, 5, 6, 7, 8, 9, 10, 11, 12, 13, 14, 15, 16, 17, 18, 19, 20] rfl⟩
set_option maxHeartbeats 4000000 in
set_option maxRecDepth 100000 in
theorem qL_knows (l : Launch) (D : va_G) (cy : Nat → ClassId) (la : Nat → Nat) (L : St) (hV : LV L) (f : Nat) (hf : f < 3) {x_f : Int32} (ef : x_f = nI f) (t : Nat) (ht : t < 5) {x_t : Int32} (et : x_t = nI t) : LPure l D cy la L yL_knows wsL_knows ({ frames := 0, cells := 0, slots := 0, locals := 0 } : Room) 0 0 [.int x_f, .int x_t, .ref (la 6), .ref (la 10), .ref (la 11)] (fL_knows L f t) := by
  subst ef
  subst et
  refine Met.ofW (cc := cL_knows) (maxL := 7) (ret := (some .int)) (by decide) rfl ?_
  intro p e s m args below meth c s₁ B hml hv
  obtain ⟨rfl, hM, hK⟩ := hv
  have hx := B.exec
  have hb := B.bytes
  have hr := B.returns
  have hts := atoms_spec (ws := wsL_knows) B.pre
  have hown : s.vm.findClass RL = some m.cls := findClass_of_methodNamed B.named
  have hlocks := B.notSynchronized
  have hC : CC p s m _ c cL_knows 7 RL D cy wsL_knows := ⟨⟨hx, hb, hml, hown, hts⟩, hK⟩
  have hI : LI (fun _ => False) 12 D cy la s L s.heap [] := ⟨hM, va_S.rf⟩
  have hb1 := hV.b1
  have hb2 := hV.b2
  have hb3 := hV.b3
  have hb4 := hV.b4
  have hl := lv_entry ([.int (nI f), .int (nI t), .ref (la 6), .ref (la 10), .ref (la 11)]) (n := 7) (Nat.le_of_ble_eq_true rfl)
  rw [lg_entry_eq]
  generalize (lg_sl ([.int (nI f), .int (nI t), .ref (la 6), .ref (la 10), .ref (la 11)]) ++ List.replicate (7 - (lg_sl ([.int (nI f), .int (nI t), .ref (la 6), .ref (la 10), .ref (la 11)])).length) Slot.unset).toArray = ls at hl ⊢
  have hl : lv_has ls 7 [(0, .int (nI f)), (1, .int (nI t)), (2, .ref (la 6)), (3, .ref (la 10)), (4, .ref (la 11))] := hl
  have hG : fL_knows L f t = fL_knows L f t := rfl
  refine lv_aload_n hx hb dL_knows_0 rfl (lv_at hl 3 rfl) ?_
  refine lv_iconst (v := 4) hx hb dL_knows_1 (by decide) ?_
  refine lv_iconst (v := 5) hx hb dL_knows_2 (by decide) ?_
  refine lv_iload_n hx hb dL_knows_3 rfl (lv_at hl 0 rfl) ?_
  refine lv_imul hx hb dL_knows_4 ?_
  refine lv_iload_n hx hb dL_knows_5 rfl (lv_at hl 1 rfl) ?_
  refine lv_iadd hx hb dL_knows_6 ?_
  refine lv_imul hx hb dL_knows_7 ?_
  refine lr_ld hC hI 10 (by decide) (show vp_in (4 * ((5 * (nI f)) + (nI t))) 60 from nx_in (nx_mul (by decide : (4 : Int32) = nI 4) (nx_add (nx_mul (by decide : (5 : Int32) = nI 5) rfl) rfl)) (by omega) (by decide)) (v := (L 10 (4 * (5 * f + t)))) (congrArg (L 10) (nx_ix (x := (4 * ((5 * (nI f)) + (nI t)))) (nx_mul (by decide : (4 : Int32) = nI 4) (nx_add (nx_mul (by decide : (5 : Int32) = nI 5) rfl) rfl)) (by omega))) dL_knows_8 ?_
  have hG : fL_knows L f t = bL_knows_29 L f t (jL_knows_29 L f t) := hG
  refine w_join (σ := Int32) 29 (fun y29_0 H locs ls => jL_knows_29 L f t = y29_0 ∧ LI (fun _ => False) 12 D cy la s L H locs ∧ lv_has ls 7 [(0, .int (nI f)), (1, .int (nI t)), (2, .ref (la 6)), (3, .ref (la 10)), (4, .ref (la 11))]) (fun y29_0 => [.int y29_0]) ?_ (fun J29 => ?_)
  · intro y29_0 H locs ls ⟨hy29_0, hI, hl⟩
    rw [hy29_0] at hG
    refine lv_istore (lv' := [(5, .int y29_0), (0, .int (nI f)), (1, .int (nI t)), (2, .ref (la 6)), (3, .ref (la 10)), (4, .ref (la 11))]) hx hb dL_knows_29 hl (by decide) rfl (fun ls hl => ?_)
    refine lv_iconst (v := 0) hx hb dL_knows_31 (by decide) ?_
    refine lv_istore (lv' := [(6, .int 0), (5, .int y29_0), (0, .int (nI f)), (1, .int (nI t)), (2, .ref (la 6)), (3, .ref (la 10)), (4, .ref (la 11))]) hx hb dL_knows_32 hl (by decide) rfl (fun ls hl => ?_)
    refine w_loop (σ := Int32) (q4 L) 34 (fun i34 z H locs ls => z = lL_knows_34 L f t y29_0 i34 ∧ LI (fun _ => False) 12 D cy la s L H locs ∧ lv_has ls 7 [(6, .int (nI i34)), (5, .int z), (0, .int (nI f)), (1, .int (nI t)), (2, .ref (la 6)), (3, .ref (la 10)), (4, .ref (la 11))]) ?_ y29_0 ⟨rfl, hI, lv_sub hl [0, 1, 2, 3, 4, 5, 6] rfl⟩
    intro i34 z H locs ls ⟨hz34, hI, hl⟩ hi34 ih34
    obtain ⟨x34_5, rfl⟩ : ∃ x, x = z := ⟨_, rfl⟩
    refine lv_iload hx hb dL_knows_34 (lv_at hl 0 rfl) ?_
    refine lv_aload hx hb dL_knows_36 (lv_at hl 6 rfl) ?_
    refine lv_iconst (v := 4) hx hb dL_knows_38 (by decide) ?_
    refine lr_ld hC hI 11 (by decide) (nx_in (by decide : (4 : Int32) = nI 4) (by decide) (by decide)) (v := (L 11 4)) (congrArg (L 11) (by decide : ix 4 = 4)) dL_knows_39 ?_
    refine lv_icmp_ge (tgt := 103) hx hb dL_knows_40 (by decide) (fun c_2 => ?_) (fun c_2 => ?_)
    · obtain rfl : i34 = q4 L := w_exit hV.n4 hi34 (by have := hV.b4; omega) c_2
      obtain rfl : x34_5 = (lL_knows_34 L f t y29_0 (q4 L)) := by rw [← hz34]
      refine lv_iload hx hb dL_knows_103 (lv_at hl 1 rfl) ?_
      exact W.iret (v := (lL_knows_34 L f t y29_0 (q4 L))) hx hb hr (fun t9 ht9 hW9 => ⟨⟨(lL_knows_34 L f t y29_0 (q4 L)), (), rfl, hG.symm, trivial⟩, hI.2.F ht9⟩) hI.2.2.2 dL_knows_105
    · have hlt34 : i34 < q4 L := w_in hV.n4 hi34 (by have := hV.b4; omega) c_2
      have hB34 : iL_knows_34 L f t i34 x34_5 = iL_knows_34 L f t i34 x34_5 := rfl
      refine lv_aload_n hx hb dL_knows_43 rfl (lv_at hl 4 rfl) ?_
      refine lv_bipush (v := 8) hx hb dL_knows_44 (by decide) ?_
      refine lv_iload hx hb dL_knows_46 (lv_at hl 0 rfl) ?_
      refine lv_imul hx hb dL_knows_48 ?_
      refine lr_ld hC hI 6 (by decide) (show vp_in (8 * (nI i34)) 64 from nx_in (nx_mul (by decide : (8 : Int32) = nI 8) rfl) (by omega) (by decide)) (v := (L 6 (8 * i34))) (congrArg (L 6) (nx_ix (x := (8 * (nI i34))) (nx_mul (by decide : (8 : Int32) = nI 8) rfl) (by omega))) dL_knows_49 ?_
      refine lv_iload_n hx hb dL_knows_50 rfl (lv_at hl 3 rfl) ?_
      refine lv_icmp_ne (tgt := 93) hx hb dL_knows_51 (by decide) (fun c_3 => ?_) (fun c_3 => ?_)
      · have hB34 := hB34.trans (if_neg c_3)
        refine lv_iload hx hb dL_knows_93 (lv_at hl 1 rfl) ?_
        refine lv_istore (lv' := [(5, .int x34_5), (6, .int (nI i34)), (0, .int (nI f)), (1, .int (nI t)), (2, .ref (la 6)), (3, .ref (la 10)), (4, .ref (la 11))]) hx hb dL_knows_95 hl (by decide) rfl (fun ls hl => ?_)
        refine lv_iinc (v := (nI (i34 + 1))) (lv' := [(6, .int (nI (i34 + 1))), (5, .int x34_5), (0, .int (nI f)), (1, .int (nI t)), (2, .ref (la 6)), (3, .ref (la 10)), (4, .ref (la 11))]) hx hb dL_knows_97 hl (k := 1) rfl (nI_1 i34) (by decide) rfl (fun ls hl => ?_)
        refine lv_goto (tgt := 34) hx hb dL_knows_100 (by decide) ?_
        exact ih34 x34_5 _ _ ls hlt34 ⟨(by show _ = iL_knows_34 L f t i34 (lL_knows_34 L f t y29_0 i34); rw [← hz34]; exact hB34.symm), hI, lv_sub hl [0, 1, 2, 3, 4, 5, 6] rfl⟩
      · have hB34 := hB34.trans (if_pos c_3)
        refine lv_aload_n hx hb dL_knows_54 rfl (lv_at hl 4 rfl) ?_
        refine lv_bipush (v := 8) hx hb dL_knows_55 (by decide) ?_
        refine lv_iload hx hb dL_knows_57 (lv_at hl 0 rfl) ?_
        refine lv_imul hx hb dL_knows_59 ?_
        refine lv_iconst (v := 1) hx hb dL_knows_60 (by decide) ?_
        refine lv_iadd hx hb dL_knows_61 ?_
        refine lr_ld hC hI 6 (by decide) (show vp_in ((8 * (nI i34)) + 1) 64 from nx_in (nx_add (nx_mul (by decide : (8 : Int32) = nI 8) rfl) (by decide : (1 : Int32) = nI 1)) (by omega) (by decide)) (v := (L 6 (8 * i34 + 1))) (congrArg (L 6) (nx_ix (x := ((8 * (nI i34)) + 1)) (nx_add (nx_mul (by decide : (8 : Int32) = nI 8) rfl) (by decide : (1 : Int32) = nI 1)) (by omega))) dL_knows_62 ?_
        refine lv_iload_n hx hb dL_knows_63 rfl (lv_at hl 2 rfl) ?_
        refine lv_icmp_ne (tgt := 93) hx hb dL_knows_64 (by decide) (fun c_4 => ?_) (fun c_4 => ?_)
        · have hB34 := hB34.trans (if_neg c_4)
          refine lv_iload hx hb dL_knows_93 (lv_at hl 1 rfl) ?_
          refine lv_istore (lv' := [(5, .int x34_5), (6, .int (nI i34)), (0, .int (nI f)), (1, .int (nI t)), (2, .ref (la 6)), (3, .ref (la 10)), (4, .ref (la 11))]) hx hb dL_knows_95 hl (by decide) rfl (fun ls hl => ?_)
          refine lv_iinc (v := (nI (i34 + 1))) (lv' := [(6, .int (nI (i34 + 1))), (5, .int x34_5), (0, .int (nI f)), (1, .int (nI t)), (2, .ref (la 6)), (3, .ref (la 10)), (4, .ref (la 11))]) hx hb dL_knows_97 hl (k := 1) rfl (nI_1 i34) (by decide) rfl (fun ls hl => ?_)
          refine lv_goto (tgt := 34) hx hb dL_knows_100 (by decide) ?_
          exact ih34 x34_5 _ _ ls hlt34 ⟨(by show _ = iL_knows_34 L f t i34 (lL_knows_34 L f t y29_0 i34); rw [← hz34]; exact hB34.symm), hI, lv_sub hl [0, 1, 2, 3, 4, 5, 6] rfl⟩
        · have hB34 := hB34.trans (if_pos c_4)
          refine lv_aload_n hx hb dL_knows_67 rfl (lv_at hl 4 rfl) ?_
          refine lv_bipush (v := 8) hx hb dL_knows_68 (by decide) ?_
          refine lv_iload hx hb dL_knows_70 (lv_at hl 0 rfl) ?_
          refine lv_imul hx hb dL_knows_72 ?_
          refine lv_iconst (v := 4) hx hb dL_knows_73 (by decide) ?_
          refine lv_iadd hx hb dL_knows_74 ?_
          refine lr_ld hC hI 6 (by decide) (show vp_in ((8 * (nI i34)) + 4) 64 from nx_in (nx_add (nx_mul (by decide : (8 : Int32) = nI 8) rfl) (by decide : (4 : Int32) = nI 4)) (by omega) (by decide)) (v := (L 6 (8 * i34 + 4))) (congrArg (L 6) (nx_ix (x := ((8 * (nI i34)) + 4)) (nx_add (nx_mul (by decide : (8 : Int32) = nI 8) rfl) (by decide : (4 : Int32) = nI 4)) (by omega))) dL_knows_75 ?_
          refine lv_iload hx hb dL_knows_76 (lv_at hl 1 rfl) ?_
          refine lv_icmp_ge (tgt := 93) hx hb dL_knows_78 (by decide) (fun c_5 => ?_) (fun c_5 => ?_)
          · have hB34 := hB34.trans (if_pos c_5)
            refine lv_iload hx hb dL_knows_93 (lv_at hl 1 rfl) ?_
            refine lv_istore (lv' := [(5, .int x34_5), (6, .int (nI i34)), (0, .int (nI f)), (1, .int (nI t)), (2, .ref (la 6)), (3, .ref (la 10)), (4, .ref (la 11))]) hx hb dL_knows_95 hl (by decide) rfl (fun ls hl => ?_)
            refine lv_iinc (v := (nI (i34 + 1))) (lv' := [(6, .int (nI (i34 + 1))), (5, .int x34_5), (0, .int (nI f)), (1, .int (nI t)), (2, .ref (la 6)), (3, .ref (la 10)), (4, .ref (la 11))]) hx hb dL_knows_97 hl (k := 1) rfl (nI_1 i34) (by decide) rfl (fun ls hl => ?_)
            refine lv_goto (tgt := 34) hx hb dL_knows_100 (by decide) ?_
            exact ih34 x34_5 _ _ ls hlt34 ⟨(by show _ = iL_knows_34 L f t i34 (lL_knows_34 L f t y29_0 i34); rw [← hz34]; exact hB34.symm), hI, lv_sub hl [0, 1, 2, 3, 4, 5, 6] rfl⟩
          · have hB34 := hB34.trans (if_neg c_5)
            refine lv_aload_n hx hb dL_knows_81 rfl (lv_at hl 4 rfl) ?_
            refine lv_bipush (v := 8) hx hb dL_knows_82 (by decide) ?_
            refine lv_iload hx hb dL_knows_84 (lv_at hl 0 rfl) ?_
            refine lv_imul hx hb dL_knows_86 ?_
            refine lv_iconst (v := 4) hx hb dL_knows_87 (by decide) ?_
            refine lv_iadd hx hb dL_knows_88 ?_
            refine lr_ld hC hI 6 (by decide) (show vp_in ((8 * (nI i34)) + 4) 64 from nx_in (nx_add (nx_mul (by decide : (8 : Int32) = nI 8) rfl) (by decide : (4 : Int32) = nI 4)) (by omega) (by decide)) (v := (L 6 (8 * i34 + 4))) (congrArg (L 6) (nx_ix (x := ((8 * (nI i34)) + 4)) (nx_add (nx_mul (by decide : (8 : Int32) = nI 8) rfl) (by decide : (4 : Int32) = nI 4)) (by omega))) dL_knows_89 ?_
            refine lv_goto (tgt := 95) hx hb dL_knows_90 (by decide) ?_
            refine lv_istore (lv' := [(5, .int (L 6 (8 * i34 + 4))), (6, .int (nI i34)), (0, .int (nI f)), (1, .int (nI t)), (2, .ref (la 6)), (3, .ref (la 10)), (4, .ref (la 11))]) hx hb dL_knows_95 hl (by decide) rfl (fun ls hl => ?_)
            refine lv_iinc (v := (nI (i34 + 1))) (lv' := [(6, .int (nI (i34 + 1))), (5, .int (L 6 (8 * i34 + 4))), (0, .int (nI f)), (1, .int (nI t)), (2, .ref (la 6)), (3, .ref (la 10)), (4, .ref (la 11))]) hx hb dL_knows_97 hl (k := 1) rfl (nI_1 i34) (by decide) rfl (fun ls hl => ?_)
            refine lv_goto (tgt := 34) hx hb dL_knows_100 (by decide) ?_
            exact ih34 (L 6 (8 * i34 + 4)) _ _ ls hlt34 ⟨(by show _ = iL_knows_34 L f t i34 (lL_knows_34 L f t y29_0 i34); rw [← hz34]; exact hB34.symm), hI, lv_sub hl [0, 1, 2, 3, 4, 5, 6] rfl⟩
  · have hB29 : jL_knows_29 L f t = jL_knows_29 L f t := rfl
    refine lv_if_le (tgt := 26) hx hb dL_knows_9 (by decide) (fun c_1 => ?_) (fun c_1 => ?_)
    · have hB29 := hB29.trans (if_pos c_1)
      refine lv_sipush (v := 9999) hx hb dL_knows_26 (by decide) ?_
      exact J29 9999 _ _ ls ⟨hB29, hI, lv_sub hl [0, 1, 2, 3, 4] rfl⟩
    · have hB29 := hB29.trans (if_neg c_1)
      refine lv_aload_n hx hb dL_knows_12 rfl (lv_at hl 3 rfl) ?_
      refine lv_iconst (v := 4) hx hb dL_knows_13 (by decide) ?_
      refine lv_iconst (v := 5) hx hb dL_knows_14 (by decide) ?_
      refine lv_iload_n hx hb dL_knows_15 rfl (lv_at hl 0 rfl) ?_
      refine lv_imul hx hb dL_knows_16 ?_
      refine lv_iload_n hx hb dL_knows_17 rfl (lv_at hl 1 rfl) ?_
      refine lv_iadd hx hb dL_knows_18 ?_
      refine lv_imul hx hb dL_knows_19 ?_
      refine lr_ld hC hI 10 (by decide) (show vp_in (4 * ((5 * (nI f)) + (nI t))) 60 from nx_in (nx_mul (by decide : (4 : Int32) = nI 4) (nx_add (nx_mul (by decide : (5 : Int32) = nI 5) rfl) rfl)) (by omega) (by decide)) (v := (L 10 (4 * (5 * f + t)))) (congrArg (L 10) (nx_ix (x := (4 * ((5 * (nI f)) + (nI t)))) (nx_mul (by decide : (4 : Int32) = nI 4) (nx_add (nx_mul (by decide : (5 : Int32) = nI 5) rfl) rfl)) (by omega))) dL_knows_20 ?_
      refine lv_iconst (v := 1) hx hb dL_knows_21 (by decide) ?_
      refine lv_isub hx hb dL_knows_22 ?_
      refine lv_goto (tgt := 29) hx hb dL_knows_23 (by decide) ?_
      exact J29 ((L 10 (4 * (5 * f + t))) - 1) _ _ ls ⟨hB29, hI, lv_sub hl [0, 1, 2, 3, 4] rfl⟩
