/-! walked: wages -/
set_option maxHeartbeats 8000000 in
set_option maxRecDepth 100000 in
theorem qL_wages (l : Launch) (hfl : l.stackTraces = false) (A B : Nat → Prop) (D : va_G) (cy : Nat → ClassId) (g : CWt) (S : St) (e0 mi n0 x0 : Nat) (la : Nat → Nat) (hK : XK A B e0 n0 x0 la g S) (L : St) (hV : LV L) (act : Int32) (zv : Int32) (f : Nat) (hf : f < 3) (t : Nat) (ht : t < 5) (hfz : fL_low zv 3 = nI f) (htz : fL_low (zv >>> ((2 : Int32) &&& 31)) 5 = nI t) (hem : vp_in (L 4 (8 * t + 2)) 4) (hOK : XOK S (fL_wages L act zv f t).2.1 (fL_wages L act zv f t).2.2) : Met l yL_wages wsL_wages ({ frames := 10, cells := 8, slots := 342, locals := 265 } : Room) (va_Pc [.ref x0, .int act, .int zv, .ref (la 4), .ref (la 6), .ref (la 9), .ref (la 10), .ref (la 11)] (XW A B D cy g S e0 mi n0 la L)) (va_Qi (fun (r : Int32) (g1 : CWt) => r = 1 ∧ XK A B e0 n0 x0 la g1 (XS S (fL_wages L act zv f t).2.1)) (fun g1 t9 => CH D cy g1 (XS S (fL_wages L act zv f t).2.1) t9.heap ∧ LH 12 D cy la (fL_wages L act zv f t).1 t9.heap) (AB A B)) 8 342 (AB A B) := by
  refine Met.ofW (cc := cL_wages) (maxL := 14) (ret := (some .boolean)) (by decide) rfl ?_
  intro p e s m args below meth c s₁ B9 hml hv
  obtain ⟨rfl, hM, hLH, hKK, hJ, hX, hO, hn0⟩ := hv
  have hx := B9.exec
  have hb := B9.bytes
  have hr := B9.returns
  have hts := atoms_spec (ws := wsL_wages) B9.pre
  have hown : s.vm.findClass RL = some m.cls := findClass_of_methodNamed B9.named
  have hlocks := B9.notSynchronized
  have hC : XC p l s m _ c cL_wages 14 A B D cy e0 mi wsL_wages := ⟨⟨⟨hx, hb, hml, hown, hts⟩, hKK⟩, hfl, hJ, hX, hO⟩
  have hI : XI A B D cy g n0 la s S L s.heap [] := ⟨hM, hLH, va_S.rf, hn0⟩
  have hb1 := hV.b1
  have hb2 := hV.b2
  have hb3 := hV.b3
  have hb4 := hV.b4
  have hl := lv_entry ([.ref x0, .int act, .int zv, .ref (la 4), .ref (la 6), .ref (la 9), .ref (la 10), .ref (la 11)]) (n := 14) (Nat.le_of_ble_eq_true rfl)
  rw [lg_entry_eq]
  generalize (lg_sl ([.ref x0, .int act, .int zv, .ref (la 4), .ref (la 6), .ref (la 9), .ref (la 10), .ref (la 11)]) ++ List.replicate (14 - (lg_sl ([.ref x0, .int act, .int zv, .ref (la 4), .ref (la 6), .ref (la 9), .ref (la 10), .ref (la 11)])).length) Slot.unset).toArray = ls at hl ⊢
  have hl : lv_has ls 14 [(0, .ref x0), (1, .int act), (2, .int zv), (3, .ref (la 4)), (4, .ref (la 6)), (5, .ref (la 9)), (6, .ref (la 10)), (7, .ref (la 11))] := hl
  have hG : fL_wages L act zv f t = fL_wages L act zv f t := rfl
  refine lv_iload_n hx hb dL_wages_0 rfl (lv_at hl 2 rfl) ?_
  refine lv_iconst (v := 3) hx hb dL_wages_1 (by decide) ?_
  refine xr_callS (As := [.int zv, .int 3]) (rest := []) hC hI (qL_low l zv 3 (by decide)) (va_cwS 2 hts gL_wages_L_low rfl rfl rfl (by decide +kernel) ⟨Nat.le_of_ble_eq_true rfl, Nat.le_of_ble_eq_true rfl⟩) rfl hl.1 rfl (Nat.le_of_ble_eq_true rfl) dL_wages_2 ⟨Nat.le_of_ble_eq_true rfl, Nat.le_of_ble_eq_true rfl⟩ (fun H locs hI => ?_)
  rw [hfz]
  refine lv_istore (lv' := [(8, .int (nI f)), (0, .ref x0), (1, .int act), (2, .int zv), (3, .ref (la 4)), (4, .ref (la 6)), (5, .ref (la 9)), (6, .ref (la 10)), (7, .ref (la 11))]) hx hb dL_wages_5 hl (by decide) rfl (fun ls hl => ?_)
  refine lv_iload_n hx hb dL_wages_7 rfl (lv_at hl 3 rfl) ?_
  refine lv_iconst (v := 2) hx hb dL_wages_8 (by decide) ?_
  refine lv_ishr hx hb dL_wages_9 ?_
  refine lv_iconst (v := 5) hx hb dL_wages_10 (by decide) ?_
  refine xr_callS (As := [.int (zv >>> ((2 : Int32) &&& 31)), .int 5]) (rest := []) hC hI (qL_low l (zv >>> ((2 : Int32) &&& 31)) 5 (by decide)) (va_cwS 2 hts gL_wages_L_low rfl rfl rfl (by decide +kernel) ⟨Nat.le_of_ble_eq_true rfl, Nat.le_of_ble_eq_true rfl⟩) rfl hl.1 rfl (Nat.le_of_ble_eq_true rfl) dL_wages_11 ⟨Nat.le_of_ble_eq_true rfl, Nat.le_of_ble_eq_true rfl⟩ (fun H locs hI => ?_)
  rw [htz]
  refine lv_istore (lv' := [(9, .int (nI t)), (8, .int (nI f)), (0, .ref x0), (1, .int act), (2, .int zv), (3, .ref (la 4)), (4, .ref (la 6)), (5, .ref (la 9)), (6, .ref (la 10)), (7, .ref (la 11))]) hx hb dL_wages_14 hl (by decide) rfl (fun ls hl => ?_)
  refine lv_iconst (v := 4) hx hb dL_wages_16 (by decide) ?_
  refine lv_iconst (v := 5) hx hb dL_wages_17 (by decide) ?_
  refine lv_iload hx hb dL_wages_18 (lv_at hl 1 rfl) ?_
  refine lv_imul hx hb dL_wages_20 ?_
  refine lv_iload hx hb dL_wages_21 (lv_at hl 0 rfl) ?_
  refine lv_iadd hx hb dL_wages_23 ?_
  refine lv_imul hx hb dL_wages_24 ?_
  refine lv_istore (lv' := [(10, .int (4 * ((5 * (nI f)) + (nI t)))), (9, .int (nI t)), (8, .int (nI f)), (0, .ref x0), (1, .int act), (2, .int zv), (3, .ref (la 4)), (4, .ref (la 6)), (5, .ref (la 9)), (6, .ref (la 10)), (7, .ref (la 11))]) hx hb dL_wages_25 hl (by decide) rfl (fun ls hl => ?_)
  refine lv_iload_n hx hb dL_wages_27 rfl (lv_at hl 4 rfl) ?_
  refine lv_if_ne (tgt := 103) hx hb dL_wages_28 (by decide) (fun c_1 => ?_) (fun c_1 => ?_)
  · have hG := hG.trans (if_neg c_1)
    refine lv_iload_n hx hb dL_wages_103 rfl (lv_at hl 4 rfl) ?_
    refine lv_iconst (v := 1) hx hb dL_wages_104 (by decide) ?_
    refine lv_icmp_ne (tgt := 165) hx hb dL_wages_105 (by decide) (fun c_2 => ?_) (fun c_2 => ?_)
    · have hG := hG.trans (if_neg c_2)
      refine lv_iload_n hx hb dL_wages_165 rfl (lv_at hl 4 rfl) ?_
      refine lv_iconst (v := 2) hx hb dL_wages_166 (by decide) ?_
      refine lv_icmp_ne (tgt := 382) hx hb dL_wages_167 (by decide) (fun c_3 => ?_) (fun c_3 => ?_)
      · have hG := hG.trans (if_neg c_3)
        refine lv_aload hx hb dL_wages_382 (lv_at hl 9 rfl) ?_
        refine lv_iload hx hb dL_wages_384 (lv_at hl 0 rfl) ?_
        refine lv_iconst (v := 3) hx hb dL_wages_386 (by decide) ?_
        refine lv_iadd hx hb dL_wages_387 ?_
        refine xr_ld hC hI 10 (by decide) (show vp_in ((4 * ((5 * (nI f)) + (nI t))) + 3) 60 from nx_in (nx_add (nx_mul (by decide : (4 : Int32) = nI 4) (nx_add (nx_mul (by decide : (5 : Int32) = nI 5) rfl) rfl)) (by decide : (3 : Int32) = nI 3)) (by omega) (by decide)) (v := (L 10 (4 * (5 * f + t) + 3))) (congrArg (L 10) (nx_ix (x := ((4 * ((5 * (nI f)) + (nI t))) + 3)) (nx_add (nx_mul (by decide : (4 : Int32) = nI 4) (nx_add (nx_mul (by decide : (5 : Int32) = nI 5) rfl) rfl)) (by decide : (3 : Int32) = nI 3)) (by omega))) dL_wages_388 ?_
        refine lv_iconst (v := 1) hx hb dL_wages_389 (by decide) ?_
        refine lv_icmp_ne (tgt := 397) hx hb dL_wages_390 (by decide) (fun c_4 => ?_) (fun c_4 => ?_)
        · have hG := hG.trans (if_neg c_4)
          refine lv_iconst (v := 0) hx hb dL_wages_397 (by decide) ?_
          refine lv_istore (lv' := [(11, .int 0), (10, .int (4 * ((5 * (nI f)) + (nI t)))), (9, .int (nI t)), (8, .int (nI f)), (0, .ref x0), (1, .int act), (2, .int zv), (3, .ref (la 4)), (4, .ref (la 6)), (5, .ref (la 9)), (6, .ref (la 10)), (7, .ref (la 11))]) hx hb dL_wages_398 hl (by decide) rfl (fun ls hl => ?_)
          refine lv_aload hx hb dL_wages_400 (lv_at hl 11 rfl) ?_
          refine lv_iconst (v := 0) hx hb dL_wages_402 (by decide) ?_
          refine xr_ld hC hI 11 (by decide) (nx_in (by decide : (0 : Int32) = nI 0) (by decide) (by decide)) (v := (L 11 0)) (congrArg (L 11) (by decide : ix 0 = 0)) dL_wages_403 ?_
          refine lv_aload hx hb dL_wages_404 (lv_at hl 10 rfl) ?_
          refine lv_iload hx hb dL_wages_406 (lv_at hl 1 rfl) ?_
          refine lv_iconst (v := 1) hx hb dL_wages_408 (by decide) ?_
          refine lv_iadd hx hb dL_wages_409 ?_
          refine xr_ld hC hI 10 (by decide) (show vp_in ((4 * ((5 * (nI f)) + (nI t))) + 1) 60 from nx_in (nx_add (nx_mul (by decide : (4 : Int32) = nI 4) (nx_add (nx_mul (by decide : (5 : Int32) = nI 5) rfl) rfl)) (by decide : (1 : Int32) = nI 1)) (by omega) (by decide)) (v := (L 10 (4 * (5 * f + t) + 1))) (congrArg (L 10) (nx_ix (x := ((4 * ((5 * (nI f)) + (nI t))) + 1)) (nx_add (nx_mul (by decide : (4 : Int32) = nI 4) (nx_add (nx_mul (by decide : (5 : Int32) = nI 5) rfl) rfl)) (by decide : (1 : Int32) = nI 1)) (by omega))) dL_wages_410 ?_
          refine lv_isub hx hb dL_wages_411 ?_
          refine lv_istore (lv' := [(12, .int ((L 11 0) - (L 10 (4 * (5 * f + t) + 1)))), (11, .int 0), (10, .int (4 * ((5 * (nI f)) + (nI t)))), (9, .int (nI t)), (8, .int (nI f)), (0, .ref x0), (1, .int act), (2, .int zv), (3, .ref (la 4)), (4, .ref (la 6)), (5, .ref (la 9)), (6, .ref (la 10)), (7, .ref (la 11))]) hx hb dL_wages_412 hl (by decide) rfl (fun ls hl => ?_)
          refine lv_iconst (v := 2) hx hb dL_wages_414 (by decide) ?_
          refine lv_aload hx hb dL_wages_415 (lv_at hl 11 rfl) ?_
          refine lv_iload hx hb dL_wages_417 (lv_at hl 2 rfl) ?_
          refine lv_iconst (v := 2) hx hb dL_wages_419 (by decide) ?_
          refine lv_iadd hx hb dL_wages_420 ?_
          refine xr_ld hC hI 10 (by decide) (show vp_in ((4 * ((5 * (nI f)) + (nI t))) + 2) 60 from nx_in (nx_add (nx_mul (by decide : (4 : Int32) = nI 4) (nx_add (nx_mul (by decide : (5 : Int32) = nI 5) rfl) rfl)) (by decide : (2 : Int32) = nI 2)) (by omega) (by decide)) (v := (L 10 (4 * (5 * f + t) + 2))) (congrArg (L 10) (nx_ix (x := ((4 * ((5 * (nI f)) + (nI t))) + 2)) (nx_add (nx_mul (by decide : (4 : Int32) = nI 4) (nx_add (nx_mul (by decide : (5 : Int32) = nI 5) rfl) rfl)) (by decide : (2 : Int32) = nI 2)) (by omega))) dL_wages_421 ?_
          refine lv_imul hx hb dL_wages_422 ?_
          refine lv_iload hx hb dL_wages_423 (lv_at hl 0 rfl) ?_
          refine lv_sipush (v := 400) hx hb dL_wages_425 (by decide) ?_
          have hG : fL_wages L act zv f t = bL_wages_439 L f t (jL_wages_439 L f t) := hG
          refine w_join (σ := Int32) 439 (fun y439_0 H locs ls => jL_wages_439 L f t = y439_0 ∧ XI A B D cy g n0 la s S L H locs ∧ lv_has ls 14 [(12, .int ((L 11 0) - (L 10 (4 * (5 * f + t) + 1)))), (11, .int 0), (10, .int (4 * ((5 * (nI f)) + (nI t)))), (9, .int (nI t)), (8, .int (nI f)), (0, .ref x0), (1, .int act), (2, .int zv), (3, .ref (la 4)), (4, .ref (la 6)), (5, .ref (la 9)), (6, .ref (la 10)), (7, .ref (la 11))]) (fun y439_0 => [.int y439_0, .int (2 * (L 10 (4 * (5 * f + t) + 2)))]) ?_ (fun J439 => ?_)
          · intro y439_0 H locs ls ⟨hy439_0, hI, hl⟩
            rw [hy439_0] at hG
            refine lv_imul hx hb dL_wages_439 ?_
            refine lv_istore (lv' := [(13, .int ((2 * (L 10 (4 * (5 * f + t) + 2))) * y439_0)), (12, .int ((L 11 0) - (L 10 (4 * (5 * f + t) + 1)))), (11, .int 0), (10, .int (4 * ((5 * (nI f)) + (nI t)))), (9, .int (nI t)), (8, .int (nI f)), (0, .ref x0), (1, .int act), (2, .int zv), (3, .ref (la 4)), (4, .ref (la 6)), (5, .ref (la 9)), (6, .ref (la 10)), (7, .ref (la 11))]) hx hb dL_wages_440 hl (by decide) rfl (fun ls hl => ?_)
            refine lv_iload hx hb dL_wages_442 (lv_at hl 0 rfl) ?_
            refine lv_aload hx hb dL_wages_444 (lv_at hl 11 rfl) ?_
            refine lv_iconst (v := 4) hx hb dL_wages_446 (by decide) ?_
            refine lv_iload hx hb dL_wages_447 (lv_at hl 5 rfl) ?_
            refine lv_imul hx hb dL_wages_449 ?_
            refine xr_ld hC hI 9 (by decide) (show vp_in (4 * (nI f)) 12 from nx_in (nx_mul (by decide : (4 : Int32) = nI 4) rfl) (by omega) (by decide)) (v := (L 9 (4 * f))) (congrArg (L 9) (nx_ix (x := (4 * (nI f))) (nx_mul (by decide : (4 : Int32) = nI 4) rfl) (by omega))) dL_wages_450 ?_
            have hG : fL_wages L act zv f t = bL_wages_466 L f t (jL_wages_466 L f t y439_0) := hG
            refine w_join (σ := Int32) 466 (fun y466_0 H locs ls => jL_wages_466 L f t y439_0 = y466_0 ∧ XI A B D cy g n0 la s S L H locs ∧ lv_has ls 14 [(13, .int ((2 * (L 10 (4 * (5 * f + t) + 2))) * y439_0)), (12, .int ((L 11 0) - (L 10 (4 * (5 * f + t) + 1)))), (11, .int 0), (10, .int (4 * ((5 * (nI f)) + (nI t)))), (9, .int (nI t)), (8, .int (nI f)), (0, .ref x0), (1, .int act), (2, .int zv), (3, .ref (la 4)), (4, .ref (la 6)), (5, .ref (la 9)), (6, .ref (la 10)), (7, .ref (la 11))]) (fun y466_0 => [.int y466_0]) ?_ (fun J466 => ?_)
            · intro y466_0 H locs ls ⟨hy466_0, hI, hl⟩
              rw [hy466_0] at hG
              refine lv_istore (lv' := [(13, .int y466_0), (12, .int ((L 11 0) - (L 10 (4 * (5 * f + t) + 1)))), (11, .int 0), (10, .int (4 * ((5 * (nI f)) + (nI t)))), (9, .int (nI t)), (8, .int (nI f)), (0, .ref x0), (1, .int act), (2, .int zv), (3, .ref (la 4)), (4, .ref (la 6)), (5, .ref (la 9)), (6, .ref (la 10)), (7, .ref (la 11))]) hx hb dL_wages_466 hl (by decide) rfl (fun ls hl => ?_)
              refine lv_iload hx hb dL_wages_468 (lv_at hl 2 rfl) ?_
              refine lv_if_eq (tgt := 522) hx hb dL_wages_470 (by decide) (fun _ => ?_) (fun c => absurd (by decide : (0 : Int32) = 0) c)
              refine lv_aload_n hx hb dL_wages_522 rfl (lv_at hl 6 rfl) ?_
              refine lv_bipush (v := 11) hx hb dL_wages_523 (by decide) ?_
              refine lv_iload hx hb dL_wages_525 (lv_at hl 5 rfl) ?_
              refine lv_iload hx hb dL_wages_527 (lv_at hl 4 rfl) ?_
              refine lv_iconst (v := 0) hx hb dL_wages_529 (by decide) ?_
              have hok : ((xq7 S 11 (nI f) (nI t) 0).2.1 = 0 ∨ (xq7 S 11 (nI f) (nI t) 0).2.1 = 3) ∧ (if (xq7 S 11 (nI f) (nI t) 0).2.1 = 0 then (xq7 S 11 (nI f) (nI t) 0).1 else -1003) = (-1003) := XOK.c (by have h9 := hOK; rw [hG] at h9; exact h9) (by decide)
              refine xr_cs (As := [.ref x0, .int 11, .int (nI f), .int (nI t), .int 0]) (rest := []) 11 (nI f) (nI t) 0 hC hK hI (qC_award l hC.2.1 A D cy g hK.1 S e0 mi n0 hK.2.2.2.1 hK.v hK.i x0 hK.2.2.2.2.2.2.2 (nI f) (nI t) 0 hok.1) (vx_cwSW 5 hts gL_wages_L_calls rfl rfl rfl (by decide +kernel) ⟨Nat.le_of_ble_eq_true rfl, Nat.le_of_ble_eq_true rfl⟩) rfl hl.1 rfl (Nat.le_of_ble_eq_true rfl) dL_wages_530 ⟨Nat.le_of_ble_eq_true rfl, Nat.le_of_ble_eq_true rfl⟩ (fun g H locs hK hI => ?_)
              refine lv_iload hx hb dL_wages_533 (lv_at hl 2 rfl) ?_
              refine lv_if_eq (tgt := 543) hx hb dL_wages_535 (by decide) (fun _ => ?_) (fun c => absurd (by decide : (0 : Int32) = 0) c)
              refine lv_sipush (v := (-1003)) hx hb dL_wages_543 (by decide) ?_
              refine lv_icmp_ne (tgt := 553) hx hb dL_wages_546 (by decide) (fun c9 => absurd hok.2 c9) (fun _ => ?_)
              refine lv_iconst (v := 1) hx hb dL_wages_549 (by decide) ?_
              refine lv_goto (tgt := 554) hx hb dL_wages_550 (by decide) ?_
              refine W.widen (k := 8) (n := 342) (Nat.le_of_ble_eq_true rfl) (Nat.le_of_ble_eq_true rfl) ?_
              exact W.zret (v := 1) (ty := .boolean) hx hb hr rfl (fun t9 ht9 hW9 => ⟨⟨1, g, rfl, ⟨rfl, by rw [hG]; exact hK⟩, ⟨by rw [hG, ht9]; exact hI.1, by rw [hG, ht9]; exact hI.2.1⟩⟩, hI.2.2.1.F ht9⟩) hI.2.2.1.2.2 dL_wages_554
            · have hB466 : jL_wages_466 L f t y439_0 = jL_wages_466 L f t y439_0 := rfl
              refine lv_icmp_ge (tgt := 459) hx hb dL_wages_451 (by decide) (fun c_6 => ?_) (fun c_6 => ?_)
              · have hB466 := hB466.trans (if_pos c_6)
                refine lv_aload hx hb dL_wages_459 (lv_at hl 11 rfl) ?_
                refine lv_iconst (v := 4) hx hb dL_wages_461 (by decide) ?_
                refine lv_iload hx hb dL_wages_462 (lv_at hl 5 rfl) ?_
                refine lv_imul hx hb dL_wages_464 ?_
                refine xr_ld hC hI 9 (by decide) (show vp_in (4 * (nI f)) 12 from nx_in (nx_mul (by decide : (4 : Int32) = nI 4) rfl) (by omega) (by decide)) (v := (L 9 (4 * f))) (congrArg (L 9) (nx_ix (x := (4 * (nI f))) (nx_mul (by decide : (4 : Int32) = nI 4) rfl) (by omega))) dL_wages_465 ?_
                exact J466 (L 9 (4 * f)) _ _ ls ⟨hB466, hI, lv_sub hl [0, 1, 2, 3, 4, 5, 6, 7, 8, 9, 10, 11, 12, 13] rfl⟩
              · have hB466 := hB466.trans (if_neg c_6)
                refine lv_iload hx hb dL_wages_454 (lv_at hl 0 rfl) ?_
                refine lv_goto (tgt := 466) hx hb dL_wages_456 (by decide) ?_
                exact J466 ((2 * (L 10 (4 * (5 * f + t) + 2))) * y439_0) _ _ ls ⟨hB466, hI, lv_sub hl [0, 1, 2, 3, 4, 5, 6, 7, 8, 9, 10, 11, 12, 13] rfl⟩
          · have hB439 : jL_wages_439 L f t = jL_wages_439 L f t := rfl
            refine lv_icmp_ge (tgt := 436) hx hb dL_wages_428 (by decide) (fun c_5 => ?_) (fun c_5 => ?_)
            · have hB439 := hB439.trans (if_pos c_5)
              refine lv_sipush (v := 400) hx hb dL_wages_436 (by decide) ?_
              exact J439 400 _ _ ls ⟨hB439, hI, lv_sub hl [0, 1, 2, 3, 4, 5, 6, 7, 8, 9, 10, 11, 12] rfl⟩
            · have hB439 := hB439.trans (if_neg c_5)
              refine lv_iload hx hb dL_wages_431 (lv_at hl 0 rfl) ?_
              refine lv_goto (tgt := 439) hx hb dL_wages_433 (by decide) ?_
              exact J439 ((L 11 0) - (L 10 (4 * (5 * f + t) + 1))) _ _ ls ⟨hB439, hI, lv_sub hl [0, 1, 2, 3, 4, 5, 6, 7, 8, 9, 10, 11, 12] rfl⟩
        · have hG := hG.trans (if_pos c_4)
          refine lv_iconst (v := 1) hx hb dL_wages_393 (by decide) ?_
          refine lv_goto (tgt := 398) hx hb dL_wages_394 (by decide) ?_
          refine lv_istore (lv' := [(11, .int 1), (10, .int (4 * ((5 * (nI f)) + (nI t)))), (9, .int (nI t)), (8, .int (nI f)), (0, .ref x0), (1, .int act), (2, .int zv), (3, .ref (la 4)), (4, .ref (la 6)), (5, .ref (la 9)), (6, .ref (la 10)), (7, .ref (la 11))]) hx hb dL_wages_398 hl (by decide) rfl (fun ls hl => ?_)
          refine lv_aload hx hb dL_wages_400 (lv_at hl 11 rfl) ?_
          refine lv_iconst (v := 0) hx hb dL_wages_402 (by decide) ?_
          refine xr_ld hC hI 11 (by decide) (nx_in (by decide : (0 : Int32) = nI 0) (by decide) (by decide)) (v := (L 11 0)) (congrArg (L 11) (by decide : ix 0 = 0)) dL_wages_403 ?_
          refine lv_aload hx hb dL_wages_404 (lv_at hl 10 rfl) ?_
          refine lv_iload hx hb dL_wages_406 (lv_at hl 1 rfl) ?_
          refine lv_iconst (v := 1) hx hb dL_wages_408 (by decide) ?_
          refine lv_iadd hx hb dL_wages_409 ?_
          refine xr_ld hC hI 10 (by decide) (show vp_in ((4 * ((5 * (nI f)) + (nI t))) + 1) 60 from nx_in (nx_add (nx_mul (by decide : (4 : Int32) = nI 4) (nx_add (nx_mul (by decide : (5 : Int32) = nI 5) rfl) rfl)) (by decide : (1 : Int32) = nI 1)) (by omega) (by decide)) (v := (L 10 (4 * (5 * f + t) + 1))) (congrArg (L 10) (nx_ix (x := ((4 * ((5 * (nI f)) + (nI t))) + 1)) (nx_add (nx_mul (by decide : (4 : Int32) = nI 4) (nx_add (nx_mul (by decide : (5 : Int32) = nI 5) rfl) rfl)) (by decide : (1 : Int32) = nI 1)) (by omega))) dL_wages_410 ?_
          refine lv_isub hx hb dL_wages_411 ?_
          refine lv_istore (lv' := [(12, .int ((L 11 0) - (L 10 (4 * (5 * f + t) + 1)))), (11, .int 1), (10, .int (4 * ((5 * (nI f)) + (nI t)))), (9, .int (nI t)), (8, .int (nI f)), (0, .ref x0), (1, .int act), (2, .int zv), (3, .ref (la 4)), (4, .ref (la 6)), (5, .ref (la 9)), (6, .ref (la 10)), (7, .ref (la 11))]) hx hb dL_wages_412 hl (by decide) rfl (fun ls hl => ?_)
          refine lv_iconst (v := 2) hx hb dL_wages_414 (by decide) ?_
          refine lv_aload hx hb dL_wages_415 (lv_at hl 11 rfl) ?_
          refine lv_iload hx hb dL_wages_417 (lv_at hl 2 rfl) ?_
          refine lv_iconst (v := 2) hx hb dL_wages_419 (by decide) ?_
          refine lv_iadd hx hb dL_wages_420 ?_
          refine xr_ld hC hI 10 (by decide) (show vp_in ((4 * ((5 * (nI f)) + (nI t))) + 2) 60 from nx_in (nx_add (nx_mul (by decide : (4 : Int32) = nI 4) (nx_add (nx_mul (by decide : (5 : Int32) = nI 5) rfl) rfl)) (by decide : (2 : Int32) = nI 2)) (by omega) (by decide)) (v := (L 10 (4 * (5 * f + t) + 2))) (congrArg (L 10) (nx_ix (x := ((4 * ((5 * (nI f)) + (nI t))) + 2)) (nx_add (nx_mul (by decide : (4 : Int32) = nI 4) (nx_add (nx_mul (by decide : (5 : Int32) = nI 5) rfl) rfl)) (by decide : (2 : Int32) = nI 2)) (by omega))) dL_wages_421 ?_
          refine lv_imul hx hb dL_wages_422 ?_
          refine lv_iload hx hb dL_wages_423 (lv_at hl 0 rfl) ?_
          refine lv_sipush (v := 400) hx hb dL_wages_425 (by decide) ?_
          have hG : fL_wages L act zv f t = bL_wages_439_v2 L f t (jL_wages_439 L f t) := hG
          refine w_join (σ := Int32) 439 (fun y439_0 H locs ls => jL_wages_439 L f t = y439_0 ∧ XI A B D cy g n0 la s S L H locs ∧ lv_has ls 14 [(12, .int ((L 11 0) - (L 10 (4 * (5 * f + t) + 1)))), (11, .int 1), (10, .int (4 * ((5 * (nI f)) + (nI t)))), (9, .int (nI t)), (8, .int (nI f)), (0, .ref x0), (1, .int act), (2, .int zv), (3, .ref (la 4)), (4, .ref (la 6)), (5, .ref (la 9)), (6, .ref (la 10)), (7, .ref (la 11))]) (fun y439_0 => [.int y439_0, .int (2 * (L 10 (4 * (5 * f + t) + 2)))]) ?_ (fun J439 => ?_)
          · intro y439_0 H locs ls ⟨hy439_0, hI, hl⟩
            rw [hy439_0] at hG
            refine lv_imul hx hb dL_wages_439 ?_
            refine lv_istore (lv' := [(13, .int ((2 * (L 10 (4 * (5 * f + t) + 2))) * y439_0)), (12, .int ((L 11 0) - (L 10 (4 * (5 * f + t) + 1)))), (11, .int 1), (10, .int (4 * ((5 * (nI f)) + (nI t)))), (9, .int (nI t)), (8, .int (nI f)), (0, .ref x0), (1, .int act), (2, .int zv), (3, .ref (la 4)), (4, .ref (la 6)), (5, .ref (la 9)), (6, .ref (la 10)), (7, .ref (la 11))]) hx hb dL_wages_440 hl (by decide) rfl (fun ls hl => ?_)
            refine lv_iload hx hb dL_wages_442 (lv_at hl 0 rfl) ?_
            refine lv_aload hx hb dL_wages_444 (lv_at hl 11 rfl) ?_
            refine lv_iconst (v := 4) hx hb dL_wages_446 (by decide) ?_
            refine lv_iload hx hb dL_wages_447 (lv_at hl 5 rfl) ?_
            refine lv_imul hx hb dL_wages_449 ?_
            refine xr_ld hC hI 9 (by decide) (show vp_in (4 * (nI f)) 12 from nx_in (nx_mul (by decide : (4 : Int32) = nI 4) rfl) (by omega) (by decide)) (v := (L 9 (4 * f))) (congrArg (L 9) (nx_ix (x := (4 * (nI f))) (nx_mul (by decide : (4 : Int32) = nI 4) rfl) (by omega))) dL_wages_450 ?_
            have hG : fL_wages L act zv f t = bL_wages_466_v2 L f t (jL_wages_466 L f t y439_0) := hG
            refine w_join (σ := Int32) 466 (fun y466_0 H locs ls => jL_wages_466 L f t y439_0 = y466_0 ∧ XI A B D cy g n0 la s S L H locs ∧ lv_has ls 14 [(13, .int ((2 * (L 10 (4 * (5 * f + t) + 2))) * y439_0)), (12, .int ((L 11 0) - (L 10 (4 * (5 * f + t) + 1)))), (11, .int 1), (10, .int (4 * ((5 * (nI f)) + (nI t)))), (9, .int (nI t)), (8, .int (nI f)), (0, .ref x0), (1, .int act), (2, .int zv), (3, .ref (la 4)), (4, .ref (la 6)), (5, .ref (la 9)), (6, .ref (la 10)), (7, .ref (la 11))]) (fun y466_0 => [.int y466_0]) ?_ (fun J466 => ?_)
            · intro y466_0 H locs ls ⟨hy466_0, hI, hl⟩
              rw [hy466_0] at hG
              refine lv_istore (lv' := [(13, .int y466_0), (12, .int ((L 11 0) - (L 10 (4 * (5 * f + t) + 1)))), (11, .int 1), (10, .int (4 * ((5 * (nI f)) + (nI t)))), (9, .int (nI t)), (8, .int (nI f)), (0, .ref x0), (1, .int act), (2, .int zv), (3, .ref (la 4)), (4, .ref (la 6)), (5, .ref (la 9)), (6, .ref (la 10)), (7, .ref (la 11))]) hx hb dL_wages_466 hl (by decide) rfl (fun ls hl => ?_)
              refine lv_iload hx hb dL_wages_468 (lv_at hl 2 rfl) ?_
              refine lv_if_eq (tgt := 522) hx hb dL_wages_470 (by decide) (fun c => absurd c (by decide : ¬ (1 : Int32) = 0)) (fun _ => ?_)
              refine lv_aload hx hb dL_wages_473 (lv_at hl 12 rfl) ?_
              refine lv_iload hx hb dL_wages_475 (lv_at hl 3 rfl) ?_
              refine lv_iconst (v := 3) hx hb dL_wages_477 (by decide) ?_
              refine lv_iadd hx hb dL_wages_478 ?_
              refine lv_iconst (v := 0) hx hb dL_wages_479 (by decide) ?_
              refine xr_st hC hK hI 10 (by decide) (show vp_in ((4 * ((5 * (nI f)) + (nI t))) + 3) 60 from nx_in (nx_add (nx_mul (by decide : (4 : Int32) = nI 4) (nx_add (nx_mul (by decide : (5 : Int32) = nI 5) rfl) rfl)) (by decide : (3 : Int32) = nI 3)) (by omega) (by decide)) (n := (4 * (5 * f + t) + 3)) (nx_ix (x := ((4 * ((5 * (nI f)) + (nI t))) + 3)) (nx_add (nx_mul (by decide : (4 : Int32) = nI 4) (nx_add (nx_mul (by decide : (5 : Int32) = nI 5) rfl) rfl)) (by decide : (3 : Int32) = nI 3)) (by omega)) dL_wages_480 (fun H locs hI => ?_)
              refine lv_aload hx hb dL_wages_481 (lv_at hl 11 rfl) ?_
              refine lv_iconst (v := 4) hx hb dL_wages_483 (by decide) ?_
              refine lv_iload hx hb dL_wages_484 (lv_at hl 5 rfl) ?_
              refine lv_imul hx hb dL_wages_486 ?_
              refine lv_dup2_11 hx hb dL_wages_487 rfl rfl ?_
              refine xr_ld hC hI 9 (by decide) (show vp_in (4 * (nI f)) 12 from nx_in (nx_mul (by decide : (4 : Int32) = nI 4) rfl) (by omega) (by decide)) (v := (L 9 (4 * f))) ((congrArg ((up L 10 (4 * (5 * f + t) + 3) 0) 9) (nx_ix (x := (4 * (nI f))) (nx_mul (by decide : (4 : Int32) = nI 4) rfl) (by omega))).trans (congrFun (up_ne (by decide)) _)) dL_wages_488 ?_
              refine lv_iload hx hb dL_wages_489 (lv_at hl 0 rfl) ?_
              refine lv_isub hx hb dL_wages_491 ?_
              refine xr_st hC hK hI 9 (by decide) (show vp_in (4 * (nI f)) 12 from nx_in (nx_mul (by decide : (4 : Int32) = nI 4) rfl) (by omega) (by decide)) (n := (4 * f)) (nx_ix (x := (4 * (nI f))) (nx_mul (by decide : (4 : Int32) = nI 4) rfl) (by omega)) dL_wages_492 (fun H locs hI => ?_)
              refine lv_aload hx hb dL_wages_493 (lv_at hl 11 rfl) ?_
              refine lv_iconst (v := 4) hx hb dL_wages_495 (by decide) ?_
              refine lv_iload hx hb dL_wages_496 (lv_at hl 5 rfl) ?_
              refine lv_imul hx hb dL_wages_498 ?_
              refine lv_iconst (v := 3) hx hb dL_wages_499 (by decide) ?_
              refine lv_iadd hx hb dL_wages_500 ?_
              refine lv_dup2_11 hx hb dL_wages_501 rfl rfl ?_
              refine xr_ld hC hI 9 (by decide) (show vp_in ((4 * (nI f)) + 3) 12 from nx_in (nx_add (nx_mul (by decide : (4 : Int32) = nI 4) rfl) (by decide : (3 : Int32) = nI 3)) (by omega) (by decide)) (v := ((up (up L 10 (4 * (5 * f + t) + 3) 0) 9 (4 * f) ((L 9 (4 * f)) - y466_0)) 9 (4 * f + 3))) (congrArg ((up (up L 10 (4 * (5 * f + t) + 3) 0) 9 (4 * f) ((L 9 (4 * f)) - y466_0)) 9) (nx_ix (x := ((4 * (nI f)) + 3)) (nx_add (nx_mul (by decide : (4 : Int32) = nI 4) rfl) (by decide : (3 : Int32) = nI 3)) (by omega))) dL_wages_502 ?_
              refine lv_iload hx hb dL_wages_503 (lv_at hl 0 rfl) ?_
              refine lv_iadd hx hb dL_wages_505 ?_
              refine xr_st hC hK hI 9 (by decide) (show vp_in ((4 * (nI f)) + 3) 12 from nx_in (nx_add (nx_mul (by decide : (4 : Int32) = nI 4) rfl) (by decide : (3 : Int32) = nI 3)) (by omega) (by decide)) (n := (4 * f + 3)) (nx_ix (x := ((4 * (nI f)) + 3)) (nx_add (nx_mul (by decide : (4 : Int32) = nI 4) rfl) (by decide : (3 : Int32) = nI 3)) (by omega)) dL_wages_506 (fun H locs hI => ?_)
              refine lv_aload_n hx hb dL_wages_507 rfl (lv_at hl 9 rfl) ?_
              refine lv_bipush (v := 8) hx hb dL_wages_508 (by decide) ?_
              refine lv_iload hx hb dL_wages_510 (lv_at hl 4 rfl) ?_
              refine lv_imul hx hb dL_wages_512 ?_
              refine lv_bipush (v := 6) hx hb dL_wages_513 (by decide) ?_
              refine lv_iadd hx hb dL_wages_515 ?_
              refine lv_dup2_11 hx hb dL_wages_516 rfl rfl ?_
              refine xr_ld hC hI 4 (by decide) (show vp_in ((8 * (nI t)) + 6) 40 from nx_in (nx_add (nx_mul (by decide : (8 : Int32) = nI 8) rfl) (by decide : (6 : Int32) = nI 6)) (by omega) (by decide)) (v := (L 4 (8 * t + 6))) ((congrArg ((up (up (up L 10 (4 * (5 * f + t) + 3) 0) 9 (4 * f) ((L 9 (4 * f)) - y466_0)) 9 (4 * f + 3) (((up (up L 10 (4 * (5 * f + t) + 3) 0) 9 (4 * f) ((L 9 (4 * f)) - y466_0)) 9 (4 * f + 3)) + y466_0)) 4) (nx_ix (x := ((8 * (nI t)) + 6)) (nx_add (nx_mul (by decide : (8 : Int32) = nI 8) rfl) (by decide : (6 : Int32) = nI 6)) (by omega))).trans ((congrFun (up_ne (by decide)) _).trans ((congrFun (up_ne (by decide)) _).trans (congrFun (up_ne (by decide)) _)))) dL_wages_517 ?_
              refine lv_iload hx hb dL_wages_518 (lv_at hl 0 rfl) ?_
              refine lv_iadd hx hb dL_wages_520 ?_
              refine xr_st hC hK hI 4 (by decide) (show vp_in ((8 * (nI t)) + 6) 40 from nx_in (nx_add (nx_mul (by decide : (8 : Int32) = nI 8) rfl) (by decide : (6 : Int32) = nI 6)) (by omega) (by decide)) (n := (8 * t + 6)) (nx_ix (x := ((8 * (nI t)) + 6)) (nx_add (nx_mul (by decide : (8 : Int32) = nI 8) rfl) (by decide : (6 : Int32) = nI 6)) (by omega)) dL_wages_521 (fun H locs hI => ?_)
              refine lv_aload_n hx hb dL_wages_522 rfl (lv_at hl 6 rfl) ?_
              refine lv_bipush (v := 11) hx hb dL_wages_523 (by decide) ?_
              refine lv_iload hx hb dL_wages_525 (lv_at hl 5 rfl) ?_
              refine lv_iload hx hb dL_wages_527 (lv_at hl 4 rfl) ?_
              refine lv_iconst (v := 0) hx hb dL_wages_529 (by decide) ?_
              have hok : ((xq7 S 11 (nI f) (nI t) 0).2.1 = 0 ∨ (xq7 S 11 (nI f) (nI t) 0).2.1 = 3) ∧ (if (xq7 S 11 (nI f) (nI t) 0).2.1 = 0 then (xq7 S 11 (nI f) (nI t) 0).1 else -1003) = y466_0 := XOK.c (by have h9 := hOK; rw [hG] at h9; exact h9) (by decide)
              refine xr_cs (As := [.ref x0, .int 11, .int (nI f), .int (nI t), .int 0]) (rest := []) 11 (nI f) (nI t) 0 hC hK hI (qC_award l hC.2.1 A D cy g hK.1 S e0 mi n0 hK.2.2.2.1 hK.v hK.i x0 hK.2.2.2.2.2.2.2 (nI f) (nI t) 0 hok.1) (vx_cwSW 5 hts gL_wages_L_calls rfl rfl rfl (by decide +kernel) ⟨Nat.le_of_ble_eq_true rfl, Nat.le_of_ble_eq_true rfl⟩) rfl hl.1 rfl (Nat.le_of_ble_eq_true rfl) dL_wages_530 ⟨Nat.le_of_ble_eq_true rfl, Nat.le_of_ble_eq_true rfl⟩ (fun g H locs hK hI => ?_)
              refine lv_iload hx hb dL_wages_533 (lv_at hl 2 rfl) ?_
              refine lv_if_eq (tgt := 543) hx hb dL_wages_535 (by decide) (fun c => absurd c (by decide : ¬ (1 : Int32) = 0)) (fun _ => ?_)
              refine lv_iload hx hb dL_wages_538 (lv_at hl 0 rfl) ?_
              refine lv_goto (tgt := 546) hx hb dL_wages_540 (by decide) ?_
              refine lv_icmp_ne (tgt := 553) hx hb dL_wages_546 (by decide) (fun c9 => absurd hok.2 c9) (fun _ => ?_)
              refine lv_iconst (v := 1) hx hb dL_wages_549 (by decide) ?_
              refine lv_goto (tgt := 554) hx hb dL_wages_550 (by decide) ?_
              refine W.widen (k := 8) (n := 342) (Nat.le_of_ble_eq_true rfl) (Nat.le_of_ble_eq_true rfl) ?_
              exact W.zret (v := 1) (ty := .boolean) hx hb hr rfl (fun t9 ht9 hW9 => ⟨⟨1, g, rfl, ⟨rfl, by rw [hG]; exact hK⟩, ⟨by rw [hG, ht9]; exact hI.1, by rw [hG, ht9]; exact hI.2.1⟩⟩, hI.2.2.1.F ht9⟩) hI.2.2.1.2.2 dL_wages_554
            · have hB466 : jL_wages_466 L f t y439_0 = jL_wages_466 L f t y439_0 := rfl
              refine lv_icmp_ge (tgt := 459) hx hb dL_wages_451 (by decide) (fun c_8 => ?_) (fun c_8 => ?_)
              · have hB466 := hB466.trans (if_pos c_8)
                refine lv_aload hx hb dL_wages_459 (lv_at hl 11 rfl) ?_
                refine lv_iconst (v := 4) hx hb dL_wages_461 (by decide) ?_
                refine lv_iload hx hb dL_wages_462 (lv_at hl 5 rfl) ?_
                refine lv_imul hx hb dL_wages_464 ?_
                refine xr_ld hC hI 9 (by decide) (show vp_in (4 * (nI f)) 12 from nx_in (nx_mul (by decide : (4 : Int32) = nI 4) rfl) (by omega) (by decide)) (v := (L 9 (4 * f))) (congrArg (L 9) (nx_ix (x := (4 * (nI f))) (nx_mul (by decide : (4 : Int32) = nI 4) rfl) (by omega))) dL_wages_465 ?_
                exact J466 (L 9 (4 * f)) _ _ ls ⟨hB466, hI, lv_sub hl [0, 1, 2, 3, 4, 5, 6, 7, 8, 9, 10, 11, 12, 13] rfl⟩
              · have hB466 := hB466.trans (if_neg c_8)
                refine lv_iload hx hb dL_wages_454 (lv_at hl 0 rfl) ?_
                refine lv_goto (tgt := 466) hx hb dL_wages_456 (by decide) ?_
                exact J466 ((2 * (L 10 (4 * (5 * f + t) + 2))) * y439_0) _ _ ls ⟨hB466, hI, lv_sub hl [0, 1, 2, 3, 4, 5, 6, 7, 8, 9, 10, 11, 12, 13] rfl⟩
          · have hB439 : jL_wages_439 L f t = jL_wages_439 L f t := rfl
            refine lv_icmp_ge (tgt := 436) hx hb dL_wages_428 (by decide) (fun c_7 => ?_) (fun c_7 => ?_)
            · have hB439 := hB439.trans (if_pos c_7)
              refine lv_sipush (v := 400) hx hb dL_wages_436 (by decide) ?_
              exact J439 400 _ _ ls ⟨hB439, hI, lv_sub hl [0, 1, 2, 3, 4, 5, 6, 7, 8, 9, 10, 11, 12] rfl⟩
            · have hB439 := hB439.trans (if_neg c_7)
              refine lv_iload hx hb dL_wages_431 (lv_at hl 0 rfl) ?_
              refine lv_goto (tgt := 439) hx hb dL_wages_433 (by decide) ?_
              exact J439 ((L 11 0) - (L 10 (4 * (5 * f + t) + 1))) _ _ ls ⟨hB439, hI, lv_sub hl [0, 1, 2, 3, 4, 5, 6, 7, 8, 9, 10, 11, 12] rfl⟩
      · have hG := hG.trans (if_pos c_3)
        refine lv_iload_n hx hb dL_wages_170 rfl (lv_at hl 5 rfl) ?_
        refine lv_iconst (v := 5) hx hb dL_wages_171 (by decide) ?_
        refine lv_ishr hx hb dL_wages_172 ?_
        refine lv_iconst (v := 5) hx hb dL_wages_173 (by decide) ?_
        refine xr_callS (As := [.int (zv >>> ((5 : Int32) &&& 31)), .int 5]) (rest := []) hC hI (qL_low l (zv >>> ((5 : Int32) &&& 31)) 5 (by decide)) (va_cwS 2 hts gL_wages_L_low rfl rfl rfl (by decide +kernel) ⟨Nat.le_of_ble_eq_true rfl, Nat.le_of_ble_eq_true rfl⟩) rfl hl.1 rfl (Nat.le_of_ble_eq_true rfl) dL_wages_174 ⟨Nat.le_of_ble_eq_true rfl, Nat.le_of_ble_eq_true rfl⟩ (fun H locs hI => ?_)
        refine lv_if_le (tgt := 206) hx hb dL_wages_177 (by decide) (fun c_9 => ?_) (fun c_9 => ?_)
        · have hG := hG.trans (if_pos c_9)
          refine lv_iload hx hb dL_wages_206 (lv_at hl 2 rfl) ?_
          refine lv_istore (lv' := [(8, .int (nI f)), (10, .int (4 * ((5 * (nI f)) + (nI t)))), (9, .int (nI t)), (0, .ref x0), (1, .int act), (2, .int zv), (3, .ref (la 4)), (4, .ref (la 6)), (5, .ref (la 9)), (6, .ref (la 10)), (7, .ref (la 11))]) hx hb dL_wages_208 hl (by decide) rfl (fun ls hl => ?_)
          refine lv_iconst (v := 4) hx hb dL_wages_210 (by decide) ?_
          refine lv_iconst (v := 5) hx hb dL_wages_211 (by decide) ?_
          refine lv_iload hx hb dL_wages_212 (lv_at hl 0 rfl) ?_
          refine lv_imul hx hb dL_wages_214 ?_
          refine lv_iload hx hb dL_wages_215 (lv_at hl 2 rfl) ?_
          refine lv_iadd hx hb dL_wages_217 ?_
          refine lv_imul hx hb dL_wages_218 ?_
          refine lv_istore (lv' := [(10, .int (4 * ((5 * (nI f)) + (nI t)))), (8, .int (nI f)), (9, .int (nI t)), (0, .ref x0), (1, .int act), (2, .int zv), (3, .ref (la 4)), (4, .ref (la 6)), (5, .ref (la 9)), (6, .ref (la 10)), (7, .ref (la 11))]) hx hb dL_wages_219 hl (by decide) rfl (fun ls hl => ?_)
          refine lv_aload_n hx hb dL_wages_221 rfl (lv_at hl 6 rfl) ?_
          refine lv_bipush (v := 8) hx hb dL_wages_222 (by decide) ?_
          refine lv_iload hx hb dL_wages_224 (lv_at hl 2 rfl) ?_
          refine lv_imul hx hb dL_wages_226 ?_
          refine lv_iconst (v := 2) hx hb dL_wages_227 (by decide) ?_
          refine lv_iadd hx hb dL_wages_228 ?_
          refine xr_ld hC hI 4 (by decide) (show vp_in ((8 * (nI t)) + 2) 40 from nx_in (nx_add (nx_mul (by decide : (8 : Int32) = nI 8) rfl) (by decide : (2 : Int32) = nI 2)) (by omega) (by decide)) (v := (L 4 (8 * t + 2))) (congrArg (L 4) (nx_ix (x := ((8 * (nI t)) + 2)) (nx_add (nx_mul (by decide : (8 : Int32) = nI 8) rfl) (by decide : (2 : Int32) = nI 2)) (by omega))) dL_wages_229 ?_
          refine lv_iload hx hb dL_wages_230 (lv_at hl 1 rfl) ?_
          refine lv_iconst (v := 1) hx hb dL_wages_232 (by decide) ?_
          refine lv_iadd hx hb dL_wages_233 ?_
          refine lv_icmp_ne (tgt := 241) hx hb dL_wages_234 (by decide) (fun c_10 => ?_) (fun c_10 => ?_)
          · have hG := hG.trans (if_neg c_10)
            refine lv_iconst (v := 0) hx hb dL_wages_241 (by decide) ?_
            refine lv_istore (lv' := [(11, .int 0), (10, .int (4 * ((5 * (nI f)) + (nI t)))), (8, .int (nI f)), (9, .int (nI t)), (0, .ref x0), (1, .int act), (2, .int zv), (3, .ref (la 4)), (4, .ref (la 6)), (5, .ref (la 9)), (6, .ref (la 10)), (7, .ref (la 11))]) hx hb dL_wages_242 hl (by decide) rfl (fun ls hl => ?_)
            refine lv_iload hx hb dL_wages_244 (lv_at hl 2 rfl) ?_
            refine lv_iload hx hb dL_wages_246 (lv_at hl 3 rfl) ?_
            refine lv_aload hx hb dL_wages_248 (lv_at hl 8 rfl) ?_
            refine lv_aload hx hb dL_wages_250 (lv_at hl 10 rfl) ?_
            refine lv_aload hx hb dL_wages_252 (lv_at hl 11 rfl) ?_
            refine xr_call (As := [.int (nI f), .int (nI t), .ref (la 6), .ref (la 10), .ref (la 11)]) (rest := []) hC hI (qL_knows l D cy la L hV f (by omega) rfl t (by omega) rfl) (va_cwS 5 hts gL_wages_L_knows rfl rfl rfl (by decide +kernel) ⟨Nat.le_of_ble_eq_true rfl, Nat.le_of_ble_eq_true rfl⟩) rfl hl.1 rfl (Nat.le_of_ble_eq_true rfl) dL_wages_254 ⟨Nat.le_of_ble_eq_true rfl, Nat.le_of_ble_eq_true rfl⟩ (fun H locs hI => ?_)
            refine lv_istore (lv' := [(12, .int (fL_knows L f t)), (11, .int 0), (10, .int (4 * ((5 * (nI f)) + (nI t)))), (8, .int (nI f)), (9, .int (nI t)), (0, .ref x0), (1, .int act), (2, .int zv), (3, .ref (la 4)), (4, .ref (la 6)), (5, .ref (la 9)), (6, .ref (la 10)), (7, .ref (la 11))]) hx hb dL_wages_257 hl (by decide) rfl (fun ls hl => ?_)
            refine lv_iload hx hb dL_wages_259 (lv_at hl 0 rfl) ?_
            refine lv_aload hx hb dL_wages_261 (lv_at hl 12 rfl) ?_
            refine lv_iconst (v := 0) hx hb dL_wages_263 (by decide) ?_
            refine xr_ld hC hI 11 (by decide) (nx_in (by decide : (0 : Int32) = nI 0) (by decide) (by decide)) (v := (L 11 0)) (congrArg (L 11) (by decide : ix 0 = 0)) dL_wages_264 ?_
            have hG : fL_wages L act zv f t = bL_wages_285 L f t (jL_wages_285 L f t) := hG
            refine w_join (σ := Int32) 285 (fun y285_0 H locs ls => jL_wages_285 L f t = y285_0 ∧ XI A B D cy g n0 la s S L H locs ∧ lv_has ls 14 [(12, .int (fL_knows L f t)), (11, .int 0), (10, .int (4 * ((5 * (nI f)) + (nI t)))), (8, .int (nI f)), (9, .int (nI t)), (0, .ref x0), (1, .int act), (2, .int zv), (3, .ref (la 4)), (4, .ref (la 6)), (5, .ref (la 9)), (6, .ref (la 10)), (7, .ref (la 11))]) (fun y285_0 => [.int y285_0]) ?_ (fun J285 => ?_)
            · intro y285_0 H locs ls ⟨hy285_0, hI, hl⟩
              rw [hy285_0] at hG
              refine lv_istore (lv' := [(13, .int y285_0), (12, .int (fL_knows L f t)), (11, .int 0), (10, .int (4 * ((5 * (nI f)) + (nI t)))), (8, .int (nI f)), (9, .int (nI t)), (0, .ref x0), (1, .int act), (2, .int zv), (3, .ref (la 4)), (4, .ref (la 6)), (5, .ref (la 9)), (6, .ref (la 10)), (7, .ref (la 11))]) hx hb dL_wages_285 hl (by decide) rfl (fun ls hl => ?_)
              refine lv_iload hx hb dL_wages_287 (lv_at hl 2 rfl) ?_
              refine lv_if_eq (tgt := 346) hx hb dL_wages_289 (by decide) (fun _ => ?_) (fun c => absurd (by decide : (0 : Int32) = 0) c)
              refine lv_aload_n hx hb dL_wages_346 rfl (lv_at hl 6 rfl) ?_
              refine lv_bipush (v := 10) hx hb dL_wages_347 (by decide) ?_
              refine lv_iload hx hb dL_wages_349 (lv_at hl 4 rfl) ?_
              refine lv_iload hx hb dL_wages_351 (lv_at hl 5 rfl) ?_
              refine lv_iconst (v := 0) hx hb dL_wages_353 (by decide) ?_
              have hok : ((xq7 S 10 (nI f) (nI t) 0).2.1 = 0 ∨ (xq7 S 10 (nI f) (nI t) 0).2.1 = 3) ∧ (if (xq7 S 10 (nI f) (nI t) 0).2.1 = 0 then (xq7 S 10 (nI f) (nI t) 0).1 else -1003) = (-1003) := XOK.c (by have h9 := hOK; rw [hG] at h9; exact h9) (by decide)
              refine xr_cs (As := [.ref x0, .int 10, .int (nI f), .int (nI t), .int 0]) (rest := []) 10 (nI f) (nI t) 0 hC hK hI (qC_fire l hC.2.1 A D cy g hK.1 S e0 mi n0 hK.2.2.2.1 hK.v hK.i x0 hK.2.2.2.2.2.2.2 (nI f) (nI t) 0 hok.1) (vx_cwSW 5 hts gL_wages_L_calls rfl rfl rfl (by decide +kernel) ⟨Nat.le_of_ble_eq_true rfl, Nat.le_of_ble_eq_true rfl⟩) rfl hl.1 rfl (Nat.le_of_ble_eq_true rfl) dL_wages_354 ⟨Nat.le_of_ble_eq_true rfl, Nat.le_of_ble_eq_true rfl⟩ (fun g H locs hK hI => ?_)
              refine lv_iload hx hb dL_wages_357 (lv_at hl 2 rfl) ?_
              refine lv_if_eq (tgt := 370) hx hb dL_wages_359 (by decide) (fun _ => ?_) (fun c => absurd (by decide : (0 : Int32) = 0) c)
              refine lv_sipush (v := (-1003)) hx hb dL_wages_370 (by decide) ?_
              refine lv_icmp_ne (tgt := 380) hx hb dL_wages_373 (by decide) (fun c9 => absurd hok.2 c9) (fun _ => ?_)
              refine lv_iconst (v := 1) hx hb dL_wages_376 (by decide) ?_
              refine lv_goto (tgt := 381) hx hb dL_wages_377 (by decide) ?_
              refine W.widen (k := 8) (n := 342) (Nat.le_of_ble_eq_true rfl) (Nat.le_of_ble_eq_true rfl) ?_
              exact W.zret (v := 1) (ty := .boolean) hx hb hr rfl (fun t9 ht9 hW9 => ⟨⟨1, g, rfl, ⟨rfl, by rw [hG]; exact hK⟩, ⟨by rw [hG, ht9]; exact hI.1, by rw [hG, ht9]; exact hI.2.1⟩⟩, hI.2.2.1.F ht9⟩) hI.2.2.1.2.2 dL_wages_381
            · have hB285 : jL_wages_285 L f t = jL_wages_285 L f t := rfl
              refine lv_icmp_gt (tgt := 284) hx hb dL_wages_265 (by decide) (fun c_11 => ?_) (fun c_11 => ?_)
              · have hB285 := hB285.trans (if_pos c_11)
                refine lv_iconst (v := 0) hx hb dL_wages_284 (by decide) ?_
                exact J285 0 _ _ ls ⟨hB285, hI, lv_sub hl [0, 1, 2, 3, 4, 5, 6, 7, 8, 9, 10, 11, 12] rfl⟩
              · have hB285 := hB285.trans (if_neg c_11)
                refine lv_iload hx hb dL_wages_268 (lv_at hl 0 rfl) ?_
                refine lv_bipush (v := 90) hx hb dL_wages_270 (by decide) ?_
                refine lv_iadd hx hb dL_wages_272 ?_
                refine lv_aload hx hb dL_wages_273 (lv_at hl 12 rfl) ?_
                refine lv_iconst (v := 0) hx hb dL_wages_275 (by decide) ?_
                refine xr_ld hC hI 11 (by decide) (nx_in (by decide : (0 : Int32) = nI 0) (by decide) (by decide)) (v := (L 11 0)) (congrArg (L 11) (by decide : ix 0 = 0)) dL_wages_276 ?_
                refine lv_icmp_lt (tgt := 284) hx hb dL_wages_277 (by decide) (fun c_12 => ?_) (fun c_12 => ?_)
                · have hB285 := hB285.trans (if_pos c_12)
                  refine lv_iconst (v := 0) hx hb dL_wages_284 (by decide) ?_
                  exact J285 0 _ _ ls ⟨hB285, hI, lv_sub hl [0, 1, 2, 3, 4, 5, 6, 7, 8, 9, 10, 11, 12] rfl⟩
                · have hB285 := hB285.trans (if_neg c_12)
                  refine lv_iconst (v := 1) hx hb dL_wages_280 (by decide) ?_
                  refine lv_goto (tgt := 285) hx hb dL_wages_281 (by decide) ?_
                  exact J285 1 _ _ ls ⟨hB285, hI, lv_sub hl [0, 1, 2, 3, 4, 5, 6, 7, 8, 9, 10, 11, 12] rfl⟩
          · have hG := hG.trans (if_pos c_10)
            refine lv_iconst (v := 1) hx hb dL_wages_237 (by decide) ?_
            refine lv_goto (tgt := 242) hx hb dL_wages_238 (by decide) ?_
            refine lv_istore (lv' := [(11, .int 1), (10, .int (4 * ((5 * (nI f)) + (nI t)))), (8, .int (nI f)), (9, .int (nI t)), (0, .ref x0), (1, .int act), (2, .int zv), (3, .ref (la 4)), (4, .ref (la 6)), (5, .ref (la 9)), (6, .ref (la 10)), (7, .ref (la 11))]) hx hb dL_wages_242 hl (by decide) rfl (fun ls hl => ?_)
            refine lv_iload hx hb dL_wages_244 (lv_at hl 2 rfl) ?_
            refine lv_iload hx hb dL_wages_246 (lv_at hl 3 rfl) ?_
            refine lv_aload hx hb dL_wages_248 (lv_at hl 8 rfl) ?_
            refine lv_aload hx hb dL_wages_250 (lv_at hl 10 rfl) ?_
            refine lv_aload hx hb dL_wages_252 (lv_at hl 11 rfl) ?_
            refine xr_call (As := [.int (nI f), .int (nI t), .ref (la 6), .ref (la 10), .ref (la 11)]) (rest := []) hC hI (qL_knows l D cy la L hV f (by omega) rfl t (by omega) rfl) (va_cwS 5 hts gL_wages_L_knows rfl rfl rfl (by decide +kernel) ⟨Nat.le_of_ble_eq_true rfl, Nat.le_of_ble_eq_true rfl⟩) rfl hl.1 rfl (Nat.le_of_ble_eq_true rfl) dL_wages_254 ⟨Nat.le_of_ble_eq_true rfl, Nat.le_of_ble_eq_true rfl⟩ (fun H locs hI => ?_)
            refine lv_istore (lv' := [(12, .int (fL_knows L f t)), (11, .int 1), (10, .int (4 * ((5 * (nI f)) + (nI t)))), (8, .int (nI f)), (9, .int (nI t)), (0, .ref x0), (1, .int act), (2, .int zv), (3, .ref (la 4)), (4, .ref (la 6)), (5, .ref (la 9)), (6, .ref (la 10)), (7, .ref (la 11))]) hx hb dL_wages_257 hl (by decide) rfl (fun ls hl => ?_)
            refine lv_iload hx hb dL_wages_259 (lv_at hl 0 rfl) ?_
            refine lv_aload hx hb dL_wages_261 (lv_at hl 12 rfl) ?_
            refine lv_iconst (v := 0) hx hb dL_wages_263 (by decide) ?_
            refine xr_ld hC hI 11 (by decide) (nx_in (by decide : (0 : Int32) = nI 0) (by decide) (by decide)) (v := (L 11 0)) (congrArg (L 11) (by decide : ix 0 = 0)) dL_wages_264 ?_
            have hG : fL_wages L act zv f t = bL_wages_285_v2 L f t (jL_wages_285 L f t) := hG
            refine w_join (σ := Int32) 285 (fun y285_0 H locs ls => jL_wages_285 L f t = y285_0 ∧ XI A B D cy g n0 la s S L H locs ∧ lv_has ls 14 [(12, .int (fL_knows L f t)), (11, .int 1), (10, .int (4 * ((5 * (nI f)) + (nI t)))), (8, .int (nI f)), (9, .int (nI t)), (0, .ref x0), (1, .int act), (2, .int zv), (3, .ref (la 4)), (4, .ref (la 6)), (5, .ref (la 9)), (6, .ref (la 10)), (7, .ref (la 11))]) (fun y285_0 => [.int y285_0]) ?_ (fun J285 => ?_)
            · intro y285_0 H locs ls ⟨hy285_0, hI, hl⟩
              rw [hy285_0] at hG
              refine lv_istore (lv' := [(13, .int y285_0), (12, .int (fL_knows L f t)), (11, .int 1), (10, .int (4 * ((5 * (nI f)) + (nI t)))), (8, .int (nI f)), (9, .int (nI t)), (0, .ref x0), (1, .int act), (2, .int zv), (3, .ref (la 4)), (4, .ref (la 6)), (5, .ref (la 9)), (6, .ref (la 10)), (7, .ref (la 11))]) hx hb dL_wages_285 hl (by decide) rfl (fun ls hl => ?_)
              refine lv_iload hx hb dL_wages_287 (lv_at hl 2 rfl) ?_
              refine lv_if_eq (tgt := 346) hx hb dL_wages_289 (by decide) (fun c => absurd c (by decide : ¬ (1 : Int32) = 0)) (fun _ => ?_)
              refine lv_aload_n hx hb dL_wages_292 rfl (lv_at hl 9 rfl) ?_
              refine lv_bipush (v := 8) hx hb dL_wages_293 (by decide) ?_
              refine lv_iload hx hb dL_wages_295 (lv_at hl 5 rfl) ?_
              refine lv_imul hx hb dL_wages_297 ?_
              refine lv_iconst (v := 2) hx hb dL_wages_298 (by decide) ?_
              refine lv_iadd hx hb dL_wages_299 ?_
              refine lv_iconst (v := 0) hx hb dL_wages_300 (by decide) ?_
              refine xr_st hC hK hI 4 (by decide) (show vp_in ((8 * (nI t)) + 2) 40 from nx_in (nx_add (nx_mul (by decide : (8 : Int32) = nI 8) rfl) (by decide : (2 : Int32) = nI 2)) (by omega) (by decide)) (n := (8 * t + 2)) (nx_ix (x := ((8 * (nI t)) + 2)) (nx_add (nx_mul (by decide : (8 : Int32) = nI 8) rfl) (by decide : (2 : Int32) = nI 2)) (by omega)) dL_wages_301 (fun H locs hI => ?_)
              refine lv_aload hx hb dL_wages_302 (lv_at hl 12 rfl) ?_
              refine lv_iload hx hb dL_wages_304 (lv_at hl 3 rfl) ?_
              refine lv_iconst (v := 1) hx hb dL_wages_306 (by decide) ?_
              refine lv_iadd hx hb dL_wages_307 ?_
              refine lv_aload hx hb dL_wages_308 (lv_at hl 13 rfl) ?_
              refine lv_iconst (v := 0) hx hb dL_wages_310 (by decide) ?_
              refine xr_ld hC hI 11 (by decide) (nx_in (by decide : (0 : Int32) = nI 0) (by decide) (by decide)) (v := (L 11 0)) ((congrArg ((up L 4 (8 * t + 2) 0) 11) (by decide : ix 0 = 0)).trans (congrFun (up_ne (by decide)) _)) dL_wages_311 ?_
              refine xr_st hC hK hI 10 (by decide) (show vp_in ((4 * ((5 * (nI f)) + (nI t))) + 1) 60 from nx_in (nx_add (nx_mul (by decide : (4 : Int32) = nI 4) (nx_add (nx_mul (by decide : (5 : Int32) = nI 5) rfl) rfl)) (by decide : (1 : Int32) = nI 1)) (by omega) (by decide)) (n := (4 * (5 * f + t) + 1)) (nx_ix (x := ((4 * ((5 * (nI f)) + (nI t))) + 1)) (nx_add (nx_mul (by decide : (4 : Int32) = nI 4) (nx_add (nx_mul (by decide : (5 : Int32) = nI 5) rfl) rfl)) (by decide : (1 : Int32) = nI 1)) (by omega)) dL_wages_312 (fun H locs hI => ?_)
              refine lv_aload hx hb dL_wages_313 (lv_at hl 12 rfl) ?_
              refine lv_iload hx hb dL_wages_315 (lv_at hl 3 rfl) ?_
              refine lv_iconst (v := 2) hx hb dL_wages_317 (by decide) ?_
              refine lv_iadd hx hb dL_wages_318 ?_
              refine lv_aload_n hx hb dL_wages_319 rfl (lv_at hl 9 rfl) ?_
              refine lv_bipush (v := 8) hx hb dL_wages_320 (by decide) ?_
              refine lv_iload hx hb dL_wages_322 (lv_at hl 5 rfl) ?_
              refine lv_imul hx hb dL_wages_324 ?_
              refine lv_iconst (v := 3) hx hb dL_wages_325 (by decide) ?_
              refine lv_iadd hx hb dL_wages_326 ?_
              refine xr_ld hC hI 4 (by decide) (show vp_in ((8 * (nI t)) + 3) 40 from nx_in (nx_add (nx_mul (by decide : (8 : Int32) = nI 8) rfl) (by decide : (3 : Int32) = nI 3)) (by omega) (by decide)) (v := ((up L 4 (8 * t + 2) 0) 4 (8 * t + 3))) ((congrArg ((up (up L 4 (8 * t + 2) 0) 10 (4 * (5 * f + t) + 1) (L 11 0)) 4) (nx_ix (x := ((8 * (nI t)) + 3)) (nx_add (nx_mul (by decide : (8 : Int32) = nI 8) rfl) (by decide : (3 : Int32) = nI 3)) (by omega))).trans (congrFun (up_ne (by decide)) _)) dL_wages_327 ?_
              refine xr_st hC hK hI 10 (by decide) (show vp_in ((4 * ((5 * (nI f)) + (nI t))) + 2) 60 from nx_in (nx_add (nx_mul (by decide : (4 : Int32) = nI 4) (nx_add (nx_mul (by decide : (5 : Int32) = nI 5) rfl) rfl)) (by decide : (2 : Int32) = nI 2)) (by omega) (by decide)) (n := (4 * (5 * f + t) + 2)) (nx_ix (x := ((4 * ((5 * (nI f)) + (nI t))) + 2)) (nx_add (nx_mul (by decide : (4 : Int32) = nI 4) (nx_add (nx_mul (by decide : (5 : Int32) = nI 5) rfl) rfl)) (by decide : (2 : Int32) = nI 2)) (by omega)) dL_wages_328 (fun H locs hI => ?_)
              refine lv_aload hx hb dL_wages_329 (lv_at hl 12 rfl) ?_
              refine lv_iload hx hb dL_wages_331 (lv_at hl 3 rfl) ?_
              refine lv_iconst (v := 3) hx hb dL_wages_333 (by decide) ?_
              refine lv_iadd hx hb dL_wages_334 ?_
              refine lv_iload hx hb dL_wages_335 (lv_at hl 0 rfl) ?_
              refine lv_if_eq (tgt := 344) hx hb dL_wages_337 (by decide) (fun c_15 => ?_) (fun c_15 => ?_)
              · have hG := hG.trans (if_pos c_15)
                refine lv_iconst (v := 0) hx hb dL_wages_344 (by decide) ?_
                refine xr_st hC hK hI 10 (by decide) (show vp_in ((4 * ((5 * (nI f)) + (nI t))) + 3) 60 from nx_in (nx_add (nx_mul (by decide : (4 : Int32) = nI 4) (nx_add (nx_mul (by decide : (5 : Int32) = nI 5) rfl) rfl)) (by decide : (3 : Int32) = nI 3)) (by omega) (by decide)) (n := (4 * (5 * f + t) + 3)) (nx_ix (x := ((4 * ((5 * (nI f)) + (nI t))) + 3)) (nx_add (nx_mul (by decide : (4 : Int32) = nI 4) (nx_add (nx_mul (by decide : (5 : Int32) = nI 5) rfl) rfl)) (by decide : (3 : Int32) = nI 3)) (by omega)) dL_wages_345 (fun H locs hI => ?_)
                refine lv_aload_n hx hb dL_wages_346 rfl (lv_at hl 6 rfl) ?_
                refine lv_bipush (v := 10) hx hb dL_wages_347 (by decide) ?_
                refine lv_iload hx hb dL_wages_349 (lv_at hl 4 rfl) ?_
                refine lv_iload hx hb dL_wages_351 (lv_at hl 5 rfl) ?_
                refine lv_iconst (v := 0) hx hb dL_wages_353 (by decide) ?_
                have hok : ((xq7 S 10 (nI f) (nI t) 0).2.1 = 0 ∨ (xq7 S 10 (nI f) (nI t) 0).2.1 = 3) ∧ (if (xq7 S 10 (nI f) (nI t) 0).2.1 = 0 then (xq7 S 10 (nI f) (nI t) 0).1 else -1003) = (fL_yes y285_0) := XOK.c (by have h9 := hOK; rw [hG] at h9; exact h9) (by decide)
                refine xr_cs (As := [.ref x0, .int 10, .int (nI f), .int (nI t), .int 0]) (rest := []) 10 (nI f) (nI t) 0 hC hK hI (qC_fire l hC.2.1 A D cy g hK.1 S e0 mi n0 hK.2.2.2.1 hK.v hK.i x0 hK.2.2.2.2.2.2.2 (nI f) (nI t) 0 hok.1) (vx_cwSW 5 hts gL_wages_L_calls rfl rfl rfl (by decide +kernel) ⟨Nat.le_of_ble_eq_true rfl, Nat.le_of_ble_eq_true rfl⟩) rfl hl.1 rfl (Nat.le_of_ble_eq_true rfl) dL_wages_354 ⟨Nat.le_of_ble_eq_true rfl, Nat.le_of_ble_eq_true rfl⟩ (fun g H locs hK hI => ?_)
                refine lv_iload hx hb dL_wages_357 (lv_at hl 2 rfl) ?_
                refine lv_if_eq (tgt := 370) hx hb dL_wages_359 (by decide) (fun c => absurd c (by decide : ¬ (1 : Int32) = 0)) (fun _ => ?_)
                refine lv_iload hx hb dL_wages_362 (lv_at hl 0 rfl) ?_
                refine xr_callS (As := [.int y285_0]) (rest := [.int (if (xq7 S 10 (nI f) (nI t) 0).2.1 = 0 then (xq7 S 10 (nI f) (nI t) 0).1 else -1003)]) hC hI (qL_yes l y285_0) (va_cwS 1 hts gL_wages_L_yes rfl rfl rfl (by decide +kernel) ⟨Nat.le_of_ble_eq_true rfl, Nat.le_of_ble_eq_true rfl⟩) rfl hl.1 rfl (Nat.le_of_ble_eq_true rfl) dL_wages_364 ⟨Nat.le_of_ble_eq_true rfl, Nat.le_of_ble_eq_true rfl⟩ (fun H locs hI => ?_)
                refine lv_goto (tgt := 373) hx hb dL_wages_367 (by decide) ?_
                refine lv_icmp_ne (tgt := 380) hx hb dL_wages_373 (by decide) (fun c9 => absurd hok.2 c9) (fun _ => ?_)
                refine lv_iconst (v := 1) hx hb dL_wages_376 (by decide) ?_
                refine lv_goto (tgt := 381) hx hb dL_wages_377 (by decide) ?_
                refine W.widen (k := 8) (n := 342) (Nat.le_of_ble_eq_true rfl) (Nat.le_of_ble_eq_true rfl) ?_
                exact W.zret (v := 1) (ty := .boolean) hx hb hr rfl (fun t9 ht9 hW9 => ⟨⟨1, g, rfl, ⟨rfl, by rw [hG]; exact hK⟩, ⟨by rw [hG, ht9]; exact hI.1, by rw [hG, ht9]; exact hI.2.1⟩⟩, hI.2.2.1.F ht9⟩) hI.2.2.1.2.2 dL_wages_381
              · have hG := hG.trans (if_neg c_15)
                refine lv_iconst (v := 1) hx hb dL_wages_340 (by decide) ?_
                refine lv_goto (tgt := 345) hx hb dL_wages_341 (by decide) ?_
                refine xr_st hC hK hI 10 (by decide) (show vp_in ((4 * ((5 * (nI f)) + (nI t))) + 3) 60 from nx_in (nx_add (nx_mul (by decide : (4 : Int32) = nI 4) (nx_add (nx_mul (by decide : (5 : Int32) = nI 5) rfl) rfl)) (by decide : (3 : Int32) = nI 3)) (by omega) (by decide)) (n := (4 * (5 * f + t) + 3)) (nx_ix (x := ((4 * ((5 * (nI f)) + (nI t))) + 3)) (nx_add (nx_mul (by decide : (4 : Int32) = nI 4) (nx_add (nx_mul (by decide : (5 : Int32) = nI 5) rfl) rfl)) (by decide : (3 : Int32) = nI 3)) (by omega)) dL_wages_345 (fun H locs hI => ?_)
                refine lv_aload_n hx hb dL_wages_346 rfl (lv_at hl 6 rfl) ?_
                refine lv_bipush (v := 10) hx hb dL_wages_347 (by decide) ?_
                refine lv_iload hx hb dL_wages_349 (lv_at hl 4 rfl) ?_
                refine lv_iload hx hb dL_wages_351 (lv_at hl 5 rfl) ?_
                refine lv_iconst (v := 0) hx hb dL_wages_353 (by decide) ?_
                have hok : ((xq7 S 10 (nI f) (nI t) 0).2.1 = 0 ∨ (xq7 S 10 (nI f) (nI t) 0).2.1 = 3) ∧ (if (xq7 S 10 (nI f) (nI t) 0).2.1 = 0 then (xq7 S 10 (nI f) (nI t) 0).1 else -1003) = (fL_yes y285_0) := XOK.c (by have h9 := hOK; rw [hG] at h9; exact h9) (by decide)
                refine xr_cs (As := [.ref x0, .int 10, .int (nI f), .int (nI t), .int 0]) (rest := []) 10 (nI f) (nI t) 0 hC hK hI (qC_fire l hC.2.1 A D cy g hK.1 S e0 mi n0 hK.2.2.2.1 hK.v hK.i x0 hK.2.2.2.2.2.2.2 (nI f) (nI t) 0 hok.1) (vx_cwSW 5 hts gL_wages_L_calls rfl rfl rfl (by decide +kernel) ⟨Nat.le_of_ble_eq_true rfl, Nat.le_of_ble_eq_true rfl⟩) rfl hl.1 rfl (Nat.le_of_ble_eq_true rfl) dL_wages_354 ⟨Nat.le_of_ble_eq_true rfl, Nat.le_of_ble_eq_true rfl⟩ (fun g H locs hK hI => ?_)
                refine lv_iload hx hb dL_wages_357 (lv_at hl 2 rfl) ?_
                refine lv_if_eq (tgt := 370) hx hb dL_wages_359 (by decide) (fun c => absurd c (by decide : ¬ (1 : Int32) = 0)) (fun _ => ?_)
                refine lv_iload hx hb dL_wages_362 (lv_at hl 0 rfl) ?_
                refine xr_callS (As := [.int y285_0]) (rest := [.int (if (xq7 S 10 (nI f) (nI t) 0).2.1 = 0 then (xq7 S 10 (nI f) (nI t) 0).1 else -1003)]) hC hI (qL_yes l y285_0) (va_cwS 1 hts gL_wages_L_yes rfl rfl rfl (by decide +kernel) ⟨Nat.le_of_ble_eq_true rfl, Nat.le_of_ble_eq_true rfl⟩) rfl hl.1 rfl (Nat.le_of_ble_eq_true rfl) dL_wages_364 ⟨Nat.le_of_ble_eq_true rfl, Nat.le_of_ble_eq_true rfl⟩ (fun H locs hI => ?_)
                refine lv_goto (tgt := 373) hx hb dL_wages_367 (by decide) ?_
                refine lv_icmp_ne (tgt := 380) hx hb dL_wages_373 (by decide) (fun c9 => absurd hok.2 c9) (fun _ => ?_)
                refine lv_iconst (v := 1) hx hb dL_wages_376 (by decide) ?_
                refine lv_goto (tgt := 381) hx hb dL_wages_377 (by decide) ?_
                refine W.widen (k := 8) (n := 342) (Nat.le_of_ble_eq_true rfl) (Nat.le_of_ble_eq_true rfl) ?_
                exact W.zret (v := 1) (ty := .boolean) hx hb hr rfl (fun t9 ht9 hW9 => ⟨⟨1, g, rfl, ⟨rfl, by rw [hG]; exact hK⟩, ⟨by rw [hG, ht9]; exact hI.1, by rw [hG, ht9]; exact hI.2.1⟩⟩, hI.2.2.1.F ht9⟩) hI.2.2.1.2.2 dL_wages_381
            · have hB285 : jL_wages_285 L f t = jL_wages_285 L f t := rfl
              refine lv_icmp_gt (tgt := 284) hx hb dL_wages_265 (by decide) (fun c_13 => ?_) (fun c_13 => ?_)
              · have hB285 := hB285.trans (if_pos c_13)
                refine lv_iconst (v := 0) hx hb dL_wages_284 (by decide) ?_
                exact J285 0 _ _ ls ⟨hB285, hI, lv_sub hl [0, 1, 2, 3, 4, 5, 6, 7, 8, 9, 10, 11, 12] rfl⟩
              · have hB285 := hB285.trans (if_neg c_13)
                refine lv_iload hx hb dL_wages_268 (lv_at hl 0 rfl) ?_
                refine lv_bipush (v := 90) hx hb dL_wages_270 (by decide) ?_
                refine lv_iadd hx hb dL_wages_272 ?_
                refine lv_aload hx hb dL_wages_273 (lv_at hl 12 rfl) ?_
                refine lv_iconst (v := 0) hx hb dL_wages_275 (by decide) ?_
                refine xr_ld hC hI 11 (by decide) (nx_in (by decide : (0 : Int32) = nI 0) (by decide) (by decide)) (v := (L 11 0)) (congrArg (L 11) (by decide : ix 0 = 0)) dL_wages_276 ?_
                refine lv_icmp_lt (tgt := 284) hx hb dL_wages_277 (by decide) (fun c_14 => ?_) (fun c_14 => ?_)
                · have hB285 := hB285.trans (if_pos c_14)
                  refine lv_iconst (v := 0) hx hb dL_wages_284 (by decide) ?_
                  exact J285 0 _ _ ls ⟨hB285, hI, lv_sub hl [0, 1, 2, 3, 4, 5, 6, 7, 8, 9, 10, 11, 12] rfl⟩
                · have hB285 := hB285.trans (if_neg c_14)
                  refine lv_iconst (v := 1) hx hb dL_wages_280 (by decide) ?_
                  refine lv_goto (tgt := 285) hx hb dL_wages_281 (by decide) ?_
                  exact J285 1 _ _ ls ⟨hB285, hI, lv_sub hl [0, 1, 2, 3, 4, 5, 6, 7, 8, 9, 10, 11, 12] rfl⟩
        · have hG := hG.trans (if_neg c_9)
          refine lv_aload_n hx hb dL_wages_180 rfl (lv_at hl 6 rfl) ?_
          refine lv_bipush (v := 8) hx hb dL_wages_181 (by decide) ?_
          refine lv_iload hx hb dL_wages_183 (lv_at hl 1 rfl) ?_
          refine lv_imul hx hb dL_wages_185 ?_
          refine lv_iconst (v := 2) hx hb dL_wages_186 (by decide) ?_
          refine lv_iadd hx hb dL_wages_187 ?_
          refine xr_ld hC hI 4 (by decide) (show vp_in ((8 * (nI t)) + 2) 40 from nx_in (nx_add (nx_mul (by decide : (8 : Int32) = nI 8) rfl) (by decide : (2 : Int32) = nI 2)) (by omega) (by decide)) (v := (L 4 (8 * t + 2))) (congrArg (L 4) (nx_ix (x := ((8 * (nI t)) + 2)) (nx_add (nx_mul (by decide : (8 : Int32) = nI 8) rfl) (by decide : (2 : Int32) = nI 2)) (by omega))) dL_wages_188 ?_
          refine lv_if_le (tgt := 206) hx hb dL_wages_189 (by decide) (fun c_16 => ?_) (fun c_16 => ?_)
          · have hG := hG.trans (if_pos c_16)
            refine lv_iload hx hb dL_wages_206 (lv_at hl 2 rfl) ?_
            refine lv_istore (lv' := [(8, .int (nI f)), (10, .int (4 * ((5 * (nI f)) + (nI t)))), (9, .int (nI t)), (0, .ref x0), (1, .int act), (2, .int zv), (3, .ref (la 4)), (4, .ref (la 6)), (5, .ref (la 9)), (6, .ref (la 10)), (7, .ref (la 11))]) hx hb dL_wages_208 hl (by decide) rfl (fun ls hl => ?_)
            refine lv_iconst (v := 4) hx hb dL_wages_210 (by decide) ?_
            refine lv_iconst (v := 5) hx hb dL_wages_211 (by decide) ?_
            refine lv_iload hx hb dL_wages_212 (lv_at hl 0 rfl) ?_
            refine lv_imul hx hb dL_wages_214 ?_
            refine lv_iload hx hb dL_wages_215 (lv_at hl 2 rfl) ?_
            refine lv_iadd hx hb dL_wages_217 ?_
            refine lv_imul hx hb dL_wages_218 ?_
            refine lv_istore (lv' := [(10, .int (4 * ((5 * (nI f)) + (nI t)))), (8, .int (nI f)), (9, .int (nI t)), (0, .ref x0), (1, .int act), (2, .int zv), (3, .ref (la 4)), (4, .ref (la 6)), (5, .ref (la 9)), (6, .ref (la 10)), (7, .ref (la 11))]) hx hb dL_wages_219 hl (by decide) rfl (fun ls hl => ?_)
            refine lv_aload_n hx hb dL_wages_221 rfl (lv_at hl 6 rfl) ?_
            refine lv_bipush (v := 8) hx hb dL_wages_222 (by decide) ?_
            refine lv_iload hx hb dL_wages_224 (lv_at hl 2 rfl) ?_
            refine lv_imul hx hb dL_wages_226 ?_
            refine lv_iconst (v := 2) hx hb dL_wages_227 (by decide) ?_
            refine lv_iadd hx hb dL_wages_228 ?_
            refine xr_ld hC hI 4 (by decide) (show vp_in ((8 * (nI t)) + 2) 40 from nx_in (nx_add (nx_mul (by decide : (8 : Int32) = nI 8) rfl) (by decide : (2 : Int32) = nI 2)) (by omega) (by decide)) (v := (L 4 (8 * t + 2))) (congrArg (L 4) (nx_ix (x := ((8 * (nI t)) + 2)) (nx_add (nx_mul (by decide : (8 : Int32) = nI 8) rfl) (by decide : (2 : Int32) = nI 2)) (by omega))) dL_wages_229 ?_
            refine lv_iload hx hb dL_wages_230 (lv_at hl 1 rfl) ?_
            refine lv_iconst (v := 1) hx hb dL_wages_232 (by decide) ?_
            refine lv_iadd hx hb dL_wages_233 ?_
            refine lv_icmp_ne (tgt := 241) hx hb dL_wages_234 (by decide) (fun c_17 => ?_) (fun c_17 => ?_)
            · have hG := hG.trans (if_neg c_17)
              refine lv_iconst (v := 0) hx hb dL_wages_241 (by decide) ?_
              refine lv_istore (lv' := [(11, .int 0), (10, .int (4 * ((5 * (nI f)) + (nI t)))), (8, .int (nI f)), (9, .int (nI t)), (0, .ref x0), (1, .int act), (2, .int zv), (3, .ref (la 4)), (4, .ref (la 6)), (5, .ref (la 9)), (6, .ref (la 10)), (7, .ref (la 11))]) hx hb dL_wages_242 hl (by decide) rfl (fun ls hl => ?_)
              refine lv_iload hx hb dL_wages_244 (lv_at hl 2 rfl) ?_
              refine lv_iload hx hb dL_wages_246 (lv_at hl 3 rfl) ?_
              refine lv_aload hx hb dL_wages_248 (lv_at hl 8 rfl) ?_
              refine lv_aload hx hb dL_wages_250 (lv_at hl 10 rfl) ?_
              refine lv_aload hx hb dL_wages_252 (lv_at hl 11 rfl) ?_
              refine xr_call (As := [.int (nI f), .int (nI t), .ref (la 6), .ref (la 10), .ref (la 11)]) (rest := []) hC hI (qL_knows l D cy la L hV f (by omega) rfl t (by omega) rfl) (va_cwS 5 hts gL_wages_L_knows rfl rfl rfl (by decide +kernel) ⟨Nat.le_of_ble_eq_true rfl, Nat.le_of_ble_eq_true rfl⟩) rfl hl.1 rfl (Nat.le_of_ble_eq_true rfl) dL_wages_254 ⟨Nat.le_of_ble_eq_true rfl, Nat.le_of_ble_eq_true rfl⟩ (fun H locs hI => ?_)
              refine lv_istore (lv' := [(12, .int (fL_knows L f t)), (11, .int 0), (10, .int (4 * ((5 * (nI f)) + (nI t)))), (8, .int (nI f)), (9, .int (nI t)), (0, .ref x0), (1, .int act), (2, .int zv), (3, .ref (la 4)), (4, .ref (la 6)), (5, .ref (la 9)), (6, .ref (la 10)), (7, .ref (la 11))]) hx hb dL_wages_257 hl (by decide) rfl (fun ls hl => ?_)
              refine lv_iload hx hb dL_wages_259 (lv_at hl 0 rfl) ?_
              refine lv_aload hx hb dL_wages_261 (lv_at hl 12 rfl) ?_
              refine lv_iconst (v := 0) hx hb dL_wages_263 (by decide) ?_
              refine xr_ld hC hI 11 (by decide) (nx_in (by decide : (0 : Int32) = nI 0) (by decide) (by decide)) (v := (L 11 0)) (congrArg (L 11) (by decide : ix 0 = 0)) dL_wages_264 ?_
              have hG : fL_wages L act zv f t = bL_wages_285 L f t (jL_wages_285 L f t) := hG
              refine w_join (σ := Int32) 285 (fun y285_0 H locs ls => jL_wages_285 L f t = y285_0 ∧ XI A B D cy g n0 la s S L H locs ∧ lv_has ls 14 [(12, .int (fL_knows L f t)), (11, .int 0), (10, .int (4 * ((5 * (nI f)) + (nI t)))), (8, .int (nI f)), (9, .int (nI t)), (0, .ref x0), (1, .int act), (2, .int zv), (3, .ref (la 4)), (4, .ref (la 6)), (5, .ref (la 9)), (6, .ref (la 10)), (7, .ref (la 11))]) (fun y285_0 => [.int y285_0]) ?_ (fun J285 => ?_)
              · intro y285_0 H locs ls ⟨hy285_0, hI, hl⟩
                rw [hy285_0] at hG
                refine lv_istore (lv' := [(13, .int y285_0), (12, .int (fL_knows L f t)), (11, .int 0), (10, .int (4 * ((5 * (nI f)) + (nI t)))), (8, .int (nI f)), (9, .int (nI t)), (0, .ref x0), (1, .int act), (2, .int zv), (3, .ref (la 4)), (4, .ref (la 6)), (5, .ref (la 9)), (6, .ref (la 10)), (7, .ref (la 11))]) hx hb dL_wages_285 hl (by decide) rfl (fun ls hl => ?_)
                refine lv_iload hx hb dL_wages_287 (lv_at hl 2 rfl) ?_
                refine lv_if_eq (tgt := 346) hx hb dL_wages_289 (by decide) (fun _ => ?_) (fun c => absurd (by decide : (0 : Int32) = 0) c)
                refine lv_aload_n hx hb dL_wages_346 rfl (lv_at hl 6 rfl) ?_
                refine lv_bipush (v := 10) hx hb dL_wages_347 (by decide) ?_
                refine lv_iload hx hb dL_wages_349 (lv_at hl 4 rfl) ?_
                refine lv_iload hx hb dL_wages_351 (lv_at hl 5 rfl) ?_
                refine lv_iconst (v := 0) hx hb dL_wages_353 (by decide) ?_
                have hok : ((xq7 S 10 (nI f) (nI t) 0).2.1 = 0 ∨ (xq7 S 10 (nI f) (nI t) 0).2.1 = 3) ∧ (if (xq7 S 10 (nI f) (nI t) 0).2.1 = 0 then (xq7 S 10 (nI f) (nI t) 0).1 else -1003) = (-1003) := XOK.c (by have h9 := hOK; rw [hG] at h9; exact h9) (by decide)
                refine xr_cs (As := [.ref x0, .int 10, .int (nI f), .int (nI t), .int 0]) (rest := []) 10 (nI f) (nI t) 0 hC hK hI (qC_fire l hC.2.1 A D cy g hK.1 S e0 mi n0 hK.2.2.2.1 hK.v hK.i x0 hK.2.2.2.2.2.2.2 (nI f) (nI t) 0 hok.1) (vx_cwSW 5 hts gL_wages_L_calls rfl rfl rfl (by decide +kernel) ⟨Nat.le_of_ble_eq_true rfl, Nat.le_of_ble_eq_true rfl⟩) rfl hl.1 rfl (Nat.le_of_ble_eq_true rfl) dL_wages_354 ⟨Nat.le_of_ble_eq_true rfl, Nat.le_of_ble_eq_true rfl⟩ (fun g H locs hK hI => ?_)
                refine lv_iload hx hb dL_wages_357 (lv_at hl 2 rfl) ?_
                refine lv_if_eq (tgt := 370) hx hb dL_wages_359 (by decide) (fun _ => ?_) (fun c => absurd (by decide : (0 : Int32) = 0) c)
                refine lv_sipush (v := (-1003)) hx hb dL_wages_370 (by decide) ?_
                refine lv_icmp_ne (tgt := 380) hx hb dL_wages_373 (by decide) (fun c9 => absurd hok.2 c9) (fun _ => ?_)
                refine lv_iconst (v := 1) hx hb dL_wages_376 (by decide) ?_
                refine lv_goto (tgt := 381) hx hb dL_wages_377 (by decide) ?_
                refine W.widen (k := 8) (n := 342) (Nat.le_of_ble_eq_true rfl) (Nat.le_of_ble_eq_true rfl) ?_
                exact W.zret (v := 1) (ty := .boolean) hx hb hr rfl (fun t9 ht9 hW9 => ⟨⟨1, g, rfl, ⟨rfl, by rw [hG]; exact hK⟩, ⟨by rw [hG, ht9]; exact hI.1, by rw [hG, ht9]; exact hI.2.1⟩⟩, hI.2.2.1.F ht9⟩) hI.2.2.1.2.2 dL_wages_381
              · have hB285 : jL_wages_285 L f t = jL_wages_285 L f t := rfl
                refine lv_icmp_gt (tgt := 284) hx hb dL_wages_265 (by decide) (fun c_18 => ?_) (fun c_18 => ?_)
                · have hB285 := hB285.trans (if_pos c_18)
                  refine lv_iconst (v := 0) hx hb dL_wages_284 (by decide) ?_
                  exact J285 0 _ _ ls ⟨hB285, hI, lv_sub hl [0, 1, 2, 3, 4, 5, 6, 7, 8, 9, 10, 11, 12] rfl⟩
                · have hB285 := hB285.trans (if_neg c_18)
                  refine lv_iload hx hb dL_wages_268 (lv_at hl 0 rfl) ?_
                  refine lv_bipush (v := 90) hx hb dL_wages_270 (by decide) ?_
                  refine lv_iadd hx hb dL_wages_272 ?_
                  refine lv_aload hx hb dL_wages_273 (lv_at hl 12 rfl) ?_
                  refine lv_iconst (v := 0) hx hb dL_wages_275 (by decide) ?_
                  refine xr_ld hC hI 11 (by decide) (nx_in (by decide : (0 : Int32) = nI 0) (by decide) (by decide)) (v := (L 11 0)) (congrArg (L 11) (by decide : ix 0 = 0)) dL_wages_276 ?_
                  refine lv_icmp_lt (tgt := 284) hx hb dL_wages_277 (by decide) (fun c_19 => ?_) (fun c_19 => ?_)
                  · have hB285 := hB285.trans (if_pos c_19)
                    refine lv_iconst (v := 0) hx hb dL_wages_284 (by decide) ?_
                    exact J285 0 _ _ ls ⟨hB285, hI, lv_sub hl [0, 1, 2, 3, 4, 5, 6, 7, 8, 9, 10, 11, 12] rfl⟩
                  · have hB285 := hB285.trans (if_neg c_19)
                    refine lv_iconst (v := 1) hx hb dL_wages_280 (by decide) ?_
                    refine lv_goto (tgt := 285) hx hb dL_wages_281 (by decide) ?_
                    exact J285 1 _ _ ls ⟨hB285, hI, lv_sub hl [0, 1, 2, 3, 4, 5, 6, 7, 8, 9, 10, 11, 12] rfl⟩
            · have hG := hG.trans (if_pos c_17)
              refine lv_iconst (v := 1) hx hb dL_wages_237 (by decide) ?_
              refine lv_goto (tgt := 242) hx hb dL_wages_238 (by decide) ?_
              refine lv_istore (lv' := [(11, .int 1), (10, .int (4 * ((5 * (nI f)) + (nI t)))), (8, .int (nI f)), (9, .int (nI t)), (0, .ref x0), (1, .int act), (2, .int zv), (3, .ref (la 4)), (4, .ref (la 6)), (5, .ref (la 9)), (6, .ref (la 10)), (7, .ref (la 11))]) hx hb dL_wages_242 hl (by decide) rfl (fun ls hl => ?_)
              refine lv_iload hx hb dL_wages_244 (lv_at hl 2 rfl) ?_
              refine lv_iload hx hb dL_wages_246 (lv_at hl 3 rfl) ?_
              refine lv_aload hx hb dL_wages_248 (lv_at hl 8 rfl) ?_
              refine lv_aload hx hb dL_wages_250 (lv_at hl 10 rfl) ?_
              refine lv_aload hx hb dL_wages_252 (lv_at hl 11 rfl) ?_
              refine xr_call (As := [.int (nI f), .int (nI t), .ref (la 6), .ref (la 10), .ref (la 11)]) (rest := []) hC hI (qL_knows l D cy la L hV f (by omega) rfl t (by omega) rfl) (va_cwS 5 hts gL_wages_L_knows rfl rfl rfl (by decide +kernel) ⟨Nat.le_of_ble_eq_true rfl, Nat.le_of_ble_eq_true rfl⟩) rfl hl.1 rfl (Nat.le_of_ble_eq_true rfl) dL_wages_254 ⟨Nat.le_of_ble_eq_true rfl, Nat.le_of_ble_eq_true rfl⟩ (fun H locs hI => ?_)
              refine lv_istore (lv' := [(12, .int (fL_knows L f t)), (11, .int 1), (10, .int (4 * ((5 * (nI f)) + (nI t)))), (8, .int (nI f)), (9, .int (nI t)), (0, .ref x0), (1, .int act), (2, .int zv), (3, .ref (la 4)), (4, .ref (la 6)), (5, .ref (la 9)), (6, .ref (la 10)), (7, .ref (la 11))]) hx hb dL_wages_257 hl (by decide) rfl (fun ls hl => ?_)
              refine lv_iload hx hb dL_wages_259 (lv_at hl 0 rfl) ?_
              refine lv_aload hx hb dL_wages_261 (lv_at hl 12 rfl) ?_
              refine lv_iconst (v := 0) hx hb dL_wages_263 (by decide) ?_
              refine xr_ld hC hI 11 (by decide) (nx_in (by decide : (0 : Int32) = nI 0) (by decide) (by decide)) (v := (L 11 0)) (congrArg (L 11) (by decide : ix 0 = 0)) dL_wages_264 ?_
              have hG : fL_wages L act zv f t = bL_wages_285_v3 L f t (jL_wages_285 L f t) := hG
              refine w_join (σ := Int32) 285 (fun y285_0 H locs ls => jL_wages_285 L f t = y285_0 ∧ XI A B D cy g n0 la s S L H locs ∧ lv_has ls 14 [(12, .int (fL_knows L f t)), (11, .int 1), (10, .int (4 * ((5 * (nI f)) + (nI t)))), (8, .int (nI f)), (9, .int (nI t)), (0, .ref x0), (1, .int act), (2, .int zv), (3, .ref (la 4)), (4, .ref (la 6)), (5, .ref (la 9)), (6, .ref (la 10)), (7, .ref (la 11))]) (fun y285_0 => [.int y285_0]) ?_ (fun J285 => ?_)
              · intro y285_0 H locs ls ⟨hy285_0, hI, hl⟩
                rw [hy285_0] at hG
                refine lv_istore (lv' := [(13, .int y285_0), (12, .int (fL_knows L f t)), (11, .int 1), (10, .int (4 * ((5 * (nI f)) + (nI t)))), (8, .int (nI f)), (9, .int (nI t)), (0, .ref x0), (1, .int act), (2, .int zv), (3, .ref (la 4)), (4, .ref (la 6)), (5, .ref (la 9)), (6, .ref (la 10)), (7, .ref (la 11))]) hx hb dL_wages_285 hl (by decide) rfl (fun ls hl => ?_)
                refine lv_iload hx hb dL_wages_287 (lv_at hl 2 rfl) ?_
                refine lv_if_eq (tgt := 346) hx hb dL_wages_289 (by decide) (fun c => absurd c (by decide : ¬ (1 : Int32) = 0)) (fun _ => ?_)
                refine lv_aload_n hx hb dL_wages_292 rfl (lv_at hl 9 rfl) ?_
                refine lv_bipush (v := 8) hx hb dL_wages_293 (by decide) ?_
                refine lv_iload hx hb dL_wages_295 (lv_at hl 5 rfl) ?_
                refine lv_imul hx hb dL_wages_297 ?_
                refine lv_iconst (v := 2) hx hb dL_wages_298 (by decide) ?_
                refine lv_iadd hx hb dL_wages_299 ?_
                refine lv_iconst (v := 0) hx hb dL_wages_300 (by decide) ?_
                refine xr_st hC hK hI 4 (by decide) (show vp_in ((8 * (nI t)) + 2) 40 from nx_in (nx_add (nx_mul (by decide : (8 : Int32) = nI 8) rfl) (by decide : (2 : Int32) = nI 2)) (by omega) (by decide)) (n := (8 * t + 2)) (nx_ix (x := ((8 * (nI t)) + 2)) (nx_add (nx_mul (by decide : (8 : Int32) = nI 8) rfl) (by decide : (2 : Int32) = nI 2)) (by omega)) dL_wages_301 (fun H locs hI => ?_)
                refine lv_aload hx hb dL_wages_302 (lv_at hl 12 rfl) ?_
                refine lv_iload hx hb dL_wages_304 (lv_at hl 3 rfl) ?_
                refine lv_iconst (v := 1) hx hb dL_wages_306 (by decide) ?_
                refine lv_iadd hx hb dL_wages_307 ?_
                refine lv_aload hx hb dL_wages_308 (lv_at hl 13 rfl) ?_
                refine lv_iconst (v := 0) hx hb dL_wages_310 (by decide) ?_
                refine xr_ld hC hI 11 (by decide) (nx_in (by decide : (0 : Int32) = nI 0) (by decide) (by decide)) (v := (L 11 0)) ((congrArg ((up L 4 (8 * t + 2) 0) 11) (by decide : ix 0 = 0)).trans (congrFun (up_ne (by decide)) _)) dL_wages_311 ?_
                refine xr_st hC hK hI 10 (by decide) (show vp_in ((4 * ((5 * (nI f)) + (nI t))) + 1) 60 from nx_in (nx_add (nx_mul (by decide : (4 : Int32) = nI 4) (nx_add (nx_mul (by decide : (5 : Int32) = nI 5) rfl) rfl)) (by decide : (1 : Int32) = nI 1)) (by omega) (by decide)) (n := (4 * (5 * f + t) + 1)) (nx_ix (x := ((4 * ((5 * (nI f)) + (nI t))) + 1)) (nx_add (nx_mul (by decide : (4 : Int32) = nI 4) (nx_add (nx_mul (by decide : (5 : Int32) = nI 5) rfl) rfl)) (by decide : (1 : Int32) = nI 1)) (by omega)) dL_wages_312 (fun H locs hI => ?_)
                refine lv_aload hx hb dL_wages_313 (lv_at hl 12 rfl) ?_
                refine lv_iload hx hb dL_wages_315 (lv_at hl 3 rfl) ?_
                refine lv_iconst (v := 2) hx hb dL_wages_317 (by decide) ?_
                refine lv_iadd hx hb dL_wages_318 ?_
                refine lv_aload_n hx hb dL_wages_319 rfl (lv_at hl 9 rfl) ?_
                refine lv_bipush (v := 8) hx hb dL_wages_320 (by decide) ?_
                refine lv_iload hx hb dL_wages_322 (lv_at hl 5 rfl) ?_
                refine lv_imul hx hb dL_wages_324 ?_
                refine lv_iconst (v := 3) hx hb dL_wages_325 (by decide) ?_
                refine lv_iadd hx hb dL_wages_326 ?_
                refine xr_ld hC hI 4 (by decide) (show vp_in ((8 * (nI t)) + 3) 40 from nx_in (nx_add (nx_mul (by decide : (8 : Int32) = nI 8) rfl) (by decide : (3 : Int32) = nI 3)) (by omega) (by decide)) (v := ((up L 4 (8 * t + 2) 0) 4 (8 * t + 3))) ((congrArg ((up (up L 4 (8 * t + 2) 0) 10 (4 * (5 * f + t) + 1) (L 11 0)) 4) (nx_ix (x := ((8 * (nI t)) + 3)) (nx_add (nx_mul (by decide : (8 : Int32) = nI 8) rfl) (by decide : (3 : Int32) = nI 3)) (by omega))).trans (congrFun (up_ne (by decide)) _)) dL_wages_327 ?_
                refine xr_st hC hK hI 10 (by decide) (show vp_in ((4 * ((5 * (nI f)) + (nI t))) + 2) 60 from nx_in (nx_add (nx_mul (by decide : (4 : Int32) = nI 4) (nx_add (nx_mul (by decide : (5 : Int32) = nI 5) rfl) rfl)) (by decide : (2 : Int32) = nI 2)) (by omega) (by decide)) (n := (4 * (5 * f + t) + 2)) (nx_ix (x := ((4 * ((5 * (nI f)) + (nI t))) + 2)) (nx_add (nx_mul (by decide : (4 : Int32) = nI 4) (nx_add (nx_mul (by decide : (5 : Int32) = nI 5) rfl) rfl)) (by decide : (2 : Int32) = nI 2)) (by omega)) dL_wages_328 (fun H locs hI => ?_)
                refine lv_aload hx hb dL_wages_329 (lv_at hl 12 rfl) ?_
                refine lv_iload hx hb dL_wages_331 (lv_at hl 3 rfl) ?_
                refine lv_iconst (v := 3) hx hb dL_wages_333 (by decide) ?_
                refine lv_iadd hx hb dL_wages_334 ?_
                refine lv_iload hx hb dL_wages_335 (lv_at hl 0 rfl) ?_
                refine lv_if_eq (tgt := 344) hx hb dL_wages_337 (by decide) (fun c_22 => ?_) (fun c_22 => ?_)
                · have hG := hG.trans (if_pos c_22)
                  refine lv_iconst (v := 0) hx hb dL_wages_344 (by decide) ?_
                  refine xr_st hC hK hI 10 (by decide) (show vp_in ((4 * ((5 * (nI f)) + (nI t))) + 3) 60 from nx_in (nx_add (nx_mul (by decide : (4 : Int32) = nI 4) (nx_add (nx_mul (by decide : (5 : Int32) = nI 5) rfl) rfl)) (by decide : (3 : Int32) = nI 3)) (by omega) (by decide)) (n := (4 * (5 * f + t) + 3)) (nx_ix (x := ((4 * ((5 * (nI f)) + (nI t))) + 3)) (nx_add (nx_mul (by decide : (4 : Int32) = nI 4) (nx_add (nx_mul (by decide : (5 : Int32) = nI 5) rfl) rfl)) (by decide : (3 : Int32) = nI 3)) (by omega)) dL_wages_345 (fun H locs hI => ?_)
                  refine lv_aload_n hx hb dL_wages_346 rfl (lv_at hl 6 rfl) ?_
                  refine lv_bipush (v := 10) hx hb dL_wages_347 (by decide) ?_
                  refine lv_iload hx hb dL_wages_349 (lv_at hl 4 rfl) ?_
                  refine lv_iload hx hb dL_wages_351 (lv_at hl 5 rfl) ?_
                  refine lv_iconst (v := 0) hx hb dL_wages_353 (by decide) ?_
                  have hok : ((xq7 S 10 (nI f) (nI t) 0).2.1 = 0 ∨ (xq7 S 10 (nI f) (nI t) 0).2.1 = 3) ∧ (if (xq7 S 10 (nI f) (nI t) 0).2.1 = 0 then (xq7 S 10 (nI f) (nI t) 0).1 else -1003) = (fL_yes y285_0) := XOK.c (by have h9 := hOK; rw [hG] at h9; exact h9) (by decide)
                  refine xr_cs (As := [.ref x0, .int 10, .int (nI f), .int (nI t), .int 0]) (rest := []) 10 (nI f) (nI t) 0 hC hK hI (qC_fire l hC.2.1 A D cy g hK.1 S e0 mi n0 hK.2.2.2.1 hK.v hK.i x0 hK.2.2.2.2.2.2.2 (nI f) (nI t) 0 hok.1) (vx_cwSW 5 hts gL_wages_L_calls rfl rfl rfl (by decide +kernel) ⟨Nat.le_of_ble_eq_true rfl, Nat.le_of_ble_eq_true rfl⟩) rfl hl.1 rfl (Nat.le_of_ble_eq_true rfl) dL_wages_354 ⟨Nat.le_of_ble_eq_true rfl, Nat.le_of_ble_eq_true rfl⟩ (fun g H locs hK hI => ?_)
                  refine lv_iload hx hb dL_wages_357 (lv_at hl 2 rfl) ?_
                  refine lv_if_eq (tgt := 370) hx hb dL_wages_359 (by decide) (fun c => absurd c (by decide : ¬ (1 : Int32) = 0)) (fun _ => ?_)
                  refine lv_iload hx hb dL_wages_362 (lv_at hl 0 rfl) ?_
                  refine xr_callS (As := [.int y285_0]) (rest := [.int (if (xq7 S 10 (nI f) (nI t) 0).2.1 = 0 then (xq7 S 10 (nI f) (nI t) 0).1 else -1003)]) hC hI (qL_yes l y285_0) (va_cwS 1 hts gL_wages_L_yes rfl rfl rfl (by decide +kernel) ⟨Nat.le_of_ble_eq_true rfl, Nat.le_of_ble_eq_true rfl⟩) rfl hl.1 rfl (Nat.le_of_ble_eq_true rfl) dL_wages_364 ⟨Nat.le_of_ble_eq_true rfl, Nat.le_of_ble_eq_true rfl⟩ (fun H locs hI => ?_)
                  refine lv_goto (tgt := 373) hx hb dL_wages_367 (by decide) ?_
                  refine lv_icmp_ne (tgt := 380) hx hb dL_wages_373 (by decide) (fun c9 => absurd hok.2 c9) (fun _ => ?_)
                  refine lv_iconst (v := 1) hx hb dL_wages_376 (by decide) ?_
                  refine lv_goto (tgt := 381) hx hb dL_wages_377 (by decide) ?_
                  refine W.widen (k := 8) (n := 342) (Nat.le_of_ble_eq_true rfl) (Nat.le_of_ble_eq_true rfl) ?_
                  exact W.zret (v := 1) (ty := .boolean) hx hb hr rfl (fun t9 ht9 hW9 => ⟨⟨1, g, rfl, ⟨rfl, by rw [hG]; exact hK⟩, ⟨by rw [hG, ht9]; exact hI.1, by rw [hG, ht9]; exact hI.2.1⟩⟩, hI.2.2.1.F ht9⟩) hI.2.2.1.2.2 dL_wages_381
                · have hG := hG.trans (if_neg c_22)
                  refine lv_iconst (v := 1) hx hb dL_wages_340 (by decide) ?_
                  refine lv_goto (tgt := 345) hx hb dL_wages_341 (by decide) ?_
                  refine xr_st hC hK hI 10 (by decide) (show vp_in ((4 * ((5 * (nI f)) + (nI t))) + 3) 60 from nx_in (nx_add (nx_mul (by decide : (4 : Int32) = nI 4) (nx_add (nx_mul (by decide : (5 : Int32) = nI 5) rfl) rfl)) (by decide : (3 : Int32) = nI 3)) (by omega) (by decide)) (n := (4 * (5 * f + t) + 3)) (nx_ix (x := ((4 * ((5 * (nI f)) + (nI t))) + 3)) (nx_add (nx_mul (by decide : (4 : Int32) = nI 4) (nx_add (nx_mul (by decide : (5 : Int32) = nI 5) rfl) rfl)) (by decide : (3 : Int32) = nI 3)) (by omega)) dL_wages_345 (fun H locs hI => ?_)
                  refine lv_aload_n hx hb dL_wages_346 rfl (lv_at hl 6 rfl) ?_
                  refine lv_bipush (v := 10) hx hb dL_wages_347 (by decide) ?_
                  refine lv_iload hx hb dL_wages_349 (lv_at hl 4 rfl) ?_
                  refine lv_iload hx hb dL_wages_351 (lv_at hl 5 rfl) ?_
                  refine lv_iconst (v := 0) hx hb dL_wages_353 (by decide) ?_
                  have hok : ((xq7 S 10 (nI f) (nI t) 0).2.1 = 0 ∨ (xq7 S 10 (nI f) (nI t) 0).2.1 = 3) ∧ (if (xq7 S 10 (nI f) (nI t) 0).2.1 = 0 then (xq7 S 10 (nI f) (nI t) 0).1 else -1003) = (fL_yes y285_0) := XOK.c (by have h9 := hOK; rw [hG] at h9; exact h9) (by decide)
                  refine xr_cs (As := [.ref x0, .int 10, .int (nI f), .int (nI t), .int 0]) (rest := []) 10 (nI f) (nI t) 0 hC hK hI (qC_fire l hC.2.1 A D cy g hK.1 S e0 mi n0 hK.2.2.2.1 hK.v hK.i x0 hK.2.2.2.2.2.2.2 (nI f) (nI t) 0 hok.1) (vx_cwSW 5 hts gL_wages_L_calls rfl rfl rfl (by decide +kernel) ⟨Nat.le_of_ble_eq_true rfl, Nat.le_of_ble_eq_true rfl⟩) rfl hl.1 rfl (Nat.le_of_ble_eq_true rfl) dL_wages_354 ⟨Nat.le_of_ble_eq_true rfl, Nat.le_of_ble_eq_true rfl⟩ (fun g H locs hK hI => ?_)
                  refine lv_iload hx hb dL_wages_357 (lv_at hl 2 rfl) ?_
                  refine lv_if_eq (tgt := 370) hx hb dL_wages_359 (by decide) (fun c => absurd c (by decide : ¬ (1 : Int32) = 0)) (fun _ => ?_)
                  refine lv_iload hx hb dL_wages_362 (lv_at hl 0 rfl) ?_
                  refine xr_callS (As := [.int y285_0]) (rest := [.int (if (xq7 S 10 (nI f) (nI t) 0).2.1 = 0 then (xq7 S 10 (nI f) (nI t) 0).1 else -1003)]) hC hI (qL_yes l y285_0) (va_cwS 1 hts gL_wages_L_yes rfl rfl rfl (by decide +kernel) ⟨Nat.le_of_ble_eq_true rfl, Nat.le_of_ble_eq_true rfl⟩) rfl hl.1 rfl (Nat.le_of_ble_eq_true rfl) dL_wages_364 ⟨Nat.le_of_ble_eq_true rfl, Nat.le_of_ble_eq_true rfl⟩ (fun H locs hI => ?_)
                  refine lv_goto (tgt := 373) hx hb dL_wages_367 (by decide) ?_
                  refine lv_icmp_ne (tgt := 380) hx hb dL_wages_373 (by decide) (fun c9 => absurd hok.2 c9) (fun _ => ?_)
                  refine lv_iconst (v := 1) hx hb dL_wages_376 (by decide) ?_
                  refine lv_goto (tgt := 381) hx hb dL_wages_377 (by decide) ?_
                  refine W.widen (k := 8) (n := 342) (Nat.le_of_ble_eq_true rfl) (Nat.le_of_ble_eq_true rfl) ?_
                  exact W.zret (v := 1) (ty := .boolean) hx hb hr rfl (fun t9 ht9 hW9 => ⟨⟨1, g, rfl, ⟨rfl, by rw [hG]; exact hK⟩, ⟨by rw [hG, ht9]; exact hI.1, by rw [hG, ht9]; exact hI.2.1⟩⟩, hI.2.2.1.F ht9⟩) hI.2.2.1.2.2 dL_wages_381
              · have hB285 : jL_wages_285 L f t = jL_wages_285 L f t := rfl
                refine lv_icmp_gt (tgt := 284) hx hb dL_wages_265 (by decide) (fun c_20 => ?_) (fun c_20 => ?_)
                · have hB285 := hB285.trans (if_pos c_20)
                  refine lv_iconst (v := 0) hx hb dL_wages_284 (by decide) ?_
                  exact J285 0 _ _ ls ⟨hB285, hI, lv_sub hl [0, 1, 2, 3, 4, 5, 6, 7, 8, 9, 10, 11, 12] rfl⟩
                · have hB285 := hB285.trans (if_neg c_20)
                  refine lv_iload hx hb dL_wages_268 (lv_at hl 0 rfl) ?_
                  refine lv_bipush (v := 90) hx hb dL_wages_270 (by decide) ?_
                  refine lv_iadd hx hb dL_wages_272 ?_
                  refine lv_aload hx hb dL_wages_273 (lv_at hl 12 rfl) ?_
                  refine lv_iconst (v := 0) hx hb dL_wages_275 (by decide) ?_
                  refine xr_ld hC hI 11 (by decide) (nx_in (by decide : (0 : Int32) = nI 0) (by decide) (by decide)) (v := (L 11 0)) (congrArg (L 11) (by decide : ix 0 = 0)) dL_wages_276 ?_
                  refine lv_icmp_lt (tgt := 284) hx hb dL_wages_277 (by decide) (fun c_21 => ?_) (fun c_21 => ?_)
                  · have hB285 := hB285.trans (if_pos c_21)
                    refine lv_iconst (v := 0) hx hb dL_wages_284 (by decide) ?_
                    exact J285 0 _ _ ls ⟨hB285, hI, lv_sub hl [0, 1, 2, 3, 4, 5, 6, 7, 8, 9, 10, 11, 12] rfl⟩
                  · have hB285 := hB285.trans (if_neg c_21)
                    refine lv_iconst (v := 1) hx hb dL_wages_280 (by decide) ?_
                    refine lv_goto (tgt := 285) hx hb dL_wages_281 (by decide) ?_
                    exact J285 1 _ _ ls ⟨hB285, hI, lv_sub hl [0, 1, 2, 3, 4, 5, 6, 7, 8, 9, 10, 11, 12] rfl⟩
          · have hG := hG.trans (if_neg c_16)
            refine lv_aload_n hx hb dL_wages_192 rfl (lv_at hl 6 rfl) ?_
            refine lv_bipush (v := 8) hx hb dL_wages_193 (by decide) ?_
            refine lv_iload hx hb dL_wages_195 (lv_at hl 1 rfl) ?_
            refine lv_imul hx hb dL_wages_197 ?_
            refine lv_iconst (v := 2) hx hb dL_wages_198 (by decide) ?_
            refine lv_iadd hx hb dL_wages_199 ?_
            refine xr_ld hC hI 4 (by decide) (show vp_in ((8 * (nI t)) + 2) 40 from nx_in (nx_add (nx_mul (by decide : (8 : Int32) = nI 8) rfl) (by decide : (2 : Int32) = nI 2)) (by omega) (by decide)) (v := (L 4 (8 * t + 2))) (congrArg (L 4) (nx_ix (x := ((8 * (nI t)) + 2)) (nx_add (nx_mul (by decide : (8 : Int32) = nI 8) rfl) (by decide : (2 : Int32) = nI 2)) (by omega))) dL_wages_200 ?_
            refine lv_iconst (v := 1) hx hb dL_wages_201 (by decide) ?_
            refine lv_isub hx hb dL_wages_202 ?_
            refine lv_goto (tgt := 208) hx hb dL_wages_203 (by decide) ?_
            refine lv_istore (lv' := [(8, .int ((L 4 (8 * t + 2)) - 1)), (10, .int (4 * ((5 * (nI f)) + (nI t)))), (9, .int (nI t)), (0, .ref x0), (1, .int act), (2, .int zv), (3, .ref (la 4)), (4, .ref (la 6)), (5, .ref (la 9)), (6, .ref (la 10)), (7, .ref (la 11))]) hx hb dL_wages_208 hl (by decide) rfl (fun ls hl => ?_)
            refine lv_iconst (v := 4) hx hb dL_wages_210 (by decide) ?_
            refine lv_iconst (v := 5) hx hb dL_wages_211 (by decide) ?_
            refine lv_iload hx hb dL_wages_212 (lv_at hl 0 rfl) ?_
            refine lv_imul hx hb dL_wages_214 ?_
            refine lv_iload hx hb dL_wages_215 (lv_at hl 2 rfl) ?_
            refine lv_iadd hx hb dL_wages_217 ?_
            refine lv_imul hx hb dL_wages_218 ?_
            refine lv_istore (lv' := [(10, .int (4 * ((5 * ((L 4 (8 * t + 2)) - 1)) + (nI t)))), (8, .int ((L 4 (8 * t + 2)) - 1)), (9, .int (nI t)), (0, .ref x0), (1, .int act), (2, .int zv), (3, .ref (la 4)), (4, .ref (la 6)), (5, .ref (la 9)), (6, .ref (la 10)), (7, .ref (la 11))]) hx hb dL_wages_219 hl (by decide) rfl (fun ls hl => ?_)
            refine lv_aload_n hx hb dL_wages_221 rfl (lv_at hl 6 rfl) ?_
            refine lv_bipush (v := 8) hx hb dL_wages_222 (by decide) ?_
            refine lv_iload hx hb dL_wages_224 (lv_at hl 2 rfl) ?_
            refine lv_imul hx hb dL_wages_226 ?_
            refine lv_iconst (v := 2) hx hb dL_wages_227 (by decide) ?_
            refine lv_iadd hx hb dL_wages_228 ?_
            refine xr_ld hC hI 4 (by decide) (show vp_in ((8 * (nI t)) + 2) 40 from nx_in (nx_add (nx_mul (by decide : (8 : Int32) = nI 8) rfl) (by decide : (2 : Int32) = nI 2)) (by omega) (by decide)) (v := (L 4 (8 * t + 2))) (congrArg (L 4) (nx_ix (x := ((8 * (nI t)) + 2)) (nx_add (nx_mul (by decide : (8 : Int32) = nI 8) rfl) (by decide : (2 : Int32) = nI 2)) (by omega))) dL_wages_229 ?_
            refine lv_iload hx hb dL_wages_230 (lv_at hl 1 rfl) ?_
            refine lv_iconst (v := 1) hx hb dL_wages_232 (by decide) ?_
            refine lv_iadd hx hb dL_wages_233 ?_
            refine lv_icmp_ne (tgt := 241) hx hb dL_wages_234 (by decide) (fun c_23 => ?_) (fun c_23 => ?_)
            · have hG := hG.trans (if_neg c_23)
              refine lv_iconst (v := 0) hx hb dL_wages_241 (by decide) ?_
              refine lv_istore (lv' := [(11, .int 0), (10, .int (4 * ((5 * ((L 4 (8 * t + 2)) - 1)) + (nI t)))), (8, .int ((L 4 (8 * t + 2)) - 1)), (9, .int (nI t)), (0, .ref x0), (1, .int act), (2, .int zv), (3, .ref (la 4)), (4, .ref (la 6)), (5, .ref (la 9)), (6, .ref (la 10)), (7, .ref (la 11))]) hx hb dL_wages_242 hl (by decide) rfl (fun ls hl => ?_)
              refine lv_iload hx hb dL_wages_244 (lv_at hl 2 rfl) ?_
              refine lv_iload hx hb dL_wages_246 (lv_at hl 3 rfl) ?_
              refine lv_aload hx hb dL_wages_248 (lv_at hl 8 rfl) ?_
              refine lv_aload hx hb dL_wages_250 (lv_at hl 10 rfl) ?_
              refine lv_aload hx hb dL_wages_252 (lv_at hl 11 rfl) ?_
              refine xr_call (As := [.int ((L 4 (8 * t + 2)) - 1), .int (nI t), .ref (la 6), .ref (la 10), .ref (la 11)]) (rest := []) hC hI (qL_knows l D cy la L hV (ix (L 4 (8 * t + 2)) - 1) (by have h90 := emp_l hem (by assumption); omega) (emp_e hem (by assumption)) t (by omega) rfl) (va_cwS 5 hts gL_wages_L_knows rfl rfl rfl (by decide +kernel) ⟨Nat.le_of_ble_eq_true rfl, Nat.le_of_ble_eq_true rfl⟩) rfl hl.1 rfl (Nat.le_of_ble_eq_true rfl) dL_wages_254 ⟨Nat.le_of_ble_eq_true rfl, Nat.le_of_ble_eq_true rfl⟩ (fun H locs hI => ?_)
              refine lv_istore (lv' := [(12, .int (fL_knows L (ix (L 4 (8 * t + 2)) - 1) t)), (11, .int 0), (10, .int (4 * ((5 * ((L 4 (8 * t + 2)) - 1)) + (nI t)))), (8, .int ((L 4 (8 * t + 2)) - 1)), (9, .int (nI t)), (0, .ref x0), (1, .int act), (2, .int zv), (3, .ref (la 4)), (4, .ref (la 6)), (5, .ref (la 9)), (6, .ref (la 10)), (7, .ref (la 11))]) hx hb dL_wages_257 hl (by decide) rfl (fun ls hl => ?_)
              refine lv_iload hx hb dL_wages_259 (lv_at hl 0 rfl) ?_
              refine lv_aload hx hb dL_wages_261 (lv_at hl 12 rfl) ?_
              refine lv_iconst (v := 0) hx hb dL_wages_263 (by decide) ?_
              refine xr_ld hC hI 11 (by decide) (nx_in (by decide : (0 : Int32) = nI 0) (by decide) (by decide)) (v := (L 11 0)) (congrArg (L 11) (by decide : ix 0 = 0)) dL_wages_264 ?_
              have hG : fL_wages L act zv f t = bL_wages_285_v4 L t (jL_wages_285_v2 L t) := hG
              refine w_join (σ := Int32) 285 (fun y285_0 H locs ls => jL_wages_285_v2 L t = y285_0 ∧ XI A B D cy g n0 la s S L H locs ∧ lv_has ls 14 [(12, .int (fL_knows L (ix (L 4 (8 * t + 2)) - 1) t)), (11, .int 0), (10, .int (4 * ((5 * ((L 4 (8 * t + 2)) - 1)) + (nI t)))), (8, .int ((L 4 (8 * t + 2)) - 1)), (9, .int (nI t)), (0, .ref x0), (1, .int act), (2, .int zv), (3, .ref (la 4)), (4, .ref (la 6)), (5, .ref (la 9)), (6, .ref (la 10)), (7, .ref (la 11))]) (fun y285_0 => [.int y285_0]) ?_ (fun J285 => ?_)
              · intro y285_0 H locs ls ⟨hy285_0, hI, hl⟩
                rw [hy285_0] at hG
                refine lv_istore (lv' := [(13, .int y285_0), (12, .int (fL_knows L (ix (L 4 (8 * t + 2)) - 1) t)), (11, .int 0), (10, .int (4 * ((5 * ((L 4 (8 * t + 2)) - 1)) + (nI t)))), (8, .int ((L 4 (8 * t + 2)) - 1)), (9, .int (nI t)), (0, .ref x0), (1, .int act), (2, .int zv), (3, .ref (la 4)), (4, .ref (la 6)), (5, .ref (la 9)), (6, .ref (la 10)), (7, .ref (la 11))]) hx hb dL_wages_285 hl (by decide) rfl (fun ls hl => ?_)
                refine lv_iload hx hb dL_wages_287 (lv_at hl 2 rfl) ?_
                refine lv_if_eq (tgt := 346) hx hb dL_wages_289 (by decide) (fun _ => ?_) (fun c => absurd (by decide : (0 : Int32) = 0) c)
                refine lv_aload_n hx hb dL_wages_346 rfl (lv_at hl 6 rfl) ?_
                refine lv_bipush (v := 10) hx hb dL_wages_347 (by decide) ?_
                refine lv_iload hx hb dL_wages_349 (lv_at hl 4 rfl) ?_
                refine lv_iload hx hb dL_wages_351 (lv_at hl 5 rfl) ?_
                refine lv_iconst (v := 0) hx hb dL_wages_353 (by decide) ?_
                have hok : ((xq7 S 10 ((L 4 (8 * t + 2)) - 1) (nI t) 0).2.1 = 0 ∨ (xq7 S 10 ((L 4 (8 * t + 2)) - 1) (nI t) 0).2.1 = 3) ∧ (if (xq7 S 10 ((L 4 (8 * t + 2)) - 1) (nI t) 0).2.1 = 0 then (xq7 S 10 ((L 4 (8 * t + 2)) - 1) (nI t) 0).1 else -1003) = (-1003) := XOK.c (by have h9 := hOK; rw [hG] at h9; exact h9) (by decide)
                refine xr_cs (As := [.ref x0, .int 10, .int ((L 4 (8 * t + 2)) - 1), .int (nI t), .int 0]) (rest := []) 10 ((L 4 (8 * t + 2)) - 1) (nI t) 0 hC hK hI (qC_fire l hC.2.1 A D cy g hK.1 S e0 mi n0 hK.2.2.2.1 hK.v hK.i x0 hK.2.2.2.2.2.2.2 ((L 4 (8 * t + 2)) - 1) (nI t) 0 hok.1) (vx_cwSW 5 hts gL_wages_L_calls rfl rfl rfl (by decide +kernel) ⟨Nat.le_of_ble_eq_true rfl, Nat.le_of_ble_eq_true rfl⟩) rfl hl.1 rfl (Nat.le_of_ble_eq_true rfl) dL_wages_354 ⟨Nat.le_of_ble_eq_true rfl, Nat.le_of_ble_eq_true rfl⟩ (fun g H locs hK hI => ?_)
                refine lv_iload hx hb dL_wages_357 (lv_at hl 2 rfl) ?_
                refine lv_if_eq (tgt := 370) hx hb dL_wages_359 (by decide) (fun _ => ?_) (fun c => absurd (by decide : (0 : Int32) = 0) c)
                refine lv_sipush (v := (-1003)) hx hb dL_wages_370 (by decide) ?_
                refine lv_icmp_ne (tgt := 380) hx hb dL_wages_373 (by decide) (fun c9 => absurd hok.2 c9) (fun _ => ?_)
                refine lv_iconst (v := 1) hx hb dL_wages_376 (by decide) ?_
                refine lv_goto (tgt := 381) hx hb dL_wages_377 (by decide) ?_
                refine W.widen (k := 8) (n := 342) (Nat.le_of_ble_eq_true rfl) (Nat.le_of_ble_eq_true rfl) ?_
                exact W.zret (v := 1) (ty := .boolean) hx hb hr rfl (fun t9 ht9 hW9 => ⟨⟨1, g, rfl, ⟨rfl, by rw [hG]; exact hK⟩, ⟨by rw [hG, ht9]; exact hI.1, by rw [hG, ht9]; exact hI.2.1⟩⟩, hI.2.2.1.F ht9⟩) hI.2.2.1.2.2 dL_wages_381
              · have hB285 : jL_wages_285_v2 L t = jL_wages_285_v2 L t := rfl
                refine lv_icmp_gt (tgt := 284) hx hb dL_wages_265 (by decide) (fun c_24 => ?_) (fun c_24 => ?_)
                · have hB285 := hB285.trans (if_pos c_24)
                  refine lv_iconst (v := 0) hx hb dL_wages_284 (by decide) ?_
                  exact J285 0 _ _ ls ⟨hB285, hI, lv_sub hl [0, 1, 2, 3, 4, 5, 6, 7, 8, 9, 10, 11, 12] rfl⟩
                · have hB285 := hB285.trans (if_neg c_24)
                  refine lv_iload hx hb dL_wages_268 (lv_at hl 0 rfl) ?_
                  refine lv_bipush (v := 90) hx hb dL_wages_270 (by decide) ?_
                  refine lv_iadd hx hb dL_wages_272 ?_
                  refine lv_aload hx hb dL_wages_273 (lv_at hl 12 rfl) ?_
                  refine lv_iconst (v := 0) hx hb dL_wages_275 (by decide) ?_
                  refine xr_ld hC hI 11 (by decide) (nx_in (by decide : (0 : Int32) = nI 0) (by decide) (by decide)) (v := (L 11 0)) (congrArg (L 11) (by decide : ix 0 = 0)) dL_wages_276 ?_
                  refine lv_icmp_lt (tgt := 284) hx hb dL_wages_277 (by decide) (fun c_25 => ?_) (fun c_25 => ?_)
                  · have hB285 := hB285.trans (if_pos c_25)
                    refine lv_iconst (v := 0) hx hb dL_wages_284 (by decide) ?_
                    exact J285 0 _ _ ls ⟨hB285, hI, lv_sub hl [0, 1, 2, 3, 4, 5, 6, 7, 8, 9, 10, 11, 12] rfl⟩
                  · have hB285 := hB285.trans (if_neg c_25)
                    refine lv_iconst (v := 1) hx hb dL_wages_280 (by decide) ?_
                    refine lv_goto (tgt := 285) hx hb dL_wages_281 (by decide) ?_
                    exact J285 1 _ _ ls ⟨hB285, hI, lv_sub hl [0, 1, 2, 3, 4, 5, 6, 7, 8, 9, 10, 11, 12] rfl⟩
            · have hG := hG.trans (if_pos c_23)
              refine lv_iconst (v := 1) hx hb dL_wages_237 (by decide) ?_
              refine lv_goto (tgt := 242) hx hb dL_wages_238 (by decide) ?_
              refine lv_istore (lv' := [(11, .int 1), (10, .int (4 * ((5 * ((L 4 (8 * t + 2)) - 1)) + (nI t)))), (8, .int ((L 4 (8 * t + 2)) - 1)), (9, .int (nI t)), (0, .ref x0), (1, .int act), (2, .int zv), (3, .ref (la 4)), (4, .ref (la 6)), (5, .ref (la 9)), (6, .ref (la 10)), (7, .ref (la 11))]) hx hb dL_wages_242 hl (by decide) rfl (fun ls hl => ?_)
              refine lv_iload hx hb dL_wages_244 (lv_at hl 2 rfl) ?_
              refine lv_iload hx hb dL_wages_246 (lv_at hl 3 rfl) ?_
              refine lv_aload hx hb dL_wages_248 (lv_at hl 8 rfl) ?_
              refine lv_aload hx hb dL_wages_250 (lv_at hl 10 rfl) ?_
              refine lv_aload hx hb dL_wages_252 (lv_at hl 11 rfl) ?_
              refine xr_call (As := [.int ((L 4 (8 * t + 2)) - 1), .int (nI t), .ref (la 6), .ref (la 10), .ref (la 11)]) (rest := []) hC hI (qL_knows l D cy la L hV (ix (L 4 (8 * t + 2)) - 1) (by have h90 := emp_l hem (by assumption); omega) (emp_e hem (by assumption)) t (by omega) rfl) (va_cwS 5 hts gL_wages_L_knows rfl rfl rfl (by decide +kernel) ⟨Nat.le_of_ble_eq_true rfl, Nat.le_of_ble_eq_true rfl⟩) rfl hl.1 rfl (Nat.le_of_ble_eq_true rfl) dL_wages_254 ⟨Nat.le_of_ble_eq_true rfl, Nat.le_of_ble_eq_true rfl⟩ (fun H locs hI => ?_)
              refine lv_istore (lv' := [(12, .int (fL_knows L (ix (L 4 (8 * t + 2)) - 1) t)), (11, .int 1), (10, .int (4 * ((5 * ((L 4 (8 * t + 2)) - 1)) + (nI t)))), (8, .int ((L 4 (8 * t + 2)) - 1)), (9, .int (nI t)), (0, .ref x0), (1, .int act), (2, .int zv), (3, .ref (la 4)), (4, .ref (la 6)), (5, .ref (la 9)), (6, .ref (la 10)), (7, .ref (la 11))]) hx hb dL_wages_257 hl (by decide) rfl (fun ls hl => ?_)
              refine lv_iload hx hb dL_wages_259 (lv_at hl 0 rfl) ?_
              refine lv_aload hx hb dL_wages_261 (lv_at hl 12 rfl) ?_
              refine lv_iconst (v := 0) hx hb dL_wages_263 (by decide) ?_
              refine xr_ld hC hI 11 (by decide) (nx_in (by decide : (0 : Int32) = nI 0) (by decide) (by decide)) (v := (L 11 0)) (congrArg (L 11) (by decide : ix 0 = 0)) dL_wages_264 ?_
              have hG : fL_wages L act zv f t = bL_wages_285_v5 L t (jL_wages_285_v3 L t) := hG
              refine w_join (σ := Int32) 285 (fun y285_0 H locs ls => jL_wages_285_v3 L t = y285_0 ∧ XI A B D cy g n0 la s S L H locs ∧ lv_has ls 14 [(12, .int (fL_knows L (ix (L 4 (8 * t + 2)) - 1) t)), (11, .int 1), (10, .int (4 * ((5 * ((L 4 (8 * t + 2)) - 1)) + (nI t)))), (8, .int ((L 4 (8 * t + 2)) - 1)), (9, .int (nI t)), (0, .ref x0), (1, .int act), (2, .int zv), (3, .ref (la 4)), (4, .ref (la 6)), (5, .ref (la 9)), (6, .ref (la 10)), (7, .ref (la 11))]) (fun y285_0 => [.int y285_0]) ?_ (fun J285 => ?_)
              · intro y285_0 H locs ls ⟨hy285_0, hI, hl⟩
                rw [hy285_0] at hG
                refine lv_istore (lv' := [(13, .int y285_0), (12, .int (fL_knows L (ix (L 4 (8 * t + 2)) - 1) t)), (11, .int 1), (10, .int (4 * ((5 * ((L 4 (8 * t + 2)) - 1)) + (nI t)))), (8, .int ((L 4 (8 * t + 2)) - 1)), (9, .int (nI t)), (0, .ref x0), (1, .int act), (2, .int zv), (3, .ref (la 4)), (4, .ref (la 6)), (5, .ref (la 9)), (6, .ref (la 10)), (7, .ref (la 11))]) hx hb dL_wages_285 hl (by decide) rfl (fun ls hl => ?_)
                refine lv_iload hx hb dL_wages_287 (lv_at hl 2 rfl) ?_
                refine lv_if_eq (tgt := 346) hx hb dL_wages_289 (by decide) (fun c => absurd c (by decide : ¬ (1 : Int32) = 0)) (fun _ => ?_)
                refine lv_aload_n hx hb dL_wages_292 rfl (lv_at hl 9 rfl) ?_
                refine lv_bipush (v := 8) hx hb dL_wages_293 (by decide) ?_
                refine lv_iload hx hb dL_wages_295 (lv_at hl 5 rfl) ?_
                refine lv_imul hx hb dL_wages_297 ?_
                refine lv_iconst (v := 2) hx hb dL_wages_298 (by decide) ?_
                refine lv_iadd hx hb dL_wages_299 ?_
                refine lv_iconst (v := 0) hx hb dL_wages_300 (by decide) ?_
                refine xr_st hC hK hI 4 (by decide) (show vp_in ((8 * (nI t)) + 2) 40 from nx_in (nx_add (nx_mul (by decide : (8 : Int32) = nI 8) rfl) (by decide : (2 : Int32) = nI 2)) (by omega) (by decide)) (n := (8 * t + 2)) (nx_ix (x := ((8 * (nI t)) + 2)) (nx_add (nx_mul (by decide : (8 : Int32) = nI 8) rfl) (by decide : (2 : Int32) = nI 2)) (by omega)) dL_wages_301 (fun H locs hI => ?_)
                refine lv_aload hx hb dL_wages_302 (lv_at hl 12 rfl) ?_
                refine lv_iload hx hb dL_wages_304 (lv_at hl 3 rfl) ?_
                refine lv_iconst (v := 1) hx hb dL_wages_306 (by decide) ?_
                refine lv_iadd hx hb dL_wages_307 ?_
                refine lv_aload hx hb dL_wages_308 (lv_at hl 13 rfl) ?_
                refine lv_iconst (v := 0) hx hb dL_wages_310 (by decide) ?_
                refine xr_ld hC hI 11 (by decide) (nx_in (by decide : (0 : Int32) = nI 0) (by decide) (by decide)) (v := (L 11 0)) ((congrArg ((up L 4 (8 * t + 2) 0) 11) (by decide : ix 0 = 0)).trans (congrFun (up_ne (by decide)) _)) dL_wages_311 ?_
                refine xr_st hC hK hI 10 (by decide) (show vp_in ((4 * ((5 * ((L 4 (8 * t + 2)) - 1)) + (nI t))) + 1) 60 from nx_in (nx_add (nx_mul (by decide : (4 : Int32) = nI 4) (nx_add (nx_mul (by decide : (5 : Int32) = nI 5) (emp_e hem (by assumption))) rfl)) (by decide : (1 : Int32) = nI 1)) (by have h90 := emp_l hem (by assumption); omega) (by decide)) (n := (4 * (5 * ((ix (L 4 (8 * t + 2)) - 1)) + t) + 1)) (nx_ix (x := ((4 * ((5 * ((L 4 (8 * t + 2)) - 1)) + (nI t))) + 1)) (nx_add (nx_mul (by decide : (4 : Int32) = nI 4) (nx_add (nx_mul (by decide : (5 : Int32) = nI 5) (emp_e hem (by assumption))) rfl)) (by decide : (1 : Int32) = nI 1)) (by have h90 := emp_l hem (by assumption); omega)) dL_wages_312 (fun H locs hI => ?_)
                refine lv_aload hx hb dL_wages_313 (lv_at hl 12 rfl) ?_
                refine lv_iload hx hb dL_wages_315 (lv_at hl 3 rfl) ?_
                refine lv_iconst (v := 2) hx hb dL_wages_317 (by decide) ?_
                refine lv_iadd hx hb dL_wages_318 ?_
                refine lv_aload_n hx hb dL_wages_319 rfl (lv_at hl 9 rfl) ?_
                refine lv_bipush (v := 8) hx hb dL_wages_320 (by decide) ?_
                refine lv_iload hx hb dL_wages_322 (lv_at hl 5 rfl) ?_
                refine lv_imul hx hb dL_wages_324 ?_
                refine lv_iconst (v := 3) hx hb dL_wages_325 (by decide) ?_
                refine lv_iadd hx hb dL_wages_326 ?_
                refine xr_ld hC hI 4 (by decide) (show vp_in ((8 * (nI t)) + 3) 40 from nx_in (nx_add (nx_mul (by decide : (8 : Int32) = nI 8) rfl) (by decide : (3 : Int32) = nI 3)) (by omega) (by decide)) (v := ((up L 4 (8 * t + 2) 0) 4 (8 * t + 3))) ((congrArg ((up (up L 4 (8 * t + 2) 0) 10 (4 * (5 * ((ix (L 4 (8 * t + 2)) - 1)) + t) + 1) (L 11 0)) 4) (nx_ix (x := ((8 * (nI t)) + 3)) (nx_add (nx_mul (by decide : (8 : Int32) = nI 8) rfl) (by decide : (3 : Int32) = nI 3)) (by omega))).trans (congrFun (up_ne (by decide)) _)) dL_wages_327 ?_
                refine xr_st hC hK hI 10 (by decide) (show vp_in ((4 * ((5 * ((L 4 (8 * t + 2)) - 1)) + (nI t))) + 2) 60 from nx_in (nx_add (nx_mul (by decide : (4 : Int32) = nI 4) (nx_add (nx_mul (by decide : (5 : Int32) = nI 5) (emp_e hem (by assumption))) rfl)) (by decide : (2 : Int32) = nI 2)) (by have h90 := emp_l hem (by assumption); omega) (by decide)) (n := (4 * (5 * ((ix (L 4 (8 * t + 2)) - 1)) + t) + 2)) (nx_ix (x := ((4 * ((5 * ((L 4 (8 * t + 2)) - 1)) + (nI t))) + 2)) (nx_add (nx_mul (by decide : (4 : Int32) = nI 4) (nx_add (nx_mul (by decide : (5 : Int32) = nI 5) (emp_e hem (by assumption))) rfl)) (by decide : (2 : Int32) = nI 2)) (by have h90 := emp_l hem (by assumption); omega)) dL_wages_328 (fun H locs hI => ?_)
                refine lv_aload hx hb dL_wages_329 (lv_at hl 12 rfl) ?_
                refine lv_iload hx hb dL_wages_331 (lv_at hl 3 rfl) ?_
                refine lv_iconst (v := 3) hx hb dL_wages_333 (by decide) ?_
                refine lv_iadd hx hb dL_wages_334 ?_
                refine lv_iload hx hb dL_wages_335 (lv_at hl 0 rfl) ?_
                refine lv_if_eq (tgt := 344) hx hb dL_wages_337 (by decide) (fun c_28 => ?_) (fun c_28 => ?_)
                · have hG := hG.trans (if_pos c_28)
                  refine lv_iconst (v := 0) hx hb dL_wages_344 (by decide) ?_
                  refine xr_st hC hK hI 10 (by decide) (show vp_in ((4 * ((5 * ((L 4 (8 * t + 2)) - 1)) + (nI t))) + 3) 60 from nx_in (nx_add (nx_mul (by decide : (4 : Int32) = nI 4) (nx_add (nx_mul (by decide : (5 : Int32) = nI 5) (emp_e hem (by assumption))) rfl)) (by decide : (3 : Int32) = nI 3)) (by have h90 := emp_l hem (by assumption); omega) (by decide)) (n := (4 * (5 * ((ix (L 4 (8 * t + 2)) - 1)) + t) + 3)) (nx_ix (x := ((4 * ((5 * ((L 4 (8 * t + 2)) - 1)) + (nI t))) + 3)) (nx_add (nx_mul (by decide : (4 : Int32) = nI 4) (nx_add (nx_mul (by decide : (5 : Int32) = nI 5) (emp_e hem (by assumption))) rfl)) (by decide : (3 : Int32) = nI 3)) (by have h90 := emp_l hem (by assumption); omega)) dL_wages_345 (fun H locs hI => ?_)
                  refine lv_aload_n hx hb dL_wages_346 rfl (lv_at hl 6 rfl) ?_
                  refine lv_bipush (v := 10) hx hb dL_wages_347 (by decide) ?_
                  refine lv_iload hx hb dL_wages_349 (lv_at hl 4 rfl) ?_
                  refine lv_iload hx hb dL_wages_351 (lv_at hl 5 rfl) ?_
                  refine lv_iconst (v := 0) hx hb dL_wages_353 (by decide) ?_
                  have hok : ((xq7 S 10 ((L 4 (8 * t + 2)) - 1) (nI t) 0).2.1 = 0 ∨ (xq7 S 10 ((L 4 (8 * t + 2)) - 1) (nI t) 0).2.1 = 3) ∧ (if (xq7 S 10 ((L 4 (8 * t + 2)) - 1) (nI t) 0).2.1 = 0 then (xq7 S 10 ((L 4 (8 * t + 2)) - 1) (nI t) 0).1 else -1003) = (fL_yes y285_0) := XOK.c (by have h9 := hOK; rw [hG] at h9; exact h9) (by decide)
                  refine xr_cs (As := [.ref x0, .int 10, .int ((L 4 (8 * t + 2)) - 1), .int (nI t), .int 0]) (rest := []) 10 ((L 4 (8 * t + 2)) - 1) (nI t) 0 hC hK hI (qC_fire l hC.2.1 A D cy g hK.1 S e0 mi n0 hK.2.2.2.1 hK.v hK.i x0 hK.2.2.2.2.2.2.2 ((L 4 (8 * t + 2)) - 1) (nI t) 0 hok.1) (vx_cwSW 5 hts gL_wages_L_calls rfl rfl rfl (by decide +kernel) ⟨Nat.le_of_ble_eq_true rfl, Nat.le_of_ble_eq_true rfl⟩) rfl hl.1 rfl (Nat.le_of_ble_eq_true rfl) dL_wages_354 ⟨Nat.le_of_ble_eq_true rfl, Nat.le_of_ble_eq_true rfl⟩ (fun g H locs hK hI => ?_)
                  refine lv_iload hx hb dL_wages_357 (lv_at hl 2 rfl) ?_
                  refine lv_if_eq (tgt := 370) hx hb dL_wages_359 (by decide) (fun c => absurd c (by decide : ¬ (1 : Int32) = 0)) (fun _ => ?_)
                  refine lv_iload hx hb dL_wages_362 (lv_at hl 0 rfl) ?_
                  refine xr_callS (As := [.int y285_0]) (rest := [.int (if (xq7 S 10 ((L 4 (8 * t + 2)) - 1) (nI t) 0).2.1 = 0 then (xq7 S 10 ((L 4 (8 * t + 2)) - 1) (nI t) 0).1 else -1003)]) hC hI (qL_yes l y285_0) (va_cwS 1 hts gL_wages_L_yes rfl rfl rfl (by decide +kernel) ⟨Nat.le_of_ble_eq_true rfl, Nat.le_of_ble_eq_true rfl⟩) rfl hl.1 rfl (Nat.le_of_ble_eq_true rfl) dL_wages_364 ⟨Nat.le_of_ble_eq_true rfl, Nat.le_of_ble_eq_true rfl⟩ (fun H locs hI => ?_)
                  refine lv_goto (tgt := 373) hx hb dL_wages_367 (by decide) ?_
                  refine lv_icmp_ne (tgt := 380) hx hb dL_wages_373 (by decide) (fun c9 => absurd hok.2 c9) (fun _ => ?_)
                  refine lv_iconst (v := 1) hx hb dL_wages_376 (by decide) ?_
                  refine lv_goto (tgt := 381) hx hb dL_wages_377 (by decide) ?_
                  refine W.widen (k := 8) (n := 342) (Nat.le_of_ble_eq_true rfl) (Nat.le_of_ble_eq_true rfl) ?_
                  exact W.zret (v := 1) (ty := .boolean) hx hb hr rfl (fun t9 ht9 hW9 => ⟨⟨1, g, rfl, ⟨rfl, by rw [hG]; exact hK⟩, ⟨by rw [hG, ht9]; exact hI.1, by rw [hG, ht9]; exact hI.2.1⟩⟩, hI.2.2.1.F ht9⟩) hI.2.2.1.2.2 dL_wages_381
                · have hG := hG.trans (if_neg c_28)
                  refine lv_iconst (v := 1) hx hb dL_wages_340 (by decide) ?_
                  refine lv_goto (tgt := 345) hx hb dL_wages_341 (by decide) ?_
                  refine xr_st hC hK hI 10 (by decide) (show vp_in ((4 * ((5 * ((L 4 (8 * t + 2)) - 1)) + (nI t))) + 3) 60 from nx_in (nx_add (nx_mul (by decide : (4 : Int32) = nI 4) (nx_add (nx_mul (by decide : (5 : Int32) = nI 5) (emp_e hem (by assumption))) rfl)) (by decide : (3 : Int32) = nI 3)) (by have h90 := emp_l hem (by assumption); omega) (by decide)) (n := (4 * (5 * ((ix (L 4 (8 * t + 2)) - 1)) + t) + 3)) (nx_ix (x := ((4 * ((5 * ((L 4 (8 * t + 2)) - 1)) + (nI t))) + 3)) (nx_add (nx_mul (by decide : (4 : Int32) = nI 4) (nx_add (nx_mul (by decide : (5 : Int32) = nI 5) (emp_e hem (by assumption))) rfl)) (by decide : (3 : Int32) = nI 3)) (by have h90 := emp_l hem (by assumption); omega)) dL_wages_345 (fun H locs hI => ?_)
                  refine lv_aload_n hx hb dL_wages_346 rfl (lv_at hl 6 rfl) ?_
                  refine lv_bipush (v := 10) hx hb dL_wages_347 (by decide) ?_
                  refine lv_iload hx hb dL_wages_349 (lv_at hl 4 rfl) ?_
                  refine lv_iload hx hb dL_wages_351 (lv_at hl 5 rfl) ?_
                  refine lv_iconst (v := 0) hx hb dL_wages_353 (by decide) ?_
                  have hok : ((xq7 S 10 ((L 4 (8 * t + 2)) - 1) (nI t) 0).2.1 = 0 ∨ (xq7 S 10 ((L 4 (8 * t + 2)) - 1) (nI t) 0).2.1 = 3) ∧ (if (xq7 S 10 ((L 4 (8 * t + 2)) - 1) (nI t) 0).2.1 = 0 then (xq7 S 10 ((L 4 (8 * t + 2)) - 1) (nI t) 0).1 else -1003) = (fL_yes y285_0) := XOK.c (by have h9 := hOK; rw [hG] at h9; exact h9) (by decide)
                  refine xr_cs (As := [.ref x0, .int 10, .int ((L 4 (8 * t + 2)) - 1), .int (nI t), .int 0]) (rest := []) 10 ((L 4 (8 * t + 2)) - 1) (nI t) 0 hC hK hI (qC_fire l hC.2.1 A D cy g hK.1 S e0 mi n0 hK.2.2.2.1 hK.v hK.i x0 hK.2.2.2.2.2.2.2 ((L 4 (8 * t + 2)) - 1) (nI t) 0 hok.1) (vx_cwSW 5 hts gL_wages_L_calls rfl rfl rfl (by decide +kernel) ⟨Nat.le_of_ble_eq_true rfl, Nat.le_of_ble_eq_true rfl⟩) rfl hl.1 rfl (Nat.le_of_ble_eq_true rfl) dL_wages_354 ⟨Nat.le_of_ble_eq_true rfl, Nat.le_of_ble_eq_true rfl⟩ (fun g H locs hK hI => ?_)
                  refine lv_iload hx hb dL_wages_357 (lv_at hl 2 rfl) ?_
                  refine lv_if_eq (tgt := 370) hx hb dL_wages_359 (by decide) (fun c => absurd c (by decide : ¬ (1 : Int32) = 0)) (fun _ => ?_)
                  refine lv_iload hx hb dL_wages_362 (lv_at hl 0 rfl) ?_
                  refine xr_callS (As := [.int y285_0]) (rest := [.int (if (xq7 S 10 ((L 4 (8 * t + 2)) - 1) (nI t) 0).2.1 = 0 then (xq7 S 10 ((L 4 (8 * t + 2)) - 1) (nI t) 0).1 else -1003)]) hC hI (qL_yes l y285_0) (va_cwS 1 hts gL_wages_L_yes rfl rfl rfl (by decide +kernel) ⟨Nat.le_of_ble_eq_true rfl, Nat.le_of_ble_eq_true rfl⟩) rfl hl.1 rfl (Nat.le_of_ble_eq_true rfl) dL_wages_364 ⟨Nat.le_of_ble_eq_true rfl, Nat.le_of_ble_eq_true rfl⟩ (fun H locs hI => ?_)
                  refine lv_goto (tgt := 373) hx hb dL_wages_367 (by decide) ?_
                  refine lv_icmp_ne (tgt := 380) hx hb dL_wages_373 (by decide) (fun c9 => absurd hok.2 c9) (fun _ => ?_)
                  refine lv_iconst (v := 1) hx hb dL_wages_376 (by decide) ?_
                  refine lv_goto (tgt := 381) hx hb dL_wages_377 (by decide) ?_
                  refine W.widen (k := 8) (n := 342) (Nat.le_of_ble_eq_true rfl) (Nat.le_of_ble_eq_true rfl) ?_
                  exact W.zret (v := 1) (ty := .boolean) hx hb hr rfl (fun t9 ht9 hW9 => ⟨⟨1, g, rfl, ⟨rfl, by rw [hG]; exact hK⟩, ⟨by rw [hG, ht9]; exact hI.1, by rw [hG, ht9]; exact hI.2.1⟩⟩, hI.2.2.1.F ht9⟩) hI.2.2.1.2.2 dL_wages_381
              · have hB285 : jL_wages_285_v3 L t = jL_wages_285_v3 L t := rfl
                refine lv_icmp_gt (tgt := 284) hx hb dL_wages_265 (by decide) (fun c_26 => ?_) (fun c_26 => ?_)
                · have hB285 := hB285.trans (if_pos c_26)
                  refine lv_iconst (v := 0) hx hb dL_wages_284 (by decide) ?_
                  exact J285 0 _ _ ls ⟨hB285, hI, lv_sub hl [0, 1, 2, 3, 4, 5, 6, 7, 8, 9, 10, 11, 12] rfl⟩
                · have hB285 := hB285.trans (if_neg c_26)
                  refine lv_iload hx hb dL_wages_268 (lv_at hl 0 rfl) ?_
                  refine lv_bipush (v := 90) hx hb dL_wages_270 (by decide) ?_
                  refine lv_iadd hx hb dL_wages_272 ?_
                  refine lv_aload hx hb dL_wages_273 (lv_at hl 12 rfl) ?_
                  refine lv_iconst (v := 0) hx hb dL_wages_275 (by decide) ?_
                  refine xr_ld hC hI 11 (by decide) (nx_in (by decide : (0 : Int32) = nI 0) (by decide) (by decide)) (v := (L 11 0)) (congrArg (L 11) (by decide : ix 0 = 0)) dL_wages_276 ?_
                  refine lv_icmp_lt (tgt := 284) hx hb dL_wages_277 (by decide) (fun c_27 => ?_) (fun c_27 => ?_)
                  · have hB285 := hB285.trans (if_pos c_27)
                    refine lv_iconst (v := 0) hx hb dL_wages_284 (by decide) ?_
                    exact J285 0 _ _ ls ⟨hB285, hI, lv_sub hl [0, 1, 2, 3, 4, 5, 6, 7, 8, 9, 10, 11, 12] rfl⟩
                  · have hB285 := hB285.trans (if_neg c_27)
                    refine lv_iconst (v := 1) hx hb dL_wages_280 (by decide) ?_
                    refine lv_goto (tgt := 285) hx hb dL_wages_281 (by decide) ?_
                    exact J285 1 _ _ ls ⟨hB285, hI, lv_sub hl [0, 1, 2, 3, 4, 5, 6, 7, 8, 9, 10, 11, 12] rfl⟩
    · have hG := hG.trans (if_pos c_2)
      refine lv_aload hx hb dL_wages_108 (lv_at hl 9 rfl) ?_
      refine lv_iload hx hb dL_wages_110 (lv_at hl 0 rfl) ?_
      refine lv_aload hx hb dL_wages_112 (lv_at hl 9 rfl) ?_
      refine lv_iload hx hb dL_wages_114 (lv_at hl 0 rfl) ?_
      refine xr_ld hC hI 10 (by decide) (show vp_in (4 * ((5 * (nI f)) + (nI t))) 60 from nx_in (nx_mul (by decide : (4 : Int32) = nI 4) (nx_add (nx_mul (by decide : (5 : Int32) = nI 5) rfl) rfl)) (by omega) (by decide)) (v := (L 10 (4 * (5 * f + t)))) (congrArg (L 10) (nx_ix (x := (4 * ((5 * (nI f)) + (nI t)))) (nx_mul (by decide : (4 : Int32) = nI 4) (nx_add (nx_mul (by decide : (5 : Int32) = nI 5) rfl) rfl)) (by omega))) dL_wages_116 ?_
      refine lv_if_ne (tgt := 129) hx hb dL_wages_117 (by decide) (fun c_29 => ?_) (fun c_29 => ?_)
      · have hG := hG.trans (if_neg c_29)
        refine lv_aload hx hb dL_wages_129 (lv_at hl 9 rfl) ?_
        refine lv_iload hx hb dL_wages_131 (lv_at hl 0 rfl) ?_
        refine xr_ld hC hI 10 (by decide) (show vp_in (4 * ((5 * (nI f)) + (nI t))) 60 from nx_in (nx_mul (by decide : (4 : Int32) = nI 4) (nx_add (nx_mul (by decide : (5 : Int32) = nI 5) rfl) rfl)) (by omega) (by decide)) (v := (L 10 (4 * (5 * f + t)))) (congrArg (L 10) (nx_ix (x := (4 * ((5 * (nI f)) + (nI t)))) (nx_mul (by decide : (4 : Int32) = nI 4) (nx_add (nx_mul (by decide : (5 : Int32) = nI 5) rfl) rfl)) (by omega))) dL_wages_133 ?_
        refine xr_st hC hK hI 10 (by decide) (show vp_in (4 * ((5 * (nI f)) + (nI t))) 60 from nx_in (nx_mul (by decide : (4 : Int32) = nI 4) (nx_add (nx_mul (by decide : (5 : Int32) = nI 5) rfl) rfl)) (by omega) (by decide)) (n := (4 * (5 * f + t))) (nx_ix (x := (4 * ((5 * (nI f)) + (nI t)))) (nx_mul (by decide : (4 : Int32) = nI 4) (nx_add (nx_mul (by decide : (5 : Int32) = nI 5) rfl) rfl)) (by omega)) dL_wages_134 (fun H locs hI => ?_)
        refine lv_aload_n hx hb dL_wages_135 rfl (lv_at hl 3 rfl) ?_
        refine lv_iload hx hb dL_wages_136 (lv_at hl 2 rfl) ?_
        refine lv_iload hx hb dL_wages_138 (lv_at hl 1 rfl) ?_
        have hok : (xq7 S 20 (nI f) (nI t) 0).2.1 = 0 ∧ (xq7 S 20 (nI f) (nI t) 0).1 = (fL_knows (up L 10 (4 * (5 * f + t)) (L 10 (4 * (5 * f + t)))) f t) := XOK.d (by have h9 := hOK; rw [hG] at h9; exact h9) (by decide)
        refine xr_q (As := [.int (nI f), .int (nI t)]) (rest := []) 20 (nI f) (nI t) 0 hC hK hI (qX7_tell l hC.2.1 A D cy g hK.1 S e0 hK.v (nI f) (nI t)) (k7_tell S (nI f) (nI t)) hok.1 (cwV 2 hts gL_wages_X7_tell rfl rfl rfl (by decide +kernel) ⟨Nat.le_of_ble_eq_true rfl, Nat.le_of_ble_eq_true rfl⟩) rfl hl.1 rfl (Nat.le_of_ble_eq_true rfl) dL_wages_140 ⟨Nat.le_of_ble_eq_true rfl, Nat.le_of_ble_eq_true rfl⟩ (fun H locs hK hI => ?_)
        refine lv_iload hx hb dL_wages_143 (lv_at hl 2 rfl) ?_
        refine lv_iload hx hb dL_wages_145 (lv_at hl 1 rfl) ?_
        refine lv_aload hx hb dL_wages_147 (lv_at hl 7 rfl) ?_
        refine lv_aload hx hb dL_wages_149 (lv_at hl 9 rfl) ?_
        refine lv_aload hx hb dL_wages_151 (lv_at hl 10 rfl) ?_
        refine xr_call (As := [.int (nI f), .int (nI t), .ref (la 6), .ref (la 10), .ref (la 11)]) (rest := [.int ((xq7 S 20 (nI f) (nI t) 0).1)]) hC hI (qL_knows l D cy la (up L 10 (4 * (5 * f + t)) (L 10 (4 * (5 * f + t)))) (hV.congr ⟨rfl, rfl, rfl, rfl⟩ rfl rfl rfl rfl) f (by omega) rfl t (by omega) rfl) (va_cwS 5 hts gL_wages_L_knows rfl rfl rfl (by decide +kernel) ⟨Nat.le_of_ble_eq_true rfl, Nat.le_of_ble_eq_true rfl⟩) rfl hl.1 rfl (Nat.le_of_ble_eq_true rfl) dL_wages_153 ⟨Nat.le_of_ble_eq_true rfl, Nat.le_of_ble_eq_true rfl⟩ (fun H locs hI => ?_)
        refine lv_icmp_ne (tgt := 163) hx hb dL_wages_156 (by decide) (fun c9 => absurd hok.2 c9) (fun _ => ?_)
        refine lv_iconst (v := 1) hx hb dL_wages_159 (by decide) ?_
        refine lv_goto (tgt := 164) hx hb dL_wages_160 (by decide) ?_
        refine W.widen (k := 8) (n := 342) (Nat.le_of_ble_eq_true rfl) (Nat.le_of_ble_eq_true rfl) ?_
        exact W.zret (v := 1) (ty := .boolean) hx hb hr rfl (fun t9 ht9 hW9 => ⟨⟨1, g, rfl, ⟨rfl, by rw [hG]; exact hK⟩, ⟨by rw [hG, ht9]; exact hI.1, by rw [hG, ht9]; exact hI.2.1⟩⟩, hI.2.2.1.F ht9⟩) hI.2.2.1.2.2 dL_wages_164
      · have hG := hG.trans (if_pos c_29)
        refine lv_aload hx hb dL_wages_120 (lv_at hl 10 rfl) ?_
        refine lv_iconst (v := 0) hx hb dL_wages_122 (by decide) ?_
        refine xr_ld hC hI 11 (by decide) (nx_in (by decide : (0 : Int32) = nI 0) (by decide) (by decide)) (v := (L 11 0)) (congrArg (L 11) (by decide : ix 0 = 0)) dL_wages_123 ?_
        refine lv_iconst (v := 1) hx hb dL_wages_124 (by decide) ?_
        refine lv_iadd hx hb dL_wages_125 ?_
        refine lv_goto (tgt := 134) hx hb dL_wages_126 (by decide) ?_
        refine xr_st hC hK hI 10 (by decide) (show vp_in (4 * ((5 * (nI f)) + (nI t))) 60 from nx_in (nx_mul (by decide : (4 : Int32) = nI 4) (nx_add (nx_mul (by decide : (5 : Int32) = nI 5) rfl) rfl)) (by omega) (by decide)) (n := (4 * (5 * f + t))) (nx_ix (x := (4 * ((5 * (nI f)) + (nI t)))) (nx_mul (by decide : (4 : Int32) = nI 4) (nx_add (nx_mul (by decide : (5 : Int32) = nI 5) rfl) rfl)) (by omega)) dL_wages_134 (fun H locs hI => ?_)
        refine lv_aload_n hx hb dL_wages_135 rfl (lv_at hl 3 rfl) ?_
        refine lv_iload hx hb dL_wages_136 (lv_at hl 2 rfl) ?_
        refine lv_iload hx hb dL_wages_138 (lv_at hl 1 rfl) ?_
        have hok : (xq7 S 20 (nI f) (nI t) 0).2.1 = 0 ∧ (xq7 S 20 (nI f) (nI t) 0).1 = (fL_knows (up L 10 (4 * (5 * f + t)) ((L 11 0) + 1)) f t) := XOK.d (by have h9 := hOK; rw [hG] at h9; exact h9) (by decide)
        refine xr_q (As := [.int (nI f), .int (nI t)]) (rest := []) 20 (nI f) (nI t) 0 hC hK hI (qX7_tell l hC.2.1 A D cy g hK.1 S e0 hK.v (nI f) (nI t)) (k7_tell S (nI f) (nI t)) hok.1 (cwV 2 hts gL_wages_X7_tell rfl rfl rfl (by decide +kernel) ⟨Nat.le_of_ble_eq_true rfl, Nat.le_of_ble_eq_true rfl⟩) rfl hl.1 rfl (Nat.le_of_ble_eq_true rfl) dL_wages_140 ⟨Nat.le_of_ble_eq_true rfl, Nat.le_of_ble_eq_true rfl⟩ (fun H locs hK hI => ?_)
        refine lv_iload hx hb dL_wages_143 (lv_at hl 2 rfl) ?_
        refine lv_iload hx hb dL_wages_145 (lv_at hl 1 rfl) ?_
        refine lv_aload hx hb dL_wages_147 (lv_at hl 7 rfl) ?_
        refine lv_aload hx hb dL_wages_149 (lv_at hl 9 rfl) ?_
        refine lv_aload hx hb dL_wages_151 (lv_at hl 10 rfl) ?_
        refine xr_call (As := [.int (nI f), .int (nI t), .ref (la 6), .ref (la 10), .ref (la 11)]) (rest := [.int ((xq7 S 20 (nI f) (nI t) 0).1)]) hC hI (qL_knows l D cy la (up L 10 (4 * (5 * f + t)) ((L 11 0) + 1)) (hV.congr ⟨rfl, rfl, rfl, rfl⟩ rfl rfl rfl rfl) f (by omega) rfl t (by omega) rfl) (va_cwS 5 hts gL_wages_L_knows rfl rfl rfl (by decide +kernel) ⟨Nat.le_of_ble_eq_true rfl, Nat.le_of_ble_eq_true rfl⟩) rfl hl.1 rfl (Nat.le_of_ble_eq_true rfl) dL_wages_153 ⟨Nat.le_of_ble_eq_true rfl, Nat.le_of_ble_eq_true rfl⟩ (fun H locs hI => ?_)
        refine lv_icmp_ne (tgt := 163) hx hb dL_wages_156 (by decide) (fun c9 => absurd hok.2 c9) (fun _ => ?_)
        refine lv_iconst (v := 1) hx hb dL_wages_159 (by decide) ?_
        refine lv_goto (tgt := 164) hx hb dL_wages_160 (by decide) ?_
        refine W.widen (k := 8) (n := 342) (Nat.le_of_ble_eq_true rfl) (Nat.le_of_ble_eq_true rfl) ?_
        exact W.zret (v := 1) (ty := .boolean) hx hb hr rfl (fun t9 ht9 hW9 => ⟨⟨1, g, rfl, ⟨rfl, by rw [hG]; exact hK⟩, ⟨by rw [hG, ht9]; exact hI.1, by rw [hG, ht9]; exact hI.2.1⟩⟩, hI.2.2.1.F ht9⟩) hI.2.2.1.2.2 dL_wages_164
  · have hG := hG.trans (if_pos c_1)
    refine lv_aload_n hx hb dL_wages_31 rfl (lv_at hl 6 rfl) ?_
    refine lv_bipush (v := 8) hx hb dL_wages_32 (by decide) ?_
    refine lv_iload hx hb dL_wages_34 (lv_at hl 1 rfl) ?_
    refine lv_imul hx hb dL_wages_36 ?_
    refine lv_iconst (v := 2) hx hb dL_wages_37 (by decide) ?_
    refine lv_iadd hx hb dL_wages_38 ?_
    refine xr_ld hC hI 4 (by decide) (show vp_in ((8 * (nI t)) + 2) 40 from nx_in (nx_add (nx_mul (by decide : (8 : Int32) = nI 8) rfl) (by decide : (2 : Int32) = nI 2)) (by omega) (by decide)) (v := (L 4 (8 * t + 2))) (congrArg (L 4) (nx_ix (x := ((8 * (nI t)) + 2)) (nx_add (nx_mul (by decide : (8 : Int32) = nI 8) rfl) (by decide : (2 : Int32) = nI 2)) (by omega))) dL_wages_39 ?_
    refine lv_iconst (v := 1) hx hb dL_wages_40 (by decide) ?_
    refine lv_isub hx hb dL_wages_41 ?_
    refine lv_istore (lv' := [(11, .int ((L 4 (8 * t + 2)) - 1)), (10, .int (4 * ((5 * (nI f)) + (nI t)))), (9, .int (nI t)), (8, .int (nI f)), (0, .ref x0), (1, .int act), (2, .int zv), (3, .ref (la 4)), (4, .ref (la 6)), (5, .ref (la 9)), (6, .ref (la 10)), (7, .ref (la 11))]) hx hb dL_wages_42 hl (by decide) rfl (fun ls hl => ?_)
    refine lv_aload_n hx hb dL_wages_44 rfl (lv_at hl 7 rfl) ?_
    refine lv_bipush (v := 8) hx hb dL_wages_45 (by decide) ?_
    refine lv_iload hx hb dL_wages_47 (lv_at hl 2 rfl) ?_
    refine lv_imul hx hb dL_wages_49 ?_
    refine lv_iconst (v := 2) hx hb dL_wages_50 (by decide) ?_
    refine lv_iadd hx hb dL_wages_51 ?_
    refine lv_iload hx hb dL_wages_52 (lv_at hl 3 rfl) ?_
    refine lv_iconst (v := 1) hx hb dL_wages_54 (by decide) ?_
    refine lv_iadd hx hb dL_wages_55 ?_
    refine xr_st hC hK hI 4 (by decide) (show vp_in ((8 * (nI t)) + 2) 40 from nx_in (nx_add (nx_mul (by decide : (8 : Int32) = nI 8) rfl) (by decide : (2 : Int32) = nI 2)) (by omega) (by decide)) (n := (8 * t + 2)) (nx_ix (x := ((8 * (nI t)) + 2)) (nx_add (nx_mul (by decide : (8 : Int32) = nI 8) rfl) (by decide : (2 : Int32) = nI 2)) (by omega)) dL_wages_56 (fun H locs hI => ?_)
    refine lv_aload_n hx hb dL_wages_57 rfl (lv_at hl 7 rfl) ?_
    refine lv_bipush (v := 8) hx hb dL_wages_58 (by decide) ?_
    refine lv_iload hx hb dL_wages_60 (lv_at hl 2 rfl) ?_
    refine lv_imul hx hb dL_wages_62 ?_
    refine lv_iconst (v := 3) hx hb dL_wages_63 (by decide) ?_
    refine lv_iadd hx hb dL_wages_64 ?_
    refine lv_iload_n hx hb dL_wages_65 rfl (lv_at hl 6 rfl) ?_
    refine lv_iconst (v := 4) hx hb dL_wages_66 (by decide) ?_
    refine lv_ishr hx hb dL_wages_67 ?_
    refine lv_sipush (v := 1000) hx hb dL_wages_68 (by decide) ?_
    refine xr_callS (As := [.int (zv >>> ((4 : Int32) &&& 31)), .int 1000]) (rest := [.int ((8 * (nI t)) + 3), .ref (la 4)]) hC hI (qL_low l (zv >>> ((4 : Int32) &&& 31)) 1000 (by decide)) (va_cwS 2 hts gL_wages_L_low rfl rfl rfl (by decide +kernel) ⟨Nat.le_of_ble_eq_true rfl, Nat.le_of_ble_eq_true rfl⟩) rfl hl.1 rfl (Nat.le_of_ble_eq_true rfl) dL_wages_71 ⟨Nat.le_of_ble_eq_true rfl, Nat.le_of_ble_eq_true rfl⟩ (fun H locs hI => ?_)
    refine xr_st hC hK hI 4 (by decide) (show vp_in ((8 * (nI t)) + 3) 40 from nx_in (nx_add (nx_mul (by decide : (8 : Int32) = nI 8) rfl) (by decide : (3 : Int32) = nI 3)) (by omega) (by decide)) (n := (8 * t + 3)) (nx_ix (x := ((8 * (nI t)) + 3)) (nx_add (nx_mul (by decide : (8 : Int32) = nI 8) rfl) (by decide : (3 : Int32) = nI 3)) (by omega)) dL_wages_74 (fun H locs hI => ?_)
    refine lv_aload_n hx hb dL_wages_75 rfl (lv_at hl 4 rfl) ?_
    refine lv_iload hx hb dL_wages_76 (lv_at hl 2 rfl) ?_
    refine lv_iload hx hb dL_wages_78 (lv_at hl 3 rfl) ?_
    refine lv_aload_n hx hb dL_wages_80 rfl (lv_at hl 7 rfl) ?_
    refine lv_bipush (v := 8) hx hb dL_wages_81 (by decide) ?_
    refine lv_iload hx hb dL_wages_83 (lv_at hl 2 rfl) ?_
    refine lv_imul hx hb dL_wages_85 ?_
    refine lv_iconst (v := 3) hx hb dL_wages_86 (by decide) ?_
    refine lv_iadd hx hb dL_wages_87 ?_
    refine xr_ld hC hI 4 (by decide) (show vp_in ((8 * (nI t)) + 3) 40 from nx_in (nx_add (nx_mul (by decide : (8 : Int32) = nI 8) rfl) (by decide : (3 : Int32) = nI 3)) (by omega) (by decide)) (v := (fL_low (zv >>> ((4 : Int32) &&& 31)) 1000)) ((congrArg ((up (up L 4 (8 * t + 2) ((nI f) + 1)) 4 (8 * t + 3) (fL_low (zv >>> ((4 : Int32) &&& 31)) 1000)) 4) (nx_ix (x := ((8 * (nI t)) + 3)) (nx_add (nx_mul (by decide : (8 : Int32) = nI 8) rfl) (by decide : (3 : Int32) = nI 3)) (by omega))).trans (up_at _ _ _ _)) dL_wages_88 ?_
    have hok : (xq7 S 19 (nI t) (nI f) (fL_low (zv >>> ((4 : Int32) &&& 31)) 1000)).2.1 = 0 ∧ (xq7 S 19 (nI t) (nI f) (fL_low (zv >>> ((4 : Int32) &&& 31)) 1000)).1 = ((L 4 (8 * t + 2)) - 1) := XOK.d (by have h9 := hOK; rw [hG] at h9; exact h9) (by decide)
    refine xr_q (As := [.int (nI t), .int (nI f), .int (fL_low (zv >>> ((4 : Int32) &&& 31)) 1000)]) (rest := []) 19 (nI t) (nI f) (fL_low (zv >>> ((4 : Int32) &&& 31)) 1000) hC hK hI (qX7_work l hC.2.1 A D cy g hK.1 S e0 hK.v (nI t) (nI f) (fL_low (zv >>> ((4 : Int32) &&& 31)) 1000)) (k7_work S (nI t) (nI f) (fL_low (zv >>> ((4 : Int32) &&& 31)) 1000)) hok.1 (cwV 3 hts gL_wages_X7_work rfl rfl rfl (by decide +kernel) ⟨Nat.le_of_ble_eq_true rfl, Nat.le_of_ble_eq_true rfl⟩) rfl hl.1 rfl (Nat.le_of_ble_eq_true rfl) dL_wages_89 ⟨Nat.le_of_ble_eq_true rfl, Nat.le_of_ble_eq_true rfl⟩ (fun H locs hK hI => ?_)
    refine lv_iload hx hb dL_wages_92 (lv_at hl 0 rfl) ?_
    refine lv_icmp_ne (tgt := 101) hx hb dL_wages_94 (by decide) (fun c9 => absurd hok.2 c9) (fun _ => ?_)
    refine lv_iconst (v := 1) hx hb dL_wages_97 (by decide) ?_
    refine lv_goto (tgt := 102) hx hb dL_wages_98 (by decide) ?_
    refine W.widen (k := 8) (n := 342) (Nat.le_of_ble_eq_true rfl) (Nat.le_of_ble_eq_true rfl) ?_
    exact W.zret (v := 1) (ty := .boolean) hx hb hr rfl (fun t9 ht9 hW9 => ⟨⟨1, g, rfl, ⟨rfl, by rw [hG]; exact hK⟩, ⟨by rw [hG, ht9]; exact hI.1, by rw [hG, ht9]; exact hI.2.1⟩⟩, hI.2.2.1.F ht9⟩) hI.2.2.1.2.2 dL_wages_102
