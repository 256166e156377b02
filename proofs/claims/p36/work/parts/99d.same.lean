/-! walked: same -/
def iL_same_669  (i669 : Nat)  : Unit := ()
def lL_same_669  : Nat → Unit
  | 0 => ()
  | n + 1 => iL_same_669 n 
def iL_same_270  (i270 : Nat)  : Unit := ()
def lL_same_270  : Nat → Unit
  | 0 => ()
  | n + 1 => iL_same_270 n 
def jL_same_76 (L : St) (i38 : Nat) : Int32 := (if (L 6 (8 * i38 + 4)) ≤ (L 11 0) then 0 else 1)
def bL_same_76 (x38_13 : Int32) (y76_0 : Int32) : Int32 := (x38_13 + y76_0)
def iL_same_38 (L : St) (i38 : Nat) (x38_13 : Int32) : Int32 := (bL_same_76 x38_13 (jL_same_76 L i38))
def lL_same_38 (L : St) : Nat → Int32
  | 0 => 0
  | n + 1 => iL_same_38 L n (lL_same_38 L n)
def jL_same_575 (L : St) (k : Nat) (t : Nat) : Int32 := (if (L 6 (8 * k)) = (nI t) then 1 else (if (L 11 0) < (L 6 (8 * k + 4)) then 0 else 1))
def bL_same_575 (y575_0 : Int32) : Int32 := 0
set_option maxHeartbeats 8000000 in
set_option maxRecDepth 100000 in
theorem qL_same (l : Launch) (hfl : l.stackTraces = false) (A B : Nat → Prop) (D : va_G) (cy : Nat → ClassId) (g : CWt) (S : St) (e0 mi n0 x0 : Nat) (la : Nat → Nat) (hK : XK A B e0 n0 x0 la g S) (L : St) (hV : LV L) (zy : Int32) (k : Nat) (hk : k < 8) (t : Nat) (ht : t < 5) (i_ : Nat) (hi_ : i_ < 41) (hkq : ¬ L 11 4 = 0 → k < q4 L) (hiq : i_ ≤ q2 L) (hkz : ¬ L 11 4 = 0 → fL_low zy (L 11 4) = nI k) (htz : fL_low (zy >>> ((3 : Int32) &&& 31)) 5 = nI t) (hiz : fL_low (zy >>> ((4 : Int32) &&& 31)) ((L 11 2) + 1) = nI i_) (hE0 : fX7_all S 0 = (L 11 0, 0, S)) (hE1 : fX7_all S 1 = (L 11 6, 0, S)) (hE2 : ¬ L 11 2 = 0 → fX7_ofClaim S 0 3 = (((L 2 0) - 1), 0, S)) (hE3 : ¬ L 11 4 = 0 → fX7_due S (nI k) = ((fL_due L k), 0, S)) (hE4 : ¬ L 11 4 = 0 → fX7_ofSuit S (nI k) 9 = ((fL_hundredths L k), 0, S)) (hE5 : ¬ L 11 4 = 0 → fX7_sees S (nI t) (nI k) = (jL_same_575 L k t, 0, S)) (hE6 : ¬ L 11 4 = 0 → i_ < q2 L → fX7_ofClaim S (nI i_) 0 = (((L 1 i_) - (L 1 i_) / 8 * 8), 0, S)) (hE7 : ¬ L 11 4 = 0 → i_ < q2 L → fX7_ofClaim S (nI i_) 1 = ((((L 1 i_) / 8) - ((L 1 i_) / 8) / 16384 * 16384), 0, S)) (hE8 : ¬ L 11 4 = 0 → i_ < q2 L → fX7_ofClaim S (nI i_) 2 = (((L 1 i_) / 131072), 0, S)) (hE9 : ¬ L 11 4 = 0 → i_ < q2 L → fX7_ofClaim S (nI i_) 3 = (((L 2 i_) - 1), 0, S)) (hE10 : ¬ L 11 4 = 0 → ∀ i669, i669 < q1 L → fX7_covers S (nI k) (nI i669) = ((fL_day L k i669), 0, S)) (hE11 : ¬ L 11 4 = 0 → ∀ i669, i669 < q1 L → fX7_bars S (nI k) (nI i669) = ((fL_bar L k i669), 0, S)) (hE12 : ∀ i669, i669 < q1 L → fX7_first S (nI i669) = ((fL_first L i669), 0, S)) (hE13 : ∀ i669, i669 < q1 L → fX7_firstAnew S (nI i669) = ((fL_first L i669), 0, S)) (hE14 : ∀ i270, 12 ≤ i270 → i270 < 15 → fX7_ofFirm S 3 ((nI i270) - 12) = (0, 0, S)) (hE15 : ∀ i270, i270 < 12 → fX7_ofFirm S ((nI i270) / 4) ((nI i270) - (nI i270) / 4 * 4) = (L 9 i270, 0, S)) (hE16 : ∀ i270, i270 < 15 → fX7_got S ((nI i270) - (nI i270) / 5 * 5) ((nI i270) / 5) = (L 4 (8 * (i270 % 5) + 4 + (i270 / 5)), 0, S)) (hE17 : ∀ i38, i38 < q4 L → fX7_ofSuit S (nI i38) 0 = (L 6 (8 * i38), 0, S)) (hE18 : ∀ i38, i38 < q4 L → fX7_ofSuit S (nI i38) 1 = (L 6 (8 * i38 + 1), 0, S)) (hE19 : ∀ i38, i38 < q4 L → fX7_ofSuit S (nI i38) 2 = ((fL_had L i38 3000), 0, S)) (hE20 : ∀ i38, i38 < q4 L → fX7_ofSuit S (nI i38) 3 = (L 6 (8 * i38 + 2), 0, S)) (hE21 : ∀ i38, i38 < q4 L → fX7_ofSuit S (nI i38) 4 = (L 6 (8 * i38 + 3), 0, S)) (hE22 : ∀ i38, i38 < q4 L → fX7_ofSuit S (nI i38) 5 = (L 6 (8 * i38 + 4), 0, S)) (hE23 : ∀ i38, i38 < q4 L → fX7_ofSuit S (nI i38) 6 = (L 6 (8 * i38 + 6), 0, S)) (hE24 : ∀ i38, i38 < q4 L → fX7_ofSuit S (nI i38) 7 = (L 8 i38, 0, S)) (hE25 : ∀ i38, i38 < q4 L → fX7_ofSuit S (nI i38) 8 = (L 8 (8 + i38), 0, S)) (hE26 : fX7_all S 3 = ((lL_same_38 L (q4 L)), 0, S)) : Met l yL_same wsL_same ({ frames := 9, cells := 200, slots := 1300, locals := 184 } : Room) (va_Pc [.ref x0, .int zy, .ref (la 0), .ref (la 1), .ref (la 2), .ref (la 3), .ref (la 4), .ref (la 6), .ref (la 7), .ref (la 8), .ref (la 9), .ref (la 11)] (XW A B D cy g S e0 mi n0 la L)) (va_Qi (fun (r : Int32) (_ : Unit) => r = 1) (fun _ t9 => CH D cy g S t9.heap ∧ LH 12 D cy la L t9.heap) (AB A B)) 200 1300 (AB A B) := by
  refine Met.ofW (cc := cL_same) (maxL := 18) (ret := (some .boolean)) (by decide) rfl ?_
  intro p e s m args below meth c s₁ B9 hml hv
  obtain ⟨rfl, hM, hLH, hKK, hJ, hX, hO, hn0⟩ := hv
  have hx := B9.exec
  have hb := B9.bytes
  have hr := B9.returns
  have hts := atoms_spec (ws := wsL_same) B9.pre
  have hown : s.vm.findClass RL = some m.cls := findClass_of_methodNamed B9.named
  have hlocks := B9.notSynchronized
  have hC : XC p l s m _ c cL_same 18 A B D cy e0 mi wsL_same := ⟨⟨⟨hx, hb, hml, hown, hts⟩, hKK⟩, hfl, hJ, hX, hO⟩
  have hI : XI A B D cy g n0 la s S L s.heap [] := ⟨hM, hLH, va_S.rf, hn0⟩
  have hb1 := hV.b1
  have hb2 := hV.b2
  have hb3 := hV.b3
  have hb4 := hV.b4
  have k_76 := hts (.constant RL 76 (131072)) (List.mem_cons_of_mem _ (List.mem_append_left _ (List.mem_append_left _ (List.mem_append_left _ (List.mem_append_left _ (List.mem_append_left _ (List.mem_append_left _ (List.mem_append_left _ (List.mem_append_left _ (List.mem_append_left _ (List.mem_append_left _ (List.mem_of_getElem? (i := 0) rfl))))))))))))
  have hl := lv_entry ([.ref x0, .int zy, .ref (la 0), .ref (la 1), .ref (la 2), .ref (la 3), .ref (la 4), .ref (la 6), .ref (la 7), .ref (la 8), .ref (la 9), .ref (la 11)]) (n := 18) (Nat.le_of_ble_eq_true rfl)
  rw [lg_entry_eq]
  generalize (lg_sl ([.ref x0, .int zy, .ref (la 0), .ref (la 1), .ref (la 2), .ref (la 3), .ref (la 4), .ref (la 6), .ref (la 7), .ref (la 8), .ref (la 9), .ref (la 11)]) ++ List.replicate (18 - (lg_sl ([.ref x0, .int zy, .ref (la 0), .ref (la 1), .ref (la 2), .ref (la 3), .ref (la 4), .ref (la 6), .ref (la 7), .ref (la 8), .ref (la 9), .ref (la 11)])).length) Slot.unset).toArray = ls at hl ⊢
  have hl : lv_has ls 18 [(0, .ref x0), (1, .int zy), (2, .ref (la 0)), (3, .ref (la 1)), (4, .ref (la 2)), (5, .ref (la 3)), (6, .ref (la 4)), (7, .ref (la 6)), (8, .ref (la 7)), (9, .ref (la 8)), (10, .ref (la 9)), (11, .ref (la 11))] := hl
  refine lv_aload_n hx hb dL_same_0 rfl (lv_at hl 0 rfl) ?_
  refine lv_iconst (v := 0) hx hb dL_same_1 (by decide) ?_
  refine xr_rd (As := [.int 0]) (rest := []) (v := (L 11 0)) hC hK hI hE0 (qX7_all l hC.2.1 A D cy g hK.1 S e0 hK.v 0) (cwV 1 hts gL_same_X7_all rfl rfl rfl (by decide +kernel) ⟨Nat.le_of_ble_eq_true rfl, Nat.le_of_ble_eq_true rfl⟩) rfl hl.1 rfl (Nat.le_of_ble_eq_true rfl) dL_same_2 ⟨(by show _ ≤ 200; omega), (by show _ ≤ 1300; omega)⟩ (fun H locs hI => ?_)
  refine lv_aload hx hb dL_same_5 (lv_at hl 11 rfl) ?_
  refine lv_iconst (v := 0) hx hb dL_same_7 (by decide) ?_
  refine xr_ld hC hI 11 (by decide) (nx_in (by decide : (0 : Int32) = nI 0) (by decide) (by decide)) (v := (L 11 0)) (congrArg (L 11) (by decide : ix 0 = 0)) dL_same_8 ?_
  refine lv_icmp_ne (tgt := 29) hx hb dL_same_9 (by decide) (fun c9 => absurd rfl c9) (fun _ => ?_)
  refine lv_aload_n hx hb dL_same_12 rfl (lv_at hl 0 rfl) ?_
  refine lv_iconst (v := 1) hx hb dL_same_13 (by decide) ?_
  refine xr_rd (As := [.int 1]) (rest := []) (v := (L 11 6)) hC hK hI hE1 (qX7_all l hC.2.1 A D cy g hK.1 S e0 hK.v 1) (cwV 1 hts gL_same_X7_all rfl rfl rfl (by decide +kernel) ⟨Nat.le_of_ble_eq_true rfl, Nat.le_of_ble_eq_true rfl⟩) rfl hl.1 rfl (Nat.le_of_ble_eq_true rfl) dL_same_14 ⟨(by show _ ≤ 200; omega), (by show _ ≤ 1300; omega)⟩ (fun H locs hI => ?_)
  refine lv_aload hx hb dL_same_17 (lv_at hl 11 rfl) ?_
  refine lv_bipush (v := 6) hx hb dL_same_19 (by decide) ?_
  refine xr_ld hC hI 11 (by decide) (nx_in (by decide : (6 : Int32) = nI 6) (by decide) (by decide)) (v := (L 11 6)) (congrArg (L 11) (by decide : ix 6 = 6)) dL_same_21 ?_
  refine lv_icmp_ne (tgt := 29) hx hb dL_same_22 (by decide) (fun c9 => absurd rfl c9) (fun _ => ?_)
  refine lv_iconst (v := 1) hx hb dL_same_25 (by decide) ?_
  refine lv_goto (tgt := 30) hx hb dL_same_26 (by decide) ?_
  refine lv_istore (lv' := [(12, .int 1), (0, .ref x0), (1, .int zy), (2, .ref (la 0)), (3, .ref (la 1)), (4, .ref (la 2)), (5, .ref (la 3)), (6, .ref (la 4)), (7, .ref (la 6)), (8, .ref (la 7)), (9, .ref (la 8)), (10, .ref (la 9)), (11, .ref (la 11))]) hx hb dL_same_30 hl (by decide) rfl (fun ls hl => ?_)
  refine lv_iconst (v := 0) hx hb dL_same_32 (by decide) ?_
  refine lv_istore (lv' := [(13, .int 0), (12, .int 1), (0, .ref x0), (1, .int zy), (2, .ref (la 0)), (3, .ref (la 1)), (4, .ref (la 2)), (5, .ref (la 3)), (6, .ref (la 4)), (7, .ref (la 6)), (8, .ref (la 7)), (9, .ref (la 8)), (10, .ref (la 9)), (11, .ref (la 11))]) hx hb dL_same_33 hl (by decide) rfl (fun ls hl => ?_)
  refine lv_iconst (v := 0) hx hb dL_same_35 (by decide) ?_
  refine lv_istore (lv' := [(14, .int 0), (13, .int 0), (12, .int 1), (0, .ref x0), (1, .int zy), (2, .ref (la 0)), (3, .ref (la 1)), (4, .ref (la 2)), (5, .ref (la 3)), (6, .ref (la 4)), (7, .ref (la 6)), (8, .ref (la 7)), (9, .ref (la 8)), (10, .ref (la 9)), (11, .ref (la 11))]) hx hb dL_same_36 hl (by decide) rfl (fun ls hl => ?_)
  refine w_loopK (σ := Int32) (q4 L) 38 2 9 12 54 (fun i38 z H locs ls => z = lL_same_38 L i38 ∧ XI A B D cy g n0 la s S L H locs ∧ lv_has ls 18 [(14, .int (nI i38)), (13, .int z), (12, .int 1), (0, .ref x0), (1, .int zy), (2, .ref (la 0)), (3, .ref (la 1)), (4, .ref (la 2)), (5, .ref (la 3)), (6, .ref (la 4)), (7, .ref (la 6)), (8, .ref (la 7)), (9, .ref (la 8)), (10, .ref (la 9)), (11, .ref (la 11))]) ?_ 0 ⟨rfl, hI, lv_sub hl [0, 1, 2, 3, 4, 5, 6, 7, 8, 9, 10, 11, 12, 13, 14] rfl⟩
  intro i38 x38_13 H locs ls ⟨hz38, hI, hl⟩ hi38 ih38
  refine lv_iload hx hb dL_same_38 (lv_at hl 0 rfl) ?_
  refine lv_aload hx hb dL_same_40 (lv_at hl 14 rfl) ?_
  refine lv_iconst (v := 4) hx hb dL_same_42 (by decide) ?_
  refine xr_ld hC hI 11 (by decide) (nx_in (by decide : (4 : Int32) = nI 4) (by decide) (by decide)) (v := (L 11 4)) (congrArg (L 11) (by decide : ix 4 = 4)) dL_same_43 ?_
  refine lv_icmp_ge (tgt := 267) hx hb dL_same_44 (by decide) (fun c_1 => ?_) (fun c_1 => ?_)
  · obtain rfl : i38 = q4 L := w_exit hV.n4 hi38 (by have := hV.b4; omega) c_1
    obtain rfl : x38_13 = lL_same_38 L (q4 L) := hz38
    refine W.widen (k := 74) (n := 444) (by omega) (by omega) ?_
    refine lv_iconst (v := 0) hx hb dL_same_267 (by decide) ?_
    refine lv_istore (lv' := [(14, .int 0), (13, .int (lL_same_38 L (q4 L))), (12, .int 1), (0, .ref x0), (1, .int zy), (2, .ref (la 0)), (3, .ref (la 1)), (4, .ref (la 2)), (5, .ref (la 3)), (6, .ref (la 4)), (7, .ref (la 6)), (8, .ref (la 7)), (9, .ref (la 8)), (10, .ref (la 9)), (11, .ref (la 11))]) hx hb dL_same_268 hl (by decide) rfl (fun ls hl => ?_)
    refine w_loopK (σ := Unit) 15 270 74 2 444 12 (fun i270 _ H locs ls => XI A B D cy g n0 la s S L H locs ∧ lv_has ls 18 [(14, .int (nI i270)), (13, .int (lL_same_38 L (q4 L))), (12, .int 1), (0, .ref x0), (1, .int zy), (2, .ref (la 0)), (3, .ref (la 1)), (4, .ref (la 2)), (5, .ref (la 3)), (6, .ref (la 4)), (7, .ref (la 6)), (8, .ref (la 7)), (9, .ref (la 8)), (10, .ref (la 9)), (11, .ref (la 11))]) ?_ () ⟨hI, lv_sub hl [0, 1, 2, 3, 4, 5, 6, 7, 8, 9, 10, 11, 12, 13, 14] rfl⟩
    intro i270 _ H locs ls ⟨hI, hl⟩ hi270 ih270
    refine lv_iload hx hb dL_same_270 (lv_at hl 0 rfl) ?_
    refine lv_bipush (v := 15) hx hb dL_same_272 (by decide) ?_
    refine lv_icmp_ge (tgt := 387) hx hb dL_same_274 (by decide) (fun c_19 => ?_) (fun c_19 => ?_)
    · obtain rfl : i270 = 15 := w_exit (by decide : (15 : Int32) = nI 15) hi270 (by decide) c_19
      refine W.widen (k := 104) (n := 624) (by omega) (by omega) ?_
      refine lv_iload hx hb dL_same_387 (lv_at hl 2 rfl) ?_
      refine lv_if_eq (tgt := 428) hx hb dL_same_389 (by decide) (fun c => absurd c (by decide : ¬ (1 : Int32) = 0)) (fun _ => ?_)
      refine lv_aload_n hx hb dL_same_392 rfl (lv_at hl 3 rfl) ?_
      refine lv_iconst (v := 3) hx hb dL_same_393 (by decide) ?_
      refine xr_rd (As := [.int 3]) (rest := []) (v := (lL_same_38 L (q4 L))) hC hK hI hE26 (qX7_all l hC.2.1 A D cy g hK.1 S e0 hK.v 3) (cwV 1 hts gL_same_X7_all rfl rfl rfl (by decide +kernel) ⟨Nat.le_of_ble_eq_true rfl, Nat.le_of_ble_eq_true rfl⟩) rfl hl.1 rfl (Nat.le_of_ble_eq_true rfl) dL_same_394 ⟨(by show _ ≤ 200; omega), (by show _ ≤ 1300; omega)⟩ (fun H locs hI => ?_)
      refine lv_iload hx hb dL_same_397 (lv_at hl 1 rfl) ?_
      refine lv_icmp_ne (tgt := 428) hx hb dL_same_399 (by decide) (fun c9 => absurd rfl c9) (fun _ => ?_)
      refine lv_aload hx hb dL_same_402 (lv_at hl 14 rfl) ?_
      refine lv_iconst (v := 2) hx hb dL_same_404 (by decide) ?_
      refine xr_ld hC hI 11 (by decide) (nx_in (by decide : (2 : Int32) = nI 2) (by decide) (by decide)) (v := (L 11 2)) (congrArg (L 11) (by decide : ix 2 = 2)) dL_same_405 ?_
      refine w_joinK (σ := Unit) 424 (106) (636) (fun _ H locs ls => XI A B D cy g n0 la s S L H locs ∧ lv_has ls 18 [(14, .int (nI 15)), (13, .int (lL_same_38 L (q4 L))), (12, .int 1), (0, .ref x0), (1, .int zy), (2, .ref (la 0)), (3, .ref (la 1)), (4, .ref (la 2)), (5, .ref (la 3)), (6, .ref (la 4)), (7, .ref (la 6)), (8, .ref (la 7)), (9, .ref (la 8)), (10, .ref (la 9)), (11, .ref (la 11))]) (fun _ => []) ?_ (fun J424 => ?_)
      · intro _ H locs ls ⟨hI, hl⟩
        refine lv_iconst (v := 1) hx hb dL_same_424 (by decide) ?_
        refine lv_goto (tgt := 429) hx hb dL_same_425 (by decide) ?_
        refine lv_istore (lv' := [(12, .int 1), (14, .int (nI 15)), (13, .int (lL_same_38 L (q4 L))), (0, .ref x0), (1, .int zy), (2, .ref (la 0)), (3, .ref (la 1)), (4, .ref (la 2)), (5, .ref (la 3)), (6, .ref (la 4)), (7, .ref (la 6)), (8, .ref (la 7)), (9, .ref (la 8)), (10, .ref (la 9)), (11, .ref (la 11))]) hx hb dL_same_429 hl (by decide) rfl (fun ls hl => ?_)
        refine lv_aload hx hb dL_same_431 (lv_at hl 14 rfl) ?_
        refine lv_iconst (v := 4) hx hb dL_same_433 (by decide) ?_
        refine xr_ld hC hI 11 (by decide) (nx_in (by decide : (4 : Int32) = nI 4) (by decide) (by decide)) (v := (L 11 4)) (congrArg (L 11) (by decide : ix 4 = 4)) dL_same_434 ?_
        refine lv_if_eq (tgt := 443) hx hb dL_same_435 (by decide) (fun c_29 => ?_) (fun c_29 => ?_)
        · skip
          refine lv_iload hx hb dL_same_443 (lv_at hl 0 rfl) ?_
          refine W.widen (k := 200) (n := 1300) (by omega) (by omega) ?_
          exact W.zret (v := 1) (ty := .boolean) hx hb hr rfl (fun t9 ht9 hW9 => ⟨⟨1, (), rfl, rfl, ⟨by rw [ht9]; exact hI.1, by rw [ht9]; exact hI.2.1⟩⟩, hI.2.2.1.F ht9⟩) hI.2.2.1.2.2 dL_same_445
        · skip
          refine lv_iload hx hb dL_same_438 (lv_at hl 0 rfl) ?_
          refine lv_if_ne (tgt := 446) hx hb dL_same_440 (by decide) (fun _ => ?_) (fun c => absurd c (by decide : ¬ (1 : Int32) = 0))
          refine lv_iload_n hx hb dL_same_446 rfl (lv_at hl 4 rfl) ?_
          refine lv_aload hx hb dL_same_447 (lv_at hl 14 rfl) ?_
          refine lv_iconst (v := 4) hx hb dL_same_449 (by decide) ?_
          refine xr_ld hC hI 11 (by decide) (nx_in (by decide : (4 : Int32) = nI 4) (by decide) (by decide)) (v := (L 11 4)) (congrArg (L 11) (by decide : ix 4 = 4)) dL_same_450 ?_
          refine xr_callS (As := [.int zy, .int (L 11 4)]) (rest := []) hC hI (qL_low l zy (L 11 4) (by assumption)) (va_cwS 2 hts gL_same_L_low rfl rfl rfl (by decide +kernel) ⟨Nat.le_of_ble_eq_true rfl, Nat.le_of_ble_eq_true rfl⟩) rfl hl.1 rfl (Nat.le_of_ble_eq_true rfl) dL_same_451 ⟨(by show _ ≤ 200; omega), (by show _ ≤ 1300; omega)⟩ (fun H locs hI => ?_)
          rw [hkz (by assumption)]
          refine lv_istore (lv' := [(14, .int (nI k)), (12, .int 1), (13, .int (lL_same_38 L (q4 L))), (0, .ref x0), (1, .int zy), (2, .ref (la 0)), (3, .ref (la 1)), (4, .ref (la 2)), (5, .ref (la 3)), (6, .ref (la 4)), (7, .ref (la 6)), (8, .ref (la 7)), (9, .ref (la 8)), (10, .ref (la 9)), (11, .ref (la 11))]) hx hb dL_same_454 hl (by decide) rfl (fun ls hl => ?_)
          refine lv_iload_n hx hb dL_same_456 rfl (lv_at hl 4 rfl) ?_
          refine lv_iconst (v := 3) hx hb dL_same_457 (by decide) ?_
          refine lv_ishr hx hb dL_same_458 ?_
          refine lv_iconst (v := 5) hx hb dL_same_459 (by decide) ?_
          refine xr_callS (As := [.int (zy >>> ((3 : Int32) &&& 31)), .int 5]) (rest := []) hC hI (qL_low l (zy >>> ((3 : Int32) &&& 31)) 5 (by decide)) (va_cwS 2 hts gL_same_L_low rfl rfl rfl (by decide +kernel) ⟨Nat.le_of_ble_eq_true rfl, Nat.le_of_ble_eq_true rfl⟩) rfl hl.1 rfl (Nat.le_of_ble_eq_true rfl) dL_same_460 ⟨(by show _ ≤ 200; omega), (by show _ ≤ 1300; omega)⟩ (fun H locs hI => ?_)
          rw [htz]
          refine lv_istore (lv' := [(15, .int (nI t)), (14, .int (nI k)), (12, .int 1), (13, .int (lL_same_38 L (q4 L))), (0, .ref x0), (1, .int zy), (2, .ref (la 0)), (3, .ref (la 1)), (4, .ref (la 2)), (5, .ref (la 3)), (6, .ref (la 4)), (7, .ref (la 6)), (8, .ref (la 7)), (9, .ref (la 8)), (10, .ref (la 9)), (11, .ref (la 11))]) hx hb dL_same_463 hl (by decide) rfl (fun ls hl => ?_)
          refine lv_iload_n hx hb dL_same_465 rfl (lv_at hl 5 rfl) ?_
          refine lv_iconst (v := 4) hx hb dL_same_466 (by decide) ?_
          refine lv_ishr hx hb dL_same_467 ?_
          refine lv_aload hx hb dL_same_468 (lv_at hl 15 rfl) ?_
          refine lv_iconst (v := 2) hx hb dL_same_470 (by decide) ?_
          refine xr_ld hC hI 11 (by decide) (nx_in (by decide : (2 : Int32) = nI 2) (by decide) (by decide)) (v := (L 11 2)) (congrArg (L 11) (by decide : ix 2 = 2)) dL_same_471 ?_
          refine lv_iconst (v := 1) hx hb dL_same_472 (by decide) ?_
          refine lv_iadd hx hb dL_same_473 ?_
          refine xr_callS (As := [.int (zy >>> ((4 : Int32) &&& 31)), .int ((L 11 2) + 1)]) (rest := []) hC hI (qL_low l (zy >>> ((4 : Int32) &&& 31)) ((L 11 2) + 1) (cnt1_ne hV.n2 hV.b2)) (va_cwS 2 hts gL_same_L_low rfl rfl rfl (by decide +kernel) ⟨Nat.le_of_ble_eq_true rfl, Nat.le_of_ble_eq_true rfl⟩) rfl hl.1 rfl (Nat.le_of_ble_eq_true rfl) dL_same_474 ⟨(by show _ ≤ 200; omega), (by show _ ≤ 1300; omega)⟩ (fun H locs hI => ?_)
          rw [hiz]
          refine lv_istore (lv' := [(16, .int (nI i_)), (15, .int (nI t)), (14, .int (nI k)), (12, .int 1), (13, .int (lL_same_38 L (q4 L))), (0, .ref x0), (1, .int zy), (2, .ref (la 0)), (3, .ref (la 1)), (4, .ref (la 2)), (5, .ref (la 3)), (6, .ref (la 4)), (7, .ref (la 6)), (8, .ref (la 7)), (9, .ref (la 8)), (10, .ref (la 9)), (11, .ref (la 11))]) hx hb dL_same_477 hl (by decide) rfl (fun ls hl => ?_)
          refine lv_aload_n hx hb dL_same_479 rfl (lv_at hl 5 rfl) ?_
          refine lv_iload hx hb dL_same_480 (lv_at hl 2 rfl) ?_
          refine xr_rd (As := [.int (nI k)]) (rest := []) (v := (fL_due L k)) hC hK hI (hE3 (by assumption)) (qX7_due l hC.2.1 A D cy g hK.1 S e0 hK.v (nI k)) (cwV 1 hts gL_same_X7_due rfl rfl rfl (by decide +kernel) ⟨Nat.le_of_ble_eq_true rfl, Nat.le_of_ble_eq_true rfl⟩) rfl hl.1 rfl (Nat.le_of_ble_eq_true rfl) dL_same_482 ⟨(by show _ ≤ 200; omega), (by show _ ≤ 1300; omega)⟩ (fun H locs hI => ?_)
          refine lv_iload hx hb dL_same_485 (lv_at hl 2 rfl) ?_
          refine lv_aload_n hx hb dL_same_487 rfl (lv_at hl 7 rfl) ?_
          refine lv_aload_n hx hb dL_same_488 rfl (lv_at hl 8 rfl) ?_
          refine lv_aload hx hb dL_same_489 (lv_at hl 9 rfl) ?_
          refine lv_aload hx hb dL_same_491 (lv_at hl 10 rfl) ?_
          refine lv_aload hx hb dL_same_493 (lv_at hl 12 rfl) ?_
          refine lv_aload hx hb dL_same_495 (lv_at hl 13 rfl) ?_
          refine lv_aload hx hb dL_same_497 (lv_at hl 16 rfl) ?_
          refine xr_call (As := [.int (nI k), .ref (la 0), .ref (la 1), .ref (la 2), .ref (la 3), .ref (la 6), .ref (la 7), .ref (la 11)]) (rest := [.int ((fL_due L k))]) hC hI (qL_due l D cy la L hV k (by omega) rfl) (va_cwS 8 hts gL_same_L_due rfl rfl rfl (by decide +kernel) ⟨Nat.le_of_ble_eq_true rfl, Nat.le_of_ble_eq_true rfl⟩) rfl hl.1 rfl (Nat.le_of_ble_eq_true rfl) dL_same_499 ⟨(by show _ ≤ 200; omega), (by show _ ≤ 1300; omega)⟩ (fun H locs hI => ?_)
          refine lv_icmp_ne (tgt := 663) hx hb dL_same_502 (by decide) (fun c9 => absurd rfl c9) (fun _ => ?_)
          refine lv_aload_n hx hb dL_same_505 rfl (lv_at hl 5 rfl) ?_
          refine lv_iload hx hb dL_same_506 (lv_at hl 2 rfl) ?_
          refine lv_bipush (v := 9) hx hb dL_same_508 (by decide) ?_
          refine xr_rd (As := [.int (nI k), .int 9]) (rest := []) (v := (fL_hundredths L k)) hC hK hI (hE4 (by assumption)) (qX7_ofSuit l hC.2.1 A D cy g hK.1 S e0 hK.v (nI k) 9) (cwV 2 hts gL_same_X7_ofSuit rfl rfl rfl (by decide +kernel) ⟨Nat.le_of_ble_eq_true rfl, Nat.le_of_ble_eq_true rfl⟩) rfl hl.1 rfl (Nat.le_of_ble_eq_true rfl) dL_same_510 ⟨(by show _ ≤ 200; omega), (by show _ ≤ 1300; omega)⟩ (fun H locs hI => ?_)
          refine lv_iload hx hb dL_same_513 (lv_at hl 2 rfl) ?_
          refine lv_aload_n hx hb dL_same_515 rfl (lv_at hl 7 rfl) ?_
          refine lv_aload hx hb dL_same_516 (lv_at hl 10 rfl) ?_
          refine lv_aload hx hb dL_same_518 (lv_at hl 11 rfl) ?_
          refine lv_aload hx hb dL_same_520 (lv_at hl 12 rfl) ?_
          refine lv_aload hx hb dL_same_522 (lv_at hl 13 rfl) ?_
          refine lv_aload hx hb dL_same_524 (lv_at hl 16 rfl) ?_
          refine xr_call (As := [.int (nI k), .ref (la 0), .ref (la 3), .ref (la 4), .ref (la 6), .ref (la 7), .ref (la 11)]) (rest := [.int ((fL_hundredths L k))]) hC hI (qL_hundredths l D cy la L hV k (by omega) rfl) (va_cwS 7 hts gL_same_L_hundredths rfl rfl rfl (by decide +kernel) ⟨Nat.le_of_ble_eq_true rfl, Nat.le_of_ble_eq_true rfl⟩) rfl hl.1 rfl (Nat.le_of_ble_eq_true rfl) dL_same_526 ⟨(by show _ ≤ 200; omega), (by show _ ≤ 1300; omega)⟩ (fun H locs hI => ?_)
          refine lv_icmp_ne (tgt := 663) hx hb dL_same_529 (by decide) (fun c9 => absurd rfl c9) (fun _ => ?_)
          refine lv_aload_n hx hb dL_same_532 rfl (lv_at hl 5 rfl) ?_
          refine lv_iload hx hb dL_same_533 (lv_at hl 1 rfl) ?_
          refine lv_iload hx hb dL_same_535 (lv_at hl 2 rfl) ?_
          refine xr_rd (As := [.int (nI t), .int (nI k)]) (rest := []) (v := (jL_same_575 L k t)) hC hK hI (hE5 (by assumption)) (qX7_sees l hC.2.1 A D cy g hK.1 S e0 hK.v (nI t) (nI k)) (cwV 2 hts gL_same_X7_sees rfl rfl rfl (by decide +kernel) ⟨Nat.le_of_ble_eq_true rfl, Nat.le_of_ble_eq_true rfl⟩) rfl hl.1 rfl (Nat.le_of_ble_eq_true rfl) dL_same_537 ⟨(by show _ ≤ 200; omega), (by show _ ≤ 1300; omega)⟩ (fun H locs hI => ?_)
          refine lv_aload hx hb dL_same_540 (lv_at hl 12 rfl) ?_
          refine lv_bipush (v := 8) hx hb dL_same_542 (by decide) ?_
          refine lv_iload hx hb dL_same_544 (lv_at hl 2 rfl) ?_
          refine lv_imul hx hb dL_same_546 ?_
          refine xr_ld hC hI 6 (by decide) (show vp_in (8 * (nI k)) 64 from nx_in (nx_mul (by decide : (8 : Int32) = nI 8) rfl) (by omega) (by decide)) (v := (L 6 (8 * k))) (congrArg (L 6) (nx_ix (x := (8 * (nI k))) (nx_mul (by decide : (8 : Int32) = nI 8) rfl) (by omega))) dL_same_547 ?_
          refine lv_iload hx hb dL_same_548 (lv_at hl 1 rfl) ?_
          refine w_joinK (σ := Int32) 575 (111) (670) (fun y575_0 H locs ls => y575_0 = jL_same_575 L k t ∧ XI A B D cy g n0 la s S L H locs ∧ lv_has ls 18 [(16, .int (nI i_)), (15, .int (nI t)), (14, .int (nI k)), (12, .int 1), (13, .int (lL_same_38 L (q4 L))), (0, .ref x0), (1, .int zy), (2, .ref (la 0)), (3, .ref (la 1)), (4, .ref (la 2)), (5, .ref (la 3)), (6, .ref (la 4)), (7, .ref (la 6)), (8, .ref (la 7)), (9, .ref (la 8)), (10, .ref (la 9)), (11, .ref (la 11))]) (fun y575_0 => [.int y575_0, .int ((jL_same_575 L k t))]) ?_ (fun J575 => ?_)
          · intro y575_0 H locs ls ⟨hJ575, hI, hl⟩
            refine lv_icmp_ne (tgt := 663) hx hb dL_same_575 (by decide) (fun c9 => absurd hJ575.symm c9) (fun _ => ?_)
            refine lv_iload hx hb dL_same_578 (lv_at hl 0 rfl) ?_
            refine lv_aload hx hb dL_same_580 (lv_at hl 16 rfl) ?_
            refine lv_iconst (v := 2) hx hb dL_same_582 (by decide) ?_
            refine xr_ld hC hI 11 (by decide) (nx_in (by decide : (2 : Int32) = nI 2) (by decide) (by decide)) (v := (L 11 2)) (congrArg (L 11) (by decide : ix 2 = 2)) dL_same_583 ?_
            refine w_joinK (σ := Unit) 659 (115) (694) (fun _ H locs ls => XI A B D cy g n0 la s S L H locs ∧ lv_has ls 18 [(16, .int (nI i_)), (15, .int (nI t)), (14, .int (nI k)), (12, .int 1), (13, .int (lL_same_38 L (q4 L))), (0, .ref x0), (1, .int zy), (2, .ref (la 0)), (3, .ref (la 1)), (4, .ref (la 2)), (5, .ref (la 3)), (6, .ref (la 4)), (7, .ref (la 6)), (8, .ref (la 7)), (9, .ref (la 8)), (10, .ref (la 9)), (11, .ref (la 11))]) (fun _ => []) ?_ (fun J659 => ?_)
            · intro _ H locs ls ⟨hI, hl⟩
              refine lv_iconst (v := 1) hx hb dL_same_659 (by decide) ?_
              refine lv_goto (tgt := 664) hx hb dL_same_660 (by decide) ?_
              refine lv_istore (lv' := [(12, .int 1), (16, .int (nI i_)), (15, .int (nI t)), (14, .int (nI k)), (13, .int (lL_same_38 L (q4 L))), (0, .ref x0), (1, .int zy), (2, .ref (la 0)), (3, .ref (la 1)), (4, .ref (la 2)), (5, .ref (la 3)), (6, .ref (la 4)), (7, .ref (la 6)), (8, .ref (la 7)), (9, .ref (la 8)), (10, .ref (la 9)), (11, .ref (la 11))]) hx hb dL_same_664 hl (by decide) rfl (fun ls hl => ?_)
              refine lv_iconst (v := 0) hx hb dL_same_666 (by decide) ?_
              refine lv_istore (lv' := [(17, .int 0), (12, .int 1), (16, .int (nI i_)), (15, .int (nI t)), (14, .int (nI k)), (13, .int (lL_same_38 L (q4 L))), (0, .ref x0), (1, .int zy), (2, .ref (la 0)), (3, .ref (la 1)), (4, .ref (la 2)), (5, .ref (la 3)), (6, .ref (la 4)), (7, .ref (la 6)), (8, .ref (la 7)), (9, .ref (la 8)), (10, .ref (la 9)), (11, .ref (la 11))]) hx hb dL_same_667 hl (by decide) rfl (fun ls hl => ?_)
              refine w_loopK (σ := Unit) (q1 L) 669 115 4 694 24 (fun i669 _ H locs ls => XI A B D cy g n0 la s S L H locs ∧ lv_has ls 18 [(17, .int (nI i669)), (12, .int 1), (16, .int (nI i_)), (15, .int (nI t)), (14, .int (nI k)), (13, .int (lL_same_38 L (q4 L))), (0, .ref x0), (1, .int zy), (2, .ref (la 0)), (3, .ref (la 1)), (4, .ref (la 2)), (5, .ref (la 3)), (6, .ref (la 4)), (7, .ref (la 6)), (8, .ref (la 7)), (9, .ref (la 8)), (10, .ref (la 9)), (11, .ref (la 11))]) ?_ () ⟨hI, lv_sub hl [0, 1, 2, 3, 4, 5, 6, 7, 8, 9, 10, 11, 12, 13, 14, 15, 16, 17] rfl⟩
              intro i669 _ H locs ls ⟨hI, hl⟩ hi669 ih669
              refine lv_iload hx hb dL_same_669 (lv_at hl 0 rfl) ?_
              refine lv_aload hx hb dL_same_671 (lv_at hl 17 rfl) ?_
              refine lv_iconst (v := 1) hx hb dL_same_673 (by decide) ?_
              refine xr_ld hC hI 11 (by decide) (nx_in (by decide : (1 : Int32) = nI 1) (by decide) (by decide)) (v := (L 11 1)) (congrArg (L 11) (by decide : ix 1 = 1)) dL_same_674 ?_
              refine lv_icmp_ge (tgt := 799) hx hb dL_same_675 (by decide) (fun c_33 => ?_) (fun c_33 => ?_)
              · obtain rfl : i669 = q1 L := w_exit hV.n1 hi669 (by have := hV.b1; omega) c_33
                refine W.widen (k := 147) (n := 886) (by omega) (by omega) ?_
                refine lv_iload hx hb dL_same_799 (lv_at hl 1 rfl) ?_
                refine W.widen (k := 200) (n := 1300) (by omega) (by omega) ?_
                exact W.zret (v := 1) (ty := .boolean) hx hb hr rfl (fun t9 ht9 hW9 => ⟨⟨1, (), rfl, rfl, ⟨by rw [ht9]; exact hI.1, by rw [ht9]; exact hI.2.1⟩⟩, hI.2.2.1.F ht9⟩) hI.2.2.1.2.2 dL_same_801
              · have hlt669 : i669 < q1 L := w_in hV.n1 hi669 (by have := hV.b1; omega) c_33
                refine lv_iload hx hb dL_same_678 (lv_at hl 1 rfl) ?_
                refine lv_if_eq (tgt := 799) hx hb dL_same_680 (by decide) (fun c => absurd c (by decide : ¬ (1 : Int32) = 0)) (fun _ => ?_)
                refine lv_aload_n hx hb dL_same_683 rfl (lv_at hl 6 rfl) ?_
                refine lv_iload hx hb dL_same_684 (lv_at hl 4 rfl) ?_
                refine lv_iload hx hb dL_same_686 (lv_at hl 0 rfl) ?_
                refine xr_rd (As := [.int (nI k), .int (nI i669)]) (rest := []) (v := (fL_day L k i669)) hC hK hI (hE10 (by assumption) i669 hlt669) (qX7_covers l hC.2.1 A D cy g hK.1 S e0 hK.v (nI k) (nI i669)) (cwV 2 hts gL_same_X7_covers rfl rfl rfl (by decide +kernel) ⟨Nat.le_of_ble_eq_true rfl, Nat.le_of_ble_eq_true rfl⟩) rfl hl.1 rfl (Nat.le_of_ble_eq_true rfl) dL_same_688 ⟨(by show _ ≤ 200; omega), (by show _ ≤ 1300; omega)⟩ (fun H locs hI => ?_)
                refine lv_iload hx hb dL_same_691 (lv_at hl 4 rfl) ?_
                refine lv_iload hx hb dL_same_693 (lv_at hl 0 rfl) ?_
                refine lv_aload_n hx hb dL_same_695 rfl (lv_at hl 8 rfl) ?_
                refine lv_aload hx hb dL_same_696 (lv_at hl 13 rfl) ?_
                refine lv_aload hx hb dL_same_698 (lv_at hl 14 rfl) ?_
                refine xr_call (As := [.int (nI k), .int (nI i669), .ref (la 0), .ref (la 6), .ref (la 7)]) (rest := [.int ((fL_day L k i669))]) hC hI (qL_day l D cy la L hV k (by omega) rfl i669 (by omega) rfl) (va_cwS 5 hts gL_same_L_day rfl rfl rfl (by decide +kernel) ⟨Nat.le_of_ble_eq_true rfl, Nat.le_of_ble_eq_true rfl⟩) rfl hl.1 rfl (Nat.le_of_ble_eq_true rfl) dL_same_700 ⟨(by show _ ≤ 200; omega), (by show _ ≤ 1300; omega)⟩ (fun H locs hI => ?_)
                refine lv_icmp_ne (tgt := 790) hx hb dL_same_703 (by decide) (fun c9 => absurd rfl c9) (fun _ => ?_)
                refine lv_aload_n hx hb dL_same_706 rfl (lv_at hl 6 rfl) ?_
                refine lv_iload hx hb dL_same_707 (lv_at hl 4 rfl) ?_
                refine lv_iload hx hb dL_same_709 (lv_at hl 0 rfl) ?_
                refine xr_rd (As := [.int (nI k), .int (nI i669)]) (rest := []) (v := (fL_bar L k i669)) hC hK hI (hE11 (by assumption) i669 hlt669) (qX7_bars l hC.2.1 A D cy g hK.1 S e0 hK.v (nI k) (nI i669)) (cwV 2 hts gL_same_X7_bars rfl rfl rfl (by decide +kernel) ⟨Nat.le_of_ble_eq_true rfl, Nat.le_of_ble_eq_true rfl⟩) rfl hl.1 rfl (Nat.le_of_ble_eq_true rfl) dL_same_711 ⟨(by show _ ≤ 200; omega), (by show _ ≤ 1300; omega)⟩ (fun H locs hI => ?_)
                refine lv_iload hx hb dL_same_714 (lv_at hl 4 rfl) ?_
                refine lv_iload hx hb dL_same_716 (lv_at hl 0 rfl) ?_
                refine lv_aload_n hx hb dL_same_718 rfl (lv_at hl 8 rfl) ?_
                refine lv_aload hx hb dL_same_719 (lv_at hl 11 rfl) ?_
                refine lv_aload hx hb dL_same_721 (lv_at hl 13 rfl) ?_
                refine lv_aload hx hb dL_same_723 (lv_at hl 14 rfl) ?_
                refine lv_aload hx hb dL_same_725 (lv_at hl 17 rfl) ?_
                refine xr_call (As := [.int (nI k), .int (nI i669), .ref (la 0), .ref (la 3), .ref (la 6), .ref (la 7), .ref (la 11)]) (rest := [.int ((fL_bar L k i669))]) hC hI (qL_bar l D cy la L hV k (by omega) rfl i669 (by omega) rfl) (va_cwS 7 hts gL_same_L_bar rfl rfl rfl (by decide +kernel) ⟨Nat.le_of_ble_eq_true rfl, Nat.le_of_ble_eq_true rfl⟩) rfl hl.1 rfl (Nat.le_of_ble_eq_true rfl) dL_same_727 ⟨(by show _ ≤ 200; omega), (by show _ ≤ 1300; omega)⟩ (fun H locs hI => ?_)
                refine lv_icmp_ne (tgt := 790) hx hb dL_same_730 (by decide) (fun c9 => absurd rfl c9) (fun _ => ?_)
                refine lv_aload_n hx hb dL_same_733 rfl (lv_at hl 6 rfl) ?_
                refine lv_iload hx hb dL_same_734 (lv_at hl 0 rfl) ?_
                refine xr_rd (As := [.int (nI i669)]) (rest := []) (v := (fL_first L i669)) hC hK hI (hE12 i669 hlt669) (qX7_first l hC.2.1 A D cy g hK.1 S e0 hK.v (nI i669)) (cwV 1 hts gL_same_X7_first rfl rfl rfl (by decide +kernel) ⟨Nat.le_of_ble_eq_true rfl, Nat.le_of_ble_eq_true rfl⟩) rfl hl.1 rfl (Nat.le_of_ble_eq_true rfl) dL_same_736 ⟨(by show _ ≤ 200; omega), (by show _ ≤ 1300; omega)⟩ (fun H locs hI => ?_)
                refine lv_iload hx hb dL_same_739 (lv_at hl 0 rfl) ?_
                refine lv_aload_n hx hb dL_same_741 rfl (lv_at hl 8 rfl) ?_
                refine lv_aload hx hb dL_same_742 (lv_at hl 13 rfl) ?_
                refine lv_aload hx hb dL_same_744 (lv_at hl 14 rfl) ?_
                refine lv_aload hx hb dL_same_746 (lv_at hl 17 rfl) ?_
                refine xr_call (As := [.int (nI i669), .ref (la 0), .ref (la 6), .ref (la 7), .ref (la 11)]) (rest := [.int ((fL_first L i669))]) hC hI (qL_first l D cy la L hV i669 (by omega) rfl) (va_cwS 5 hts gL_same_L_first rfl rfl rfl (by decide +kernel) ⟨Nat.le_of_ble_eq_true rfl, Nat.le_of_ble_eq_true rfl⟩) rfl hl.1 rfl (Nat.le_of_ble_eq_true rfl) dL_same_748 ⟨(by show _ ≤ 200; omega), (by show _ ≤ 1300; omega)⟩ (fun H locs hI => ?_)
                refine lv_icmp_ne (tgt := 790) hx hb dL_same_751 (by decide) (fun c9 => absurd rfl c9) (fun _ => ?_)
                refine lv_iload hx hb dL_same_754 (lv_at hl 0 rfl) ?_
                refine lv_iload_n hx hb dL_same_756 rfl (lv_at hl 7 rfl) ?_
                refine lv_aload hx hb dL_same_757 (lv_at hl 17 rfl) ?_
                refine lv_iconst (v := 1) hx hb dL_same_759 (by decide) ?_
                refine xr_ld hC hI 11 (by decide) (nx_in (by decide : (1 : Int32) = nI 1) (by decide) (by decide)) (v := (L 11 1)) (congrArg (L 11) (by decide : ix 1 = 1)) dL_same_760 ?_
                refine lv_irem hx hb dL_same_761 (cnt_ne hV.n1 hlt669) ?_
                refine w_joinK (σ := Unit) 786 (115 + 4 * i669 + 4) (694 + 24 * i669 + 24) (fun _ H locs ls => XI A B D cy g n0 la s S L H locs ∧ lv_has ls 18 [(17, .int (nI i669)), (12, .int 1), (16, .int (nI i_)), (15, .int (nI t)), (14, .int (nI k)), (13, .int (lL_same_38 L (q4 L))), (0, .ref x0), (1, .int zy), (2, .ref (la 0)), (3, .ref (la 1)), (4, .ref (la 2)), (5, .ref (la 3)), (6, .ref (la 4)), (7, .ref (la 6)), (8, .ref (la 7)), (9, .ref (la 8)), (10, .ref (la 9)), (11, .ref (la 11))]) (fun _ => []) ?_ (fun J786 => ?_)
                · intro _ H locs ls ⟨hI, hl⟩
                  refine lv_iconst (v := 1) hx hb dL_same_786 (by decide) ?_
                  refine lv_goto (tgt := 791) hx hb dL_same_787 (by decide) ?_
                  refine lv_istore (lv' := [(12, .int 1), (17, .int (nI i669)), (16, .int (nI i_)), (15, .int (nI t)), (14, .int (nI k)), (13, .int (lL_same_38 L (q4 L))), (0, .ref x0), (1, .int zy), (2, .ref (la 0)), (3, .ref (la 1)), (4, .ref (la 2)), (5, .ref (la 3)), (6, .ref (la 4)), (7, .ref (la 6)), (8, .ref (la 7)), (9, .ref (la 8)), (10, .ref (la 9)), (11, .ref (la 11))]) hx hb dL_same_791 hl (by decide) rfl (fun ls hl => ?_)
                  refine lv_iinc (v := (nI (i669 + 1))) (lv' := [(17, .int (nI (i669 + 1))), (12, .int 1), (16, .int (nI i_)), (15, .int (nI t)), (14, .int (nI k)), (13, .int (lL_same_38 L (q4 L))), (0, .ref x0), (1, .int zy), (2, .ref (la 0)), (3, .ref (la 1)), (4, .ref (la 2)), (5, .ref (la 3)), (6, .ref (la 4)), (7, .ref (la 6)), (8, .ref (la 7)), (9, .ref (la 8)), (10, .ref (la 9)), (11, .ref (la 11))]) hx hb dL_same_793 hl (k := 1) rfl (nI_1 i669) (by decide) rfl (fun ls hl => ?_)
                  refine lv_goto (tgt := 669) hx hb dL_same_796 (by decide) ?_
                  refine W.widen (k := 115 + 4 * (i669 + 1)) (n := 694 + 24 * (i669 + 1)) (by omega) (by omega) ?_
                  exact ih669 () _ _ ls hlt669 ⟨hI, lv_sub hl [0, 1, 2, 3, 4, 5, 6, 7, 8, 9, 10, 11, 12, 13, 14, 15, 16, 17] rfl⟩
                · skip
                  refine lv_icmp_ne (tgt := 786) hx hb dL_same_762 (by decide) (fun c_34 => ?_) (fun c_34 => ?_)
                  · skip
                    refine W.widen (k := 115 + 4 * i669 + 4) (n := 694 + 24 * i669 + 24) (by omega) (by omega) ?_
                    exact J786 () _ _ ls ⟨hI, lv_sub hl [0, 1, 2, 3, 4, 5, 6, 7, 8, 9, 10, 11, 12, 13, 14, 15, 16, 17] rfl⟩
                  · skip
                    refine lv_aload_n hx hb dL_same_765 rfl (lv_at hl 6 rfl) ?_
                    refine lv_iload hx hb dL_same_766 (lv_at hl 0 rfl) ?_
                    refine xr_rd (As := [.int (nI i669)]) (rest := []) (v := (fL_first L i669)) hC hK hI (hE13 i669 hlt669) (qX7_firstAnew l hC.2.1 A D cy g hK.1 S e0 hK.v (nI i669)) (cwV 1 hts gL_same_X7_firstAnew rfl rfl rfl (by decide +kernel) ⟨Nat.le_of_ble_eq_true rfl, Nat.le_of_ble_eq_true rfl⟩) rfl hl.1 rfl (Nat.le_of_ble_eq_true rfl) dL_same_768 ⟨(by show _ ≤ 200; omega), (by show _ ≤ 1300; omega)⟩ (fun H locs hI => ?_)
                    refine lv_iload hx hb dL_same_771 (lv_at hl 0 rfl) ?_
                    refine lv_aload_n hx hb dL_same_773 rfl (lv_at hl 8 rfl) ?_
                    refine lv_aload hx hb dL_same_774 (lv_at hl 13 rfl) ?_
                    refine lv_aload hx hb dL_same_776 (lv_at hl 14 rfl) ?_
                    refine lv_aload hx hb dL_same_778 (lv_at hl 17 rfl) ?_
                    refine xr_call (As := [.int (nI i669), .ref (la 0), .ref (la 6), .ref (la 7), .ref (la 11)]) (rest := [.int ((fL_first L i669))]) hC hI (qL_first l D cy la L hV i669 (by omega) rfl) (va_cwS 5 hts gL_same_L_first rfl rfl rfl (by decide +kernel) ⟨Nat.le_of_ble_eq_true rfl, Nat.le_of_ble_eq_true rfl⟩) rfl hl.1 rfl (Nat.le_of_ble_eq_true rfl) dL_same_780 ⟨(by show _ ≤ 200; omega), (by show _ ≤ 1300; omega)⟩ (fun H locs hI => ?_)
                    refine lv_icmp_ne (tgt := 790) hx hb dL_same_783 (by decide) (fun c9 => absurd rfl c9) (fun _ => ?_)
                    refine W.widen (k := 115 + 4 * i669 + 4) (n := 694 + 24 * i669 + 24) (by omega) (by omega) ?_
                    exact J786 () _ _ ls ⟨hI, lv_sub hl [0, 1, 2, 3, 4, 5, 6, 7, 8, 9, 10, 11, 12, 13, 14, 15, 16, 17] rfl⟩
            · skip
              refine lv_icmp_eq (tgt := 659) hx hb dL_same_584 (by decide) (fun c_32 => ?_) (fun c_32 => ?_)
              · skip
                refine W.widen (k := 115) (n := 694) (by omega) (by omega) ?_
                exact J659 () _ _ ls ⟨hI, lv_sub hl [0, 1, 2, 3, 4, 5, 6, 7, 8, 9, 10, 11, 12, 13, 14, 15, 16] rfl⟩
              · skip
                have hi40 : i_ < q2 L := ne_lt_i hV.n2 hV.b2 hiq (by assumption)
                refine lv_aload_n hx hb dL_same_587 rfl (lv_at hl 5 rfl) ?_
                refine lv_iload hx hb dL_same_588 (lv_at hl 0 rfl) ?_
                refine lv_iconst (v := 0) hx hb dL_same_590 (by decide) ?_
                refine xr_rd (As := [.int (nI i_), .int 0]) (rest := []) (v := ((L 1 i_) - (L 1 i_) / 8 * 8)) hC hK hI (hE6 (by assumption) hi40) (qX7_ofClaim l hC.2.1 A D cy g hK.1 S e0 hK.v (nI i_) 0) (cwV 2 hts gL_same_X7_ofClaim rfl rfl rfl (by decide +kernel) ⟨Nat.le_of_ble_eq_true rfl, Nat.le_of_ble_eq_true rfl⟩) rfl hl.1 rfl (Nat.le_of_ble_eq_true rfl) dL_same_591 ⟨(by show _ ≤ 200; omega), (by show _ ≤ 1300; omega)⟩ (fun H locs hI => ?_)
                refine lv_aload_n hx hb dL_same_594 rfl (lv_at hl 8 rfl) ?_
                refine lv_iload hx hb dL_same_595 (lv_at hl 0 rfl) ?_
                refine xr_ld hC hI 1 (by decide) (show vp_in (nI i_) 40 from nx_in rfl (by omega) (by decide)) (v := (L 1 i_)) (congrArg (L 1) (nx_ix (x := (nI i_)) rfl (by omega))) dL_same_597 ?_
                refine lv_bipush (v := 8) hx hb dL_same_598 (by decide) ?_
                refine lv_irem hx hb dL_same_600 (by decide) ?_
                refine lv_icmp_ne (tgt := 663) hx hb dL_same_601 (by decide) (fun c9 => absurd rfl c9) (fun _ => ?_)
                refine lv_aload_n hx hb dL_same_604 rfl (lv_at hl 5 rfl) ?_
                refine lv_iload hx hb dL_same_605 (lv_at hl 0 rfl) ?_
                refine lv_iconst (v := 1) hx hb dL_same_607 (by decide) ?_
                refine xr_rd (As := [.int (nI i_), .int 1]) (rest := []) (v := (((L 1 i_) / 8) - ((L 1 i_) / 8) / 16384 * 16384)) hC hK hI (hE7 (by assumption) hi40) (qX7_ofClaim l hC.2.1 A D cy g hK.1 S e0 hK.v (nI i_) 1) (cwV 2 hts gL_same_X7_ofClaim rfl rfl rfl (by decide +kernel) ⟨Nat.le_of_ble_eq_true rfl, Nat.le_of_ble_eq_true rfl⟩) rfl hl.1 rfl (Nat.le_of_ble_eq_true rfl) dL_same_608 ⟨(by show _ ≤ 200; omega), (by show _ ≤ 1300; omega)⟩ (fun H locs hI => ?_)
                refine lv_aload_n hx hb dL_same_611 rfl (lv_at hl 8 rfl) ?_
                refine lv_iload hx hb dL_same_612 (lv_at hl 0 rfl) ?_
                refine xr_ld hC hI 1 (by decide) (show vp_in (nI i_) 40 from nx_in rfl (by omega) (by decide)) (v := (L 1 i_)) (congrArg (L 1) (nx_ix (x := (nI i_)) rfl (by omega))) dL_same_614 ?_
                refine lv_bipush (v := 8) hx hb dL_same_615 (by decide) ?_
                refine lv_idiv hx hb dL_same_617 (by decide) ?_
                refine lv_sipush (v := 16384) hx hb dL_same_618 (by decide) ?_
                refine lv_irem hx hb dL_same_621 (by decide) ?_
                refine lv_icmp_ne (tgt := 663) hx hb dL_same_622 (by decide) (fun c9 => absurd rfl c9) (fun _ => ?_)
                refine lv_aload_n hx hb dL_same_625 rfl (lv_at hl 5 rfl) ?_
                refine lv_iload hx hb dL_same_626 (lv_at hl 0 rfl) ?_
                refine lv_iconst (v := 2) hx hb dL_same_628 (by decide) ?_
                refine xr_rd (As := [.int (nI i_), .int 2]) (rest := []) (v := ((L 1 i_) / 131072)) hC hK hI (hE8 (by assumption) hi40) (qX7_ofClaim l hC.2.1 A D cy g hK.1 S e0 hK.v (nI i_) 2) (cwV 2 hts gL_same_X7_ofClaim rfl rfl rfl (by decide +kernel) ⟨Nat.le_of_ble_eq_true rfl, Nat.le_of_ble_eq_true rfl⟩) rfl hl.1 rfl (Nat.le_of_ble_eq_true rfl) dL_same_629 ⟨(by show _ ≤ 200; omega), (by show _ ≤ 1300; omega)⟩ (fun H locs hI => ?_)
                refine lv_aload_n hx hb dL_same_632 rfl (lv_at hl 8 rfl) ?_
                refine lv_iload hx hb dL_same_633 (lv_at hl 0 rfl) ?_
                refine xr_ld hC hI 1 (by decide) (show vp_in (nI i_) 40 from nx_in rfl (by omega) (by decide)) (v := (L 1 i_)) (congrArg (L 1) (nx_ix (x := (nI i_)) rfl (by omega))) dL_same_635 ?_
                refine lv_ldc hx hb hown k_76 dL_same_636 ?_
                refine lv_idiv hx hb dL_same_638 (by decide) ?_
                refine lv_icmp_ne (tgt := 663) hx hb dL_same_639 (by decide) (fun c9 => absurd rfl c9) (fun _ => ?_)
                refine lv_aload_n hx hb dL_same_642 rfl (lv_at hl 5 rfl) ?_
                refine lv_iload hx hb dL_same_643 (lv_at hl 0 rfl) ?_
                refine lv_iconst (v := 3) hx hb dL_same_645 (by decide) ?_
                refine xr_rd (As := [.int (nI i_), .int 3]) (rest := []) (v := ((L 2 i_) - 1)) hC hK hI (hE9 (by assumption) hi40) (qX7_ofClaim l hC.2.1 A D cy g hK.1 S e0 hK.v (nI i_) 3) (cwV 2 hts gL_same_X7_ofClaim rfl rfl rfl (by decide +kernel) ⟨Nat.le_of_ble_eq_true rfl, Nat.le_of_ble_eq_true rfl⟩) rfl hl.1 rfl (Nat.le_of_ble_eq_true rfl) dL_same_646 ⟨(by show _ ≤ 200; omega), (by show _ ≤ 1300; omega)⟩ (fun H locs hI => ?_)
                refine lv_aload hx hb dL_same_649 (lv_at hl 9 rfl) ?_
                refine lv_iload hx hb dL_same_651 (lv_at hl 0 rfl) ?_
                refine xr_ld hC hI 2 (by decide) (show vp_in (nI i_) 40 from nx_in rfl (by omega) (by decide)) (v := (L 2 i_)) (congrArg (L 2) (nx_ix (x := (nI i_)) rfl (by omega))) dL_same_653 ?_
                refine lv_iconst (v := 1) hx hb dL_same_654 (by decide) ?_
                refine lv_isub hx hb dL_same_655 ?_
                refine lv_icmp_ne (tgt := 663) hx hb dL_same_656 (by decide) (fun c9 => absurd rfl c9) (fun _ => ?_)
                refine W.widen (k := 115) (n := 694) (by omega) (by omega) ?_
                exact J659 () _ _ ls ⟨hI, lv_sub hl [0, 1, 2, 3, 4, 5, 6, 7, 8, 9, 10, 11, 12, 13, 14, 15, 16] rfl⟩
          · skip
            refine lv_icmp_eq (tgt := 570) hx hb dL_same_550 (by decide) (fun c_30 => ?_) (fun c_30 => ?_)
            · skip
              refine lv_iconst (v := 1) hx hb dL_same_570 (by decide) ?_
              refine lv_goto (tgt := 575) hx hb dL_same_571 (by decide) ?_
              refine W.widen (k := 111) (n := 670) (by omega) (by omega) ?_
              exact J575 1 _ _ ls ⟨(by unfold jL_same_575; first | (rw [if_pos (by assumption)]; done) | (rw [if_neg (by assumption)]; done) | (rw [if_neg (by assumption), if_pos (by assumption)]; done) | (rw [if_neg (by assumption), if_neg (by assumption)]; done)), hI, lv_sub hl [0, 1, 2, 3, 4, 5, 6, 7, 8, 9, 10, 11, 12, 13, 14, 15, 16] rfl⟩
            · skip
              refine lv_aload hx hb dL_same_553 (lv_at hl 12 rfl) ?_
              refine lv_bipush (v := 8) hx hb dL_same_555 (by decide) ?_
              refine lv_iload hx hb dL_same_557 (lv_at hl 2 rfl) ?_
              refine lv_imul hx hb dL_same_559 ?_
              refine lv_iconst (v := 4) hx hb dL_same_560 (by decide) ?_
              refine lv_iadd hx hb dL_same_561 ?_
              refine xr_ld hC hI 6 (by decide) (show vp_in ((8 * (nI k)) + 4) 64 from nx_in (nx_add (nx_mul (by decide : (8 : Int32) = nI 8) rfl) (by decide : (4 : Int32) = nI 4)) (by omega) (by decide)) (v := (L 6 (8 * k + 4))) (congrArg (L 6) (nx_ix (x := ((8 * (nI k)) + 4)) (nx_add (nx_mul (by decide : (8 : Int32) = nI 8) rfl) (by decide : (4 : Int32) = nI 4)) (by omega))) dL_same_562 ?_
              refine lv_aload hx hb dL_same_563 (lv_at hl 16 rfl) ?_
              refine lv_iconst (v := 0) hx hb dL_same_565 (by decide) ?_
              refine xr_ld hC hI 11 (by decide) (nx_in (by decide : (0 : Int32) = nI 0) (by decide) (by decide)) (v := (L 11 0)) (congrArg (L 11) (by decide : ix 0 = 0)) dL_same_566 ?_
              refine lv_icmp_gt (tgt := 574) hx hb dL_same_567 (by decide) (fun c_31 => ?_) (fun c_31 => ?_)
              · skip
                refine lv_iconst (v := 0) hx hb dL_same_574 (by decide) ?_
                refine W.widen (k := 111) (n := 670) (by omega) (by omega) ?_
                exact J575 0 _ _ ls ⟨(by unfold jL_same_575; first | (rw [if_pos (by assumption)]; done) | (rw [if_neg (by assumption)]; done) | (rw [if_neg (by assumption), if_pos (by assumption)]; done) | (rw [if_neg (by assumption), if_neg (by assumption)]; done)), hI, lv_sub hl [0, 1, 2, 3, 4, 5, 6, 7, 8, 9, 10, 11, 12, 13, 14, 15, 16] rfl⟩
              · skip
                refine lv_iconst (v := 1) hx hb dL_same_570 (by decide) ?_
                refine lv_goto (tgt := 575) hx hb dL_same_571 (by decide) ?_
                refine W.widen (k := 111) (n := 670) (by omega) (by omega) ?_
                exact J575 1 _ _ ls ⟨(by unfold jL_same_575; first | (rw [if_pos (by assumption)]; done) | (rw [if_neg (by assumption)]; done) | (rw [if_neg (by assumption), if_pos (by assumption)]; done) | (rw [if_neg (by assumption), if_neg (by assumption)]; done)), hI, lv_sub hl [0, 1, 2, 3, 4, 5, 6, 7, 8, 9, 10, 11, 12, 13, 14, 15, 16] rfl⟩
      · skip
        refine lv_if_eq (tgt := 424) hx hb dL_same_406 (by decide) (fun c_28 => ?_) (fun c_28 => ?_)
        · skip
          refine W.widen (k := 106) (n := 636) (by omega) (by omega) ?_
          exact J424 () _ _ ls ⟨hI, lv_sub hl [0, 1, 2, 3, 4, 5, 6, 7, 8, 9, 10, 11, 12, 13, 14] rfl⟩
        · skip
          refine lv_aload_n hx hb dL_same_409 rfl (lv_at hl 3 rfl) ?_
          refine lv_iconst (v := 0) hx hb dL_same_410 (by decide) ?_
          refine lv_iconst (v := 3) hx hb dL_same_411 (by decide) ?_
          refine xr_rd (As := [.int 0, .int 3]) (rest := []) (v := ((L 2 0) - 1)) hC hK hI (hE2 (by assumption)) (qX7_ofClaim l hC.2.1 A D cy g hK.1 S e0 hK.v 0 3) (cwV 2 hts gL_same_X7_ofClaim rfl rfl rfl (by decide +kernel) ⟨Nat.le_of_ble_eq_true rfl, Nat.le_of_ble_eq_true rfl⟩) rfl hl.1 rfl (Nat.le_of_ble_eq_true rfl) dL_same_412 ⟨(by show _ ≤ 200; omega), (by show _ ≤ 1300; omega)⟩ (fun H locs hI => ?_)
          refine lv_aload hx hb dL_same_415 (lv_at hl 7 rfl) ?_
          refine lv_iconst (v := 0) hx hb dL_same_417 (by decide) ?_
          refine xr_ld hC hI 2 (by decide) (nx_in (by decide : (0 : Int32) = nI 0) (by decide) (by decide)) (v := (L 2 0)) (congrArg (L 2) (by decide : ix 0 = 0)) dL_same_418 ?_
          refine lv_iconst (v := 1) hx hb dL_same_419 (by decide) ?_
          refine lv_isub hx hb dL_same_420 ?_
          refine lv_icmp_ne (tgt := 428) hx hb dL_same_421 (by decide) (fun c9 => absurd rfl c9) (fun _ => ?_)
          refine W.widen (k := 106) (n := 636) (by omega) (by omega) ?_
          exact J424 () _ _ ls ⟨hI, lv_sub hl [0, 1, 2, 3, 4, 5, 6, 7, 8, 9, 10, 11, 12, 13, 14] rfl⟩
    · have hlt270 : i270 < 15 := w_in (by decide : (15 : Int32) = nI 15) hi270 (by decide) c_19
      refine lv_iload hx hb dL_same_277 (lv_at hl 2 rfl) ?_
      refine lv_if_eq (tgt := 387) hx hb dL_same_279 (by decide) (fun c => absurd c (by decide : ¬ (1 : Int32) = 0)) (fun _ => ?_)
      refine lv_iload hx hb dL_same_282 (lv_at hl 0 rfl) ?_
      refine lv_bipush (v := 12) hx hb dL_same_284 (by decide) ?_
      refine w_joinK (σ := Unit) 335 (74 + 2 * i270 + 1) (444 + 12 * i270 + 6) (fun _ H locs ls => XI A B D cy g n0 la s S L H locs ∧ lv_has ls 18 [(14, .int (nI i270)), (13, .int (lL_same_38 L (q4 L))), (12, .int 1), (0, .ref x0), (1, .int zy), (2, .ref (la 0)), (3, .ref (la 1)), (4, .ref (la 2)), (5, .ref (la 3)), (6, .ref (la 4)), (7, .ref (la 6)), (8, .ref (la 7)), (9, .ref (la 8)), (10, .ref (la 9)), (11, .ref (la 11))]) (fun _ => [.int 1]) ?_ (fun J335 => ?_)
      · intro _ H locs ls ⟨hI, hl⟩
        refine lv_istore (lv' := [(12, .int 1), (14, .int (nI i270)), (13, .int (lL_same_38 L (q4 L))), (0, .ref x0), (1, .int zy), (2, .ref (la 0)), (3, .ref (la 1)), (4, .ref (la 2)), (5, .ref (la 3)), (6, .ref (la 4)), (7, .ref (la 6)), (8, .ref (la 7)), (9, .ref (la 8)), (10, .ref (la 9)), (11, .ref (la 11))]) hx hb dL_same_335 hl (by decide) rfl (fun ls hl => ?_)
        refine lv_iload hx hb dL_same_337 (lv_at hl 0 rfl) ?_
        refine lv_if_eq (tgt := 378) hx hb dL_same_339 (by decide) (fun c => absurd c (by decide : ¬ (1 : Int32) = 0)) (fun _ => ?_)
        refine lv_aload_n hx hb dL_same_342 rfl (lv_at hl 3 rfl) ?_
        refine lv_iload hx hb dL_same_343 (lv_at hl 1 rfl) ?_
        refine lv_iconst (v := 5) hx hb dL_same_345 (by decide) ?_
        refine lv_irem hx hb dL_same_346 (by decide) ?_
        refine lv_iload hx hb dL_same_347 (lv_at hl 1 rfl) ?_
        refine lv_iconst (v := 5) hx hb dL_same_349 (by decide) ?_
        refine lv_idiv hx hb dL_same_350 (by decide) ?_
        refine xr_rd (As := [.int ((nI i270) - (nI i270) / 5 * 5), .int ((nI i270) / 5)]) (rest := []) (v := (L 4 (8 * (i270 % 5) + 4 + (i270 / 5)))) hC hK hI (hE16 i270 hlt270) (qX7_got l hC.2.1 A D cy g hK.1 S e0 hK.v ((nI i270) - (nI i270) / 5 * 5) ((nI i270) / 5)) (cwV 2 hts gL_same_X7_got rfl rfl rfl (by decide +kernel) ⟨Nat.le_of_ble_eq_true rfl, Nat.le_of_ble_eq_true rfl⟩) rfl hl.1 rfl (Nat.le_of_ble_eq_true rfl) dL_same_351 ⟨(by show _ ≤ 200; omega), (by show _ ≤ 1300; omega)⟩ (fun H locs hI => ?_)
        refine lv_aload hx hb dL_same_354 (lv_at hl 9 rfl) ?_
        refine lv_bipush (v := 8) hx hb dL_same_356 (by decide) ?_
        refine lv_iload hx hb dL_same_358 (lv_at hl 1 rfl) ?_
        refine lv_iconst (v := 5) hx hb dL_same_360 (by decide) ?_
        refine lv_irem hx hb dL_same_361 (by decide) ?_
        refine lv_imul hx hb dL_same_362 ?_
        refine lv_iconst (v := 4) hx hb dL_same_363 (by decide) ?_
        refine lv_iadd hx hb dL_same_364 ?_
        refine lv_iload hx hb dL_same_365 (lv_at hl 1 rfl) ?_
        refine lv_iconst (v := 5) hx hb dL_same_367 (by decide) ?_
        refine lv_idiv hx hb dL_same_368 (by decide) ?_
        refine lv_iadd hx hb dL_same_369 ?_
        refine xr_ld hC hI 4 (by decide) (show vp_in (((8 * ((nI i270) - (nI i270) / 5 * 5)) + 4) + ((nI i270) / 5)) 40 from nx_in (nx_add (nx_add (nx_mul (by decide : (8 : Int32) = nI 8) (nx_rem 5 (by omega) (by decide) (by decide) (by decide))) (by decide : (4 : Int32) = nI 4)) (nx_div 5 (by omega) (by decide) (by decide) (by decide))) (by omega) (by decide)) (v := (L 4 (8 * (i270 % 5) + 4 + (i270 / 5)))) (congrArg (L 4) (nx_ix (x := (((8 * ((nI i270) - (nI i270) / 5 * 5)) + 4) + ((nI i270) / 5))) (nx_add (nx_add (nx_mul (by decide : (8 : Int32) = nI 8) (nx_rem 5 (by omega) (by decide) (by decide) (by decide))) (by decide : (4 : Int32) = nI 4)) (nx_div 5 (by omega) (by decide) (by decide) (by decide))) (by omega))) dL_same_370 ?_
        refine lv_icmp_ne (tgt := 378) hx hb dL_same_371 (by decide) (fun c9 => absurd rfl c9) (fun _ => ?_)
        refine lv_iconst (v := 1) hx hb dL_same_374 (by decide) ?_
        refine lv_goto (tgt := 379) hx hb dL_same_375 (by decide) ?_
        refine lv_istore (lv' := [(12, .int 1), (14, .int (nI i270)), (13, .int (lL_same_38 L (q4 L))), (0, .ref x0), (1, .int zy), (2, .ref (la 0)), (3, .ref (la 1)), (4, .ref (la 2)), (5, .ref (la 3)), (6, .ref (la 4)), (7, .ref (la 6)), (8, .ref (la 7)), (9, .ref (la 8)), (10, .ref (la 9)), (11, .ref (la 11))]) hx hb dL_same_379 hl (by decide) rfl (fun ls hl => ?_)
        refine lv_iinc (v := (nI (i270 + 1))) (lv' := [(14, .int (nI (i270 + 1))), (12, .int 1), (13, .int (lL_same_38 L (q4 L))), (0, .ref x0), (1, .int zy), (2, .ref (la 0)), (3, .ref (la 1)), (4, .ref (la 2)), (5, .ref (la 3)), (6, .ref (la 4)), (7, .ref (la 6)), (8, .ref (la 7)), (9, .ref (la 8)), (10, .ref (la 9)), (11, .ref (la 11))]) hx hb dL_same_381 hl (k := 1) rfl (nI_1 i270) (by decide) rfl (fun ls hl => ?_)
        refine lv_goto (tgt := 270) hx hb dL_same_384 (by decide) ?_
        refine W.widen (k := 74 + 2 * (i270 + 1)) (n := 444 + 12 * (i270 + 1)) (by omega) (by omega) ?_
        exact ih270 () _ _ ls hlt270 ⟨hI, lv_sub hl [0, 2, 1, 3, 4, 5, 6, 7, 8, 9, 10, 11, 12, 13, 14] rfl⟩
      · skip
        refine lv_icmp_ge (tgt := 317) hx hb dL_same_286 (by decide) (fun c_27 => ?_) (fun c_27 => ?_)
        · skip
          have h12 : 12 ≤ i270 := ge_12 (by omega) (by assumption)
          refine lv_aload_n hx hb dL_same_317 rfl (lv_at hl 3 rfl) ?_
          refine lv_iconst (v := 3) hx hb dL_same_318 (by decide) ?_
          refine lv_iload hx hb dL_same_319 (lv_at hl 0 rfl) ?_
          refine lv_bipush (v := 12) hx hb dL_same_321 (by decide) ?_
          refine lv_isub hx hb dL_same_323 ?_
          refine xr_rd (As := [.int 3, .int ((nI i270) - 12)]) (rest := []) (v := 0) hC hK hI (hE14 i270 h12 hlt270) (qX7_ofFirm l hC.2.1 A D cy g hK.1 S e0 hK.v 3 ((nI i270) - 12)) (cwV 2 hts gL_same_X7_ofFirm rfl rfl rfl (by decide +kernel) ⟨Nat.le_of_ble_eq_true rfl, Nat.le_of_ble_eq_true rfl⟩) rfl hl.1 rfl (Nat.le_of_ble_eq_true rfl) dL_same_324 ⟨(by show _ ≤ 200; omega), (by show _ ≤ 1300; omega)⟩ (fun H locs hI => ?_)
          refine lv_if_ne (tgt := 334) hx hb dL_same_327 (by decide) (fun c => absurd (by decide : (0 : Int32) = 0) c) (fun _ => ?_)
          refine lv_iconst (v := 1) hx hb dL_same_330 (by decide) ?_
          refine lv_goto (tgt := 335) hx hb dL_same_331 (by decide) ?_
          refine W.widen (k := 74 + 2 * i270 + 1) (n := 444 + 12 * i270 + 6) (by omega) (by omega) ?_
          exact J335 () _ _ ls ⟨hI, lv_sub hl [0, 1, 2, 3, 4, 5, 6, 7, 8, 9, 10, 11, 12, 13, 14] rfl⟩
        · skip
          have h12 : i270 < 12 := lt_12 (by omega) (by assumption)
          refine lv_aload_n hx hb dL_same_289 rfl (lv_at hl 3 rfl) ?_
          refine lv_iload hx hb dL_same_290 (lv_at hl 0 rfl) ?_
          refine lv_iconst (v := 4) hx hb dL_same_292 (by decide) ?_
          refine lv_idiv hx hb dL_same_293 (by decide) ?_
          refine lv_iload hx hb dL_same_294 (lv_at hl 0 rfl) ?_
          refine lv_iconst (v := 4) hx hb dL_same_296 (by decide) ?_
          refine lv_irem hx hb dL_same_297 (by decide) ?_
          refine xr_rd (As := [.int ((nI i270) / 4), .int ((nI i270) - (nI i270) / 4 * 4)]) (rest := []) (v := (L 9 i270)) hC hK hI (hE15 i270 h12) (qX7_ofFirm l hC.2.1 A D cy g hK.1 S e0 hK.v ((nI i270) / 4) ((nI i270) - (nI i270) / 4 * 4)) (cwV 2 hts gL_same_X7_ofFirm rfl rfl rfl (by decide +kernel) ⟨Nat.le_of_ble_eq_true rfl, Nat.le_of_ble_eq_true rfl⟩) rfl hl.1 rfl (Nat.le_of_ble_eq_true rfl) dL_same_298 ⟨(by show _ ≤ 200; omega), (by show _ ≤ 1300; omega)⟩ (fun H locs hI => ?_)
          refine lv_aload hx hb dL_same_301 (lv_at hl 13 rfl) ?_
          refine lv_iload hx hb dL_same_303 (lv_at hl 0 rfl) ?_
          refine xr_ld hC hI 9 (by decide) (show vp_in (nI i270) 12 from nx_in rfl (by omega) (by decide)) (v := (L 9 i270)) (congrArg (L 9) (nx_ix (x := (nI i270)) rfl (by omega))) dL_same_305 ?_
          refine lv_icmp_ne (tgt := 313) hx hb dL_same_306 (by decide) (fun c9 => absurd rfl c9) (fun _ => ?_)
          refine lv_iconst (v := 1) hx hb dL_same_309 (by decide) ?_
          refine lv_goto (tgt := 335) hx hb dL_same_310 (by decide) ?_
          refine W.widen (k := 74 + 2 * i270 + 1) (n := 444 + 12 * i270 + 6) (by omega) (by omega) ?_
          exact J335 () _ _ ls ⟨hI, lv_sub hl [0, 1, 2, 3, 4, 5, 6, 7, 8, 9, 10, 11, 12, 13, 14] rfl⟩
  · have hlt38 : i38 < q4 L := w_in hV.n4 hi38 (by have := hV.b4; omega) c_1
    refine lv_iload hx hb dL_same_47 (lv_at hl 2 rfl) ?_
    refine lv_if_eq (tgt := 267) hx hb dL_same_49 (by decide) (fun c => absurd c (by decide : ¬ (1 : Int32) = 0)) (fun _ => ?_)
    refine lv_iload hx hb dL_same_52 (lv_at hl 1 rfl) ?_
    refine lv_aload hx hb dL_same_54 (lv_at hl 10 rfl) ?_
    refine lv_bipush (v := 8) hx hb dL_same_56 (by decide) ?_
    refine lv_iload hx hb dL_same_58 (lv_at hl 0 rfl) ?_
    refine lv_imul hx hb dL_same_60 ?_
    refine lv_iconst (v := 4) hx hb dL_same_61 (by decide) ?_
    refine lv_iadd hx hb dL_same_62 ?_
    refine xr_ld hC hI 6 (by decide) (show vp_in ((8 * (nI i38)) + 4) 64 from nx_in (nx_add (nx_mul (by decide : (8 : Int32) = nI 8) rfl) (by decide : (4 : Int32) = nI 4)) (by omega) (by decide)) (v := (L 6 (8 * i38 + 4))) (congrArg (L 6) (nx_ix (x := ((8 * (nI i38)) + 4)) (nx_add (nx_mul (by decide : (8 : Int32) = nI 8) rfl) (by decide : (4 : Int32) = nI 4)) (by omega))) dL_same_63 ?_
    refine lv_aload hx hb dL_same_64 (lv_at hl 14 rfl) ?_
    refine lv_iconst (v := 0) hx hb dL_same_66 (by decide) ?_
    refine xr_ld hC hI 11 (by decide) (nx_in (by decide : (0 : Int32) = nI 0) (by decide) (by decide)) (v := (L 11 0)) (congrArg (L 11) (by decide : ix 0 = 0)) dL_same_67 ?_
    refine w_joinK (σ := Int32) 76 (2 + 9 * i38 + 0) (12 + 54 * i38 + 0) (fun y76_0 H locs ls => y76_0 = jL_same_76 L i38 ∧ XI A B D cy g n0 la s S L H locs ∧ lv_has ls 18 [(14, .int (nI i38)), (13, .int x38_13), (12, .int 1), (0, .ref x0), (1, .int zy), (2, .ref (la 0)), (3, .ref (la 1)), (4, .ref (la 2)), (5, .ref (la 3)), (6, .ref (la 4)), (7, .ref (la 6)), (8, .ref (la 7)), (9, .ref (la 8)), (10, .ref (la 9)), (11, .ref (la 11))]) (fun y76_0 => [.int y76_0, .int x38_13]) ?_ (fun J76 => ?_)
    · intro y76_0 H locs ls ⟨hJ76, hI, hl⟩
      refine lv_iadd hx hb dL_same_76 ?_
      refine lv_istore (lv' := [(13, .int (x38_13 + y76_0)), (14, .int (nI i38)), (12, .int 1), (0, .ref x0), (1, .int zy), (2, .ref (la 0)), (3, .ref (la 1)), (4, .ref (la 2)), (5, .ref (la 3)), (6, .ref (la 4)), (7, .ref (la 6)), (8, .ref (la 7)), (9, .ref (la 8)), (10, .ref (la 9)), (11, .ref (la 11))]) hx hb dL_same_77 hl (by decide) rfl (fun ls hl => ?_)
      refine lv_aload_n hx hb dL_same_79 rfl (lv_at hl 3 rfl) ?_
      refine lv_iload hx hb dL_same_80 (lv_at hl 1 rfl) ?_
      refine lv_iconst (v := 0) hx hb dL_same_82 (by decide) ?_
      refine xr_rd (As := [.int (nI i38), .int 0]) (rest := []) (v := (L 6 (8 * i38))) hC hK hI (hE17 i38 hlt38) (qX7_ofSuit l hC.2.1 A D cy g hK.1 S e0 hK.v (nI i38) 0) (cwV 2 hts gL_same_X7_ofSuit rfl rfl rfl (by decide +kernel) ⟨Nat.le_of_ble_eq_true rfl, Nat.le_of_ble_eq_true rfl⟩) rfl hl.1 rfl (Nat.le_of_ble_eq_true rfl) dL_same_83 ⟨(by show _ ≤ 200; omega), (by show _ ≤ 1300; omega)⟩ (fun H locs hI => ?_)
      refine lv_aload hx hb dL_same_86 (lv_at hl 10 rfl) ?_
      refine lv_bipush (v := 8) hx hb dL_same_88 (by decide) ?_
      refine lv_iload hx hb dL_same_90 (lv_at hl 1 rfl) ?_
      refine lv_imul hx hb dL_same_92 ?_
      refine xr_ld hC hI 6 (by decide) (show vp_in (8 * (nI i38)) 64 from nx_in (nx_mul (by decide : (8 : Int32) = nI 8) rfl) (by omega) (by decide)) (v := (L 6 (8 * i38))) (congrArg (L 6) (nx_ix (x := (8 * (nI i38))) (nx_mul (by decide : (8 : Int32) = nI 8) rfl) (by omega))) dL_same_93 ?_
      refine lv_icmp_ne (tgt := 258) hx hb dL_same_94 (by decide) (fun c9 => absurd rfl c9) (fun _ => ?_)
      refine lv_aload_n hx hb dL_same_97 rfl (lv_at hl 3 rfl) ?_
      refine lv_iload hx hb dL_same_98 (lv_at hl 1 rfl) ?_
      refine lv_iconst (v := 1) hx hb dL_same_100 (by decide) ?_
      refine xr_rd (As := [.int (nI i38), .int 1]) (rest := []) (v := (L 6 (8 * i38 + 1))) hC hK hI (hE18 i38 hlt38) (qX7_ofSuit l hC.2.1 A D cy g hK.1 S e0 hK.v (nI i38) 1) (cwV 2 hts gL_same_X7_ofSuit rfl rfl rfl (by decide +kernel) ⟨Nat.le_of_ble_eq_true rfl, Nat.le_of_ble_eq_true rfl⟩) rfl hl.1 rfl (Nat.le_of_ble_eq_true rfl) dL_same_101 ⟨(by show _ ≤ 200; omega), (by show _ ≤ 1300; omega)⟩ (fun H locs hI => ?_)
      refine lv_aload hx hb dL_same_104 (lv_at hl 10 rfl) ?_
      refine lv_bipush (v := 8) hx hb dL_same_106 (by decide) ?_
      refine lv_iload hx hb dL_same_108 (lv_at hl 1 rfl) ?_
      refine lv_imul hx hb dL_same_110 ?_
      refine lv_iconst (v := 1) hx hb dL_same_111 (by decide) ?_
      refine lv_iadd hx hb dL_same_112 ?_
      refine xr_ld hC hI 6 (by decide) (show vp_in ((8 * (nI i38)) + 1) 64 from nx_in (nx_add (nx_mul (by decide : (8 : Int32) = nI 8) rfl) (by decide : (1 : Int32) = nI 1)) (by omega) (by decide)) (v := (L 6 (8 * i38 + 1))) (congrArg (L 6) (nx_ix (x := ((8 * (nI i38)) + 1)) (nx_add (nx_mul (by decide : (8 : Int32) = nI 8) rfl) (by decide : (1 : Int32) = nI 1)) (by omega))) dL_same_113 ?_
      refine lv_icmp_ne (tgt := 258) hx hb dL_same_114 (by decide) (fun c9 => absurd rfl c9) (fun _ => ?_)
      refine lv_aload_n hx hb dL_same_117 rfl (lv_at hl 3 rfl) ?_
      refine lv_iload hx hb dL_same_118 (lv_at hl 1 rfl) ?_
      refine lv_iconst (v := 2) hx hb dL_same_120 (by decide) ?_
      refine xr_rd (As := [.int (nI i38), .int 2]) (rest := []) (v := (fL_had L i38 3000)) hC hK hI (hE19 i38 hlt38) (qX7_ofSuit l hC.2.1 A D cy g hK.1 S e0 hK.v (nI i38) 2) (cwV 2 hts gL_same_X7_ofSuit rfl rfl rfl (by decide +kernel) ⟨Nat.le_of_ble_eq_true rfl, Nat.le_of_ble_eq_true rfl⟩) rfl hl.1 rfl (Nat.le_of_ble_eq_true rfl) dL_same_121 ⟨(by show _ ≤ 200; omega), (by show _ ≤ 1300; omega)⟩ (fun H locs hI => ?_)
      refine lv_iload hx hb dL_same_124 (lv_at hl 1 rfl) ?_
      refine lv_sipush (v := 3000) hx hb dL_same_126 (by decide) ?_
      refine lv_aload hx hb dL_same_129 (lv_at hl 11 rfl) ?_
      refine xr_call (As := [.int (nI i38), .int 3000, .ref (la 7)]) (rest := [.int ((fL_had L i38 3000))]) hC hI (qL_had l D cy la L hV i38 (by omega) rfl 3000) (va_cwS 3 hts gL_same_L_had rfl rfl rfl (by decide +kernel) ⟨Nat.le_of_ble_eq_true rfl, Nat.le_of_ble_eq_true rfl⟩) rfl hl.1 rfl (Nat.le_of_ble_eq_true rfl) dL_same_131 ⟨(by show _ ≤ 200; omega), (by show _ ≤ 1300; omega)⟩ (fun H locs hI => ?_)
      refine lv_icmp_ne (tgt := 258) hx hb dL_same_134 (by decide) (fun c9 => absurd rfl c9) (fun _ => ?_)
      refine lv_aload_n hx hb dL_same_137 rfl (lv_at hl 3 rfl) ?_
      refine lv_iload hx hb dL_same_138 (lv_at hl 1 rfl) ?_
      refine lv_iconst (v := 3) hx hb dL_same_140 (by decide) ?_
      refine xr_rd (As := [.int (nI i38), .int 3]) (rest := []) (v := (L 6 (8 * i38 + 2))) hC hK hI (hE20 i38 hlt38) (qX7_ofSuit l hC.2.1 A D cy g hK.1 S e0 hK.v (nI i38) 3) (cwV 2 hts gL_same_X7_ofSuit rfl rfl rfl (by decide +kernel) ⟨Nat.le_of_ble_eq_true rfl, Nat.le_of_ble_eq_true rfl⟩) rfl hl.1 rfl (Nat.le_of_ble_eq_true rfl) dL_same_141 ⟨(by show _ ≤ 200; omega), (by show _ ≤ 1300; omega)⟩ (fun H locs hI => ?_)
      refine lv_aload hx hb dL_same_144 (lv_at hl 10 rfl) ?_
      refine lv_bipush (v := 8) hx hb dL_same_146 (by decide) ?_
      refine lv_iload hx hb dL_same_148 (lv_at hl 1 rfl) ?_
      refine lv_imul hx hb dL_same_150 ?_
      refine lv_iconst (v := 2) hx hb dL_same_151 (by decide) ?_
      refine lv_iadd hx hb dL_same_152 ?_
      refine xr_ld hC hI 6 (by decide) (show vp_in ((8 * (nI i38)) + 2) 64 from nx_in (nx_add (nx_mul (by decide : (8 : Int32) = nI 8) rfl) (by decide : (2 : Int32) = nI 2)) (by omega) (by decide)) (v := (L 6 (8 * i38 + 2))) (congrArg (L 6) (nx_ix (x := ((8 * (nI i38)) + 2)) (nx_add (nx_mul (by decide : (8 : Int32) = nI 8) rfl) (by decide : (2 : Int32) = nI 2)) (by omega))) dL_same_153 ?_
      refine lv_icmp_ne (tgt := 258) hx hb dL_same_154 (by decide) (fun c9 => absurd rfl c9) (fun _ => ?_)
      refine lv_aload_n hx hb dL_same_157 rfl (lv_at hl 3 rfl) ?_
      refine lv_iload hx hb dL_same_158 (lv_at hl 1 rfl) ?_
      refine lv_iconst (v := 4) hx hb dL_same_160 (by decide) ?_
      refine xr_rd (As := [.int (nI i38), .int 4]) (rest := []) (v := (L 6 (8 * i38 + 3))) hC hK hI (hE21 i38 hlt38) (qX7_ofSuit l hC.2.1 A D cy g hK.1 S e0 hK.v (nI i38) 4) (cwV 2 hts gL_same_X7_ofSuit rfl rfl rfl (by decide +kernel) ⟨Nat.le_of_ble_eq_true rfl, Nat.le_of_ble_eq_true rfl⟩) rfl hl.1 rfl (Nat.le_of_ble_eq_true rfl) dL_same_161 ⟨(by show _ ≤ 200; omega), (by show _ ≤ 1300; omega)⟩ (fun H locs hI => ?_)
      refine lv_aload hx hb dL_same_164 (lv_at hl 10 rfl) ?_
      refine lv_bipush (v := 8) hx hb dL_same_166 (by decide) ?_
      refine lv_iload hx hb dL_same_168 (lv_at hl 1 rfl) ?_
      refine lv_imul hx hb dL_same_170 ?_
      refine lv_iconst (v := 3) hx hb dL_same_171 (by decide) ?_
      refine lv_iadd hx hb dL_same_172 ?_
      refine xr_ld hC hI 6 (by decide) (show vp_in ((8 * (nI i38)) + 3) 64 from nx_in (nx_add (nx_mul (by decide : (8 : Int32) = nI 8) rfl) (by decide : (3 : Int32) = nI 3)) (by omega) (by decide)) (v := (L 6 (8 * i38 + 3))) (congrArg (L 6) (nx_ix (x := ((8 * (nI i38)) + 3)) (nx_add (nx_mul (by decide : (8 : Int32) = nI 8) rfl) (by decide : (3 : Int32) = nI 3)) (by omega))) dL_same_173 ?_
      refine lv_icmp_ne (tgt := 258) hx hb dL_same_174 (by decide) (fun c9 => absurd rfl c9) (fun _ => ?_)
      refine lv_aload_n hx hb dL_same_177 rfl (lv_at hl 3 rfl) ?_
      refine lv_iload hx hb dL_same_178 (lv_at hl 1 rfl) ?_
      refine lv_iconst (v := 5) hx hb dL_same_180 (by decide) ?_
      refine xr_rd (As := [.int (nI i38), .int 5]) (rest := []) (v := (L 6 (8 * i38 + 4))) hC hK hI (hE22 i38 hlt38) (qX7_ofSuit l hC.2.1 A D cy g hK.1 S e0 hK.v (nI i38) 5) (cwV 2 hts gL_same_X7_ofSuit rfl rfl rfl (by decide +kernel) ⟨Nat.le_of_ble_eq_true rfl, Nat.le_of_ble_eq_true rfl⟩) rfl hl.1 rfl (Nat.le_of_ble_eq_true rfl) dL_same_181 ⟨(by show _ ≤ 200; omega), (by show _ ≤ 1300; omega)⟩ (fun H locs hI => ?_)
      refine lv_aload hx hb dL_same_184 (lv_at hl 10 rfl) ?_
      refine lv_bipush (v := 8) hx hb dL_same_186 (by decide) ?_
      refine lv_iload hx hb dL_same_188 (lv_at hl 1 rfl) ?_
      refine lv_imul hx hb dL_same_190 ?_
      refine lv_iconst (v := 4) hx hb dL_same_191 (by decide) ?_
      refine lv_iadd hx hb dL_same_192 ?_
      refine xr_ld hC hI 6 (by decide) (show vp_in ((8 * (nI i38)) + 4) 64 from nx_in (nx_add (nx_mul (by decide : (8 : Int32) = nI 8) rfl) (by decide : (4 : Int32) = nI 4)) (by omega) (by decide)) (v := (L 6 (8 * i38 + 4))) (congrArg (L 6) (nx_ix (x := ((8 * (nI i38)) + 4)) (nx_add (nx_mul (by decide : (8 : Int32) = nI 8) rfl) (by decide : (4 : Int32) = nI 4)) (by omega))) dL_same_193 ?_
      refine lv_icmp_ne (tgt := 258) hx hb dL_same_194 (by decide) (fun c9 => absurd rfl c9) (fun _ => ?_)
      refine lv_aload_n hx hb dL_same_197 rfl (lv_at hl 3 rfl) ?_
      refine lv_iload hx hb dL_same_198 (lv_at hl 1 rfl) ?_
      refine lv_bipush (v := 6) hx hb dL_same_200 (by decide) ?_
      refine xr_rd (As := [.int (nI i38), .int 6]) (rest := []) (v := (L 6 (8 * i38 + 6))) hC hK hI (hE23 i38 hlt38) (qX7_ofSuit l hC.2.1 A D cy g hK.1 S e0 hK.v (nI i38) 6) (cwV 2 hts gL_same_X7_ofSuit rfl rfl rfl (by decide +kernel) ⟨Nat.le_of_ble_eq_true rfl, Nat.le_of_ble_eq_true rfl⟩) rfl hl.1 rfl (Nat.le_of_ble_eq_true rfl) dL_same_202 ⟨(by show _ ≤ 200; omega), (by show _ ≤ 1300; omega)⟩ (fun H locs hI => ?_)
      refine lv_aload hx hb dL_same_205 (lv_at hl 10 rfl) ?_
      refine lv_bipush (v := 8) hx hb dL_same_207 (by decide) ?_
      refine lv_iload hx hb dL_same_209 (lv_at hl 1 rfl) ?_
      refine lv_imul hx hb dL_same_211 ?_
      refine lv_bipush (v := 6) hx hb dL_same_212 (by decide) ?_
      refine lv_iadd hx hb dL_same_214 ?_
      refine xr_ld hC hI 6 (by decide) (show vp_in ((8 * (nI i38)) + 6) 64 from nx_in (nx_add (nx_mul (by decide : (8 : Int32) = nI 8) rfl) (by decide : (6 : Int32) = nI 6)) (by omega) (by decide)) (v := (L 6 (8 * i38 + 6))) (congrArg (L 6) (nx_ix (x := ((8 * (nI i38)) + 6)) (nx_add (nx_mul (by decide : (8 : Int32) = nI 8) rfl) (by decide : (6 : Int32) = nI 6)) (by omega))) dL_same_215 ?_
      refine lv_icmp_ne (tgt := 258) hx hb dL_same_216 (by decide) (fun c9 => absurd rfl c9) (fun _ => ?_)
      refine lv_aload_n hx hb dL_same_219 rfl (lv_at hl 3 rfl) ?_
      refine lv_iload hx hb dL_same_220 (lv_at hl 1 rfl) ?_
      refine lv_bipush (v := 7) hx hb dL_same_222 (by decide) ?_
      refine xr_rd (As := [.int (nI i38), .int 7]) (rest := []) (v := (L 8 i38)) hC hK hI (hE24 i38 hlt38) (qX7_ofSuit l hC.2.1 A D cy g hK.1 S e0 hK.v (nI i38) 7) (cwV 2 hts gL_same_X7_ofSuit rfl rfl rfl (by decide +kernel) ⟨Nat.le_of_ble_eq_true rfl, Nat.le_of_ble_eq_true rfl⟩) rfl hl.1 rfl (Nat.le_of_ble_eq_true rfl) dL_same_224 ⟨(by show _ ≤ 200; omega), (by show _ ≤ 1300; omega)⟩ (fun H locs hI => ?_)
      refine lv_aload hx hb dL_same_227 (lv_at hl 12 rfl) ?_
      refine lv_iload hx hb dL_same_229 (lv_at hl 1 rfl) ?_
      refine xr_ld hC hI 8 (by decide) (show vp_in (nI i38) 16 from nx_in rfl (by omega) (by decide)) (v := (L 8 i38)) (congrArg (L 8) (nx_ix (x := (nI i38)) rfl (by omega))) dL_same_231 ?_
      refine lv_icmp_ne (tgt := 258) hx hb dL_same_232 (by decide) (fun c9 => absurd rfl c9) (fun _ => ?_)
      refine lv_aload_n hx hb dL_same_235 rfl (lv_at hl 3 rfl) ?_
      refine lv_iload hx hb dL_same_236 (lv_at hl 1 rfl) ?_
      refine lv_bipush (v := 8) hx hb dL_same_238 (by decide) ?_
      refine xr_rd (As := [.int (nI i38), .int 8]) (rest := []) (v := (L 8 (8 + i38))) hC hK hI (hE25 i38 hlt38) (qX7_ofSuit l hC.2.1 A D cy g hK.1 S e0 hK.v (nI i38) 8) (cwV 2 hts gL_same_X7_ofSuit rfl rfl rfl (by decide +kernel) ⟨Nat.le_of_ble_eq_true rfl, Nat.le_of_ble_eq_true rfl⟩) rfl hl.1 rfl (Nat.le_of_ble_eq_true rfl) dL_same_240 ⟨(by show _ ≤ 200; omega), (by show _ ≤ 1300; omega)⟩ (fun H locs hI => ?_)
      refine lv_aload hx hb dL_same_243 (lv_at hl 12 rfl) ?_
      refine lv_bipush (v := 8) hx hb dL_same_245 (by decide) ?_
      refine lv_iload hx hb dL_same_247 (lv_at hl 1 rfl) ?_
      refine lv_iadd hx hb dL_same_249 ?_
      refine xr_ld hC hI 8 (by decide) (show vp_in (8 + (nI i38)) 16 from nx_in (nx_add (by decide : (8 : Int32) = nI 8) rfl) (by omega) (by decide)) (v := (L 8 (8 + i38))) (congrArg (L 8) (nx_ix (x := (8 + (nI i38))) (nx_add (by decide : (8 : Int32) = nI 8) rfl) (by omega))) dL_same_250 ?_
      refine lv_icmp_ne (tgt := 258) hx hb dL_same_251 (by decide) (fun c9 => absurd rfl c9) (fun _ => ?_)
      refine lv_iconst (v := 1) hx hb dL_same_254 (by decide) ?_
      refine lv_goto (tgt := 259) hx hb dL_same_255 (by decide) ?_
      refine lv_istore (lv' := [(12, .int 1), (13, .int (x38_13 + y76_0)), (14, .int (nI i38)), (0, .ref x0), (1, .int zy), (2, .ref (la 0)), (3, .ref (la 1)), (4, .ref (la 2)), (5, .ref (la 3)), (6, .ref (la 4)), (7, .ref (la 6)), (8, .ref (la 7)), (9, .ref (la 8)), (10, .ref (la 9)), (11, .ref (la 11))]) hx hb dL_same_259 hl (by decide) rfl (fun ls hl => ?_)
      refine lv_iinc (v := (nI (i38 + 1))) (lv' := [(14, .int (nI (i38 + 1))), (12, .int 1), (13, .int (x38_13 + y76_0)), (0, .ref x0), (1, .int zy), (2, .ref (la 0)), (3, .ref (la 1)), (4, .ref (la 2)), (5, .ref (la 3)), (6, .ref (la 4)), (7, .ref (la 6)), (8, .ref (la 7)), (9, .ref (la 8)), (10, .ref (la 9)), (11, .ref (la 11))]) hx hb dL_same_261 hl (k := 2) rfl (nI_1 i38) (by decide) rfl (fun ls hl => ?_)
      refine lv_goto (tgt := 38) hx hb dL_same_264 (by decide) ?_
      refine W.widen (k := 2 + 9 * (i38 + 1)) (n := 12 + 54 * (i38 + 1)) (by omega) (by omega) ?_
      exact ih38 (x38_13 + y76_0) _ _ ls hlt38 ⟨(by subst_vars; rfl), hI, lv_sub hl [0, 2, 1, 3, 4, 5, 6, 7, 8, 9, 10, 11, 12, 13, 14] rfl⟩
    · skip
      refine lv_icmp_le (tgt := 75) hx hb dL_same_68 (by decide) (fun c_18 => ?_) (fun c_18 => ?_)
      · skip
        refine lv_iconst (v := 0) hx hb dL_same_75 (by decide) ?_
        refine W.widen (k := 2 + 9 * i38 + 0) (n := 12 + 54 * i38 + 0) (by omega) (by omega) ?_
        exact J76 0 _ _ ls ⟨(by unfold jL_same_76; first | (rw [if_pos (by assumption)]; done) | (rw [if_neg (by assumption)]; done) | (rw [if_neg (by assumption), if_pos (by assumption)]; done) | (rw [if_neg (by assumption), if_neg (by assumption)]; done)), hI, lv_sub hl [0, 1, 2, 3, 4, 5, 6, 7, 8, 9, 10, 11, 12, 13, 14] rfl⟩
      · skip
        refine lv_iconst (v := 1) hx hb dL_same_71 (by decide) ?_
        refine lv_goto (tgt := 76) hx hb dL_same_72 (by decide) ?_
        refine W.widen (k := 2 + 9 * i38 + 0) (n := 12 + 54 * i38 + 0) (by omega) (by omega) ?_
        exact J76 1 _ _ ls ⟨(by unfold jL_same_76; first | (rw [if_pos (by assumption)]; done) | (rw [if_neg (by assumption)]; done) | (rw [if_neg (by assumption), if_pos (by assumption)]; done) | (rw [if_neg (by assumption), if_neg (by assumption)]; done)), hI, lv_sub hl [0, 1, 2, 3, 4, 5, 6, 7, 8, 9, 10, 11, 12, 13, 14] rfl⟩
