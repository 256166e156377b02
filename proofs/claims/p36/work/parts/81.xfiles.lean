/-! walked: files -/
set_option maxHeartbeats 8000000 in
set_option maxRecDepth 100000 in
theorem qL_files (l : Launch) (hfl : l.stackTraces = false) (A B : Nat → Prop) (D : va_G) (cy : Nat → ClassId) (g : CWt) (S : St) (e0 mi n0 x0 : Nat) (la : Nat → Nat) (hK : XK A B e0 n0 x0 la g S) (L : St) (hV : LV L) (zv : Int32) (f : Nat) (hf : f < 3) (t : Nat) (ht : t < 5) (htz : fL_low zv 5 = nI t) (hfz : fL_low (zv >>> ((3 : Int32) &&& 31)) 3 = nI f) (hOK : XOK S (fL_files L zv f t).2.1 (fL_files L zv f t).2.2) : Met l yL_files wsL_files ({ frames := 10, cells := 8, slots := 342, locals := 265 } : Room) (va_Pc [.ref x0, .int zv, .ref (la 0), .ref (la 4), .ref (la 6), .ref (la 7), .ref (la 11)] (XW A B D cy g S e0 mi n0 la L)) (va_Qi (fun (r : Int32) (g1 : CWt) => r = 1 ∧ XK A B e0 n0 x0 la g1 (XS S (fL_files L zv f t).2.1)) (fun g1 t9 => CH D cy g1 (XS S (fL_files L zv f t).2.1) t9.heap ∧ LH 12 D cy la (fL_files L zv f t).1 t9.heap) (AB A B)) 8 342 (AB A B) := by
  refine Met.ofW (cc := cL_files) (maxL := 13) (ret := (some .boolean)) (by decide) rfl ?_
  intro p e s m args below meth c s₁ B9 hml hv
  obtain ⟨rfl, hM, hLH, hKK, hJ, hX, hO, hn0⟩ := hv
  have hx := B9.exec
  have hb := B9.bytes
  have hr := B9.returns
  have hts := atoms_spec (ws := wsL_files) B9.pre
  have hown : s.vm.findClass RL = some m.cls := findClass_of_methodNamed B9.named
  have hlocks := B9.notSynchronized
  have hC : XC p l s m _ c cL_files 13 A B D cy e0 mi wsL_files := ⟨⟨⟨hx, hb, hml, hown, hts⟩, hKK⟩, hfl, hJ, hX, hO⟩
  have hI : XI A B D cy g n0 la s S L s.heap [] := ⟨hM, hLH, va_S.rf, hn0⟩
  have hb1 := hV.b1
  have hb2 := hV.b2
  have hb3 := hV.b3
  have hb4 := hV.b4
  have hl := lv_entry ([.ref x0, .int zv, .ref (la 0), .ref (la 4), .ref (la 6), .ref (la 7), .ref (la 11)]) (n := 13) (Nat.le_of_ble_eq_true rfl)
  rw [lg_entry_eq]
  generalize (lg_sl ([.ref x0, .int zv, .ref (la 0), .ref (la 4), .ref (la 6), .ref (la 7), .ref (la 11)]) ++ List.replicate (13 - (lg_sl ([.ref x0, .int zv, .ref (la 0), .ref (la 4), .ref (la 6), .ref (la 7), .ref (la 11)])).length) Slot.unset).toArray = ls at hl ⊢
  have hl : lv_has ls 13 [(0, .ref x0), (1, .int zv), (2, .ref (la 0)), (3, .ref (la 4)), (4, .ref (la 6)), (5, .ref (la 7)), (6, .ref (la 11))] := hl
  have hG : fL_files L zv f t = fL_files L zv f t := rfl
  refine lv_aload hx hb dL_files_0 (lv_at hl 6 rfl) ?_
  refine lv_iconst (v := 4) hx hb dL_files_2 (by decide) ?_
  refine xr_ld hC hI 11 (by decide) (nx_in (by decide : (4 : Int32) = nI 4) (by decide) (by decide)) (v := (L 11 4)) (congrArg (L 11) (by decide : ix 4 = 4)) dL_files_3 ?_
  refine lv_bipush (v := 8) hx hb dL_files_4 (by decide) ?_
  refine lv_icmp_ne (tgt := 11) hx hb dL_files_6 (by decide) (fun c_1 => ?_) (fun c_1 => ?_)
  · have hG := hG.trans (if_neg c_1)
    refine lv_iload_n hx hb dL_files_11 rfl (lv_at hl 1 rfl) ?_
    refine lv_iconst (v := 5) hx hb dL_files_12 (by decide) ?_
    refine xr_callS (As := [.int zv, .int 5]) (rest := []) hC hI (qL_low l zv 5 (by decide)) (va_cwS 2 hts gL_files_L_low rfl rfl rfl (by decide +kernel) ⟨Nat.le_of_ble_eq_true rfl, Nat.le_of_ble_eq_true rfl⟩) rfl hl.1 rfl (Nat.le_of_ble_eq_true rfl) dL_files_13 ⟨Nat.le_of_ble_eq_true rfl, Nat.le_of_ble_eq_true rfl⟩ (fun H locs hI => ?_)
    rw [htz]
    refine lv_istore (lv' := [(7, .int (nI t)), (0, .ref x0), (1, .int zv), (2, .ref (la 0)), (3, .ref (la 4)), (4, .ref (la 6)), (5, .ref (la 7)), (6, .ref (la 11))]) hx hb dL_files_16 hl (by decide) rfl (fun ls hl => ?_)
    refine lv_iload_n hx hb dL_files_18 rfl (lv_at hl 2 rfl) ?_
    refine lv_iconst (v := 3) hx hb dL_files_19 (by decide) ?_
    refine lv_ishr hx hb dL_files_20 ?_
    refine lv_iconst (v := 3) hx hb dL_files_21 (by decide) ?_
    refine xr_callS (As := [.int (zv >>> ((3 : Int32) &&& 31)), .int 3]) (rest := []) hC hI (qL_low l (zv >>> ((3 : Int32) &&& 31)) 3 (by decide)) (va_cwS 2 hts gL_files_L_low rfl rfl rfl (by decide +kernel) ⟨Nat.le_of_ble_eq_true rfl, Nat.le_of_ble_eq_true rfl⟩) rfl hl.1 rfl (Nat.le_of_ble_eq_true rfl) dL_files_22 ⟨Nat.le_of_ble_eq_true rfl, Nat.le_of_ble_eq_true rfl⟩ (fun H locs hI => ?_)
    rw [hfz]
    refine lv_istore (lv' := [(8, .int (nI f)), (7, .int (nI t)), (0, .ref x0), (1, .int zv), (2, .ref (la 0)), (3, .ref (la 4)), (4, .ref (la 6)), (5, .ref (la 7)), (6, .ref (la 11))]) hx hb dL_files_25 hl (by decide) rfl (fun ls hl => ?_)
    refine lv_aload_n hx hb dL_files_27 rfl (lv_at hl 5 rfl) ?_
    refine lv_bipush (v := 8) hx hb dL_files_28 (by decide) ?_
    refine lv_iload hx hb dL_files_30 (lv_at hl 1 rfl) ?_
    refine lv_imul hx hb dL_files_32 ?_
    refine xr_ld hC hI 4 (by decide) (show vp_in (8 * (nI t)) 40 from nx_in (nx_mul (by decide : (8 : Int32) = nI 8) rfl) (by omega) (by decide)) (v := (L 4 (8 * t))) (congrArg (L 4) (nx_ix (x := (8 * (nI t))) (nx_mul (by decide : (8 : Int32) = nI 8) rfl) (by omega))) dL_files_33 ?_
    refine lv_iload_n hx hb dL_files_34 rfl (lv_at hl 3 rfl) ?_
    refine lv_iconst (v := 4) hx hb dL_files_35 (by decide) ?_
    refine lv_ishr hx hb dL_files_36 ?_
    refine lv_sipush (v := 256) hx hb dL_files_37 (by decide) ?_
    refine xr_callS (As := [.int (zv >>> ((4 : Int32) &&& 31)), .int 256]) (rest := [.int (L 4 (8 * t))]) hC hI (qL_low l (zv >>> ((4 : Int32) &&& 31)) 256 (by decide)) (va_cwS 2 hts gL_files_L_low rfl rfl rfl (by decide +kernel) ⟨Nat.le_of_ble_eq_true rfl, Nat.le_of_ble_eq_true rfl⟩) rfl hl.1 rfl (Nat.le_of_ble_eq_true rfl) dL_files_40 ⟨Nat.le_of_ble_eq_true rfl, Nat.le_of_ble_eq_true rfl⟩ (fun H locs hI => ?_)
    refine lv_iand hx hb dL_files_43 ?_
    refine lv_istore (lv' := [(9, .int ((L 4 (8 * t)) &&& (fL_low (zv >>> ((4 : Int32) &&& 31)) 256))), (8, .int (nI f)), (7, .int (nI t)), (0, .ref x0), (1, .int zv), (2, .ref (la 0)), (3, .ref (la 4)), (4, .ref (la 6)), (5, .ref (la 7)), (6, .ref (la 11))]) hx hb dL_files_44 hl (by decide) rfl (fun ls hl => ?_)
    refine lv_iload_n hx hb dL_files_46 rfl (lv_at hl 4 rfl) ?_
    refine lv_bipush (v := 6) hx hb dL_files_47 (by decide) ?_
    refine lv_ishr hx hb dL_files_49 ?_
    refine lv_bipush (v := 6) hx hb dL_files_50 (by decide) ?_
    refine xr_callS (As := [.int (zv >>> ((6 : Int32) &&& 31)), .int 6]) (rest := []) hC hI (qL_low l (zv >>> ((6 : Int32) &&& 31)) 6 (by decide)) (va_cwS 2 hts gL_files_L_low rfl rfl rfl (by decide +kernel) ⟨Nat.le_of_ble_eq_true rfl, Nat.le_of_ble_eq_true rfl⟩) rfl hl.1 rfl (Nat.le_of_ble_eq_true rfl) dL_files_52 ⟨Nat.le_of_ble_eq_true rfl, Nat.le_of_ble_eq_true rfl⟩ (fun H locs hI => ?_)
    have hG : fL_files L zv f t = bL_files_89 L f t (jL_files_89 L zv t) := hG
    refine w_join (σ := Int32) 89 (fun y89_0 H locs ls => jL_files_89 L zv t = y89_0 ∧ XI A B D cy g n0 la s S L H locs ∧ lv_has ls 13 [(9, .int ((L 4 (8 * t)) &&& (fL_low (zv >>> ((4 : Int32) &&& 31)) 256))), (8, .int (nI f)), (7, .int (nI t)), (0, .ref x0), (1, .int zv), (2, .ref (la 0)), (3, .ref (la 4)), (4, .ref (la 6)), (5, .ref (la 7)), (6, .ref (la 11))]) (fun y89_0 => [.int y89_0]) ?_ (fun J89 => ?_)
    · intro y89_0 H locs ls ⟨hy89_0, hI, hl⟩
      rw [hy89_0] at hG
      refine lv_istore (lv' := [(9, .int y89_0), (8, .int (nI f)), (7, .int (nI t)), (0, .ref x0), (1, .int zv), (2, .ref (la 0)), (3, .ref (la 4)), (4, .ref (la 6)), (5, .ref (la 7)), (6, .ref (la 11))]) hx hb dL_files_89 hl (by decide) rfl (fun ls hl => ?_)
      refine lv_iload hx hb dL_files_91 (lv_at hl 0 rfl) ?_
      refine lv_if_ne (tgt := 98) hx hb dL_files_93 (by decide) (fun c_4 => ?_) (fun c_4 => ?_)
      · have hG := hG.trans (if_neg c_4)
        refine lv_iload hx hb dL_files_98 (lv_at hl 0 rfl) ?_
        refine lv_aload_n hx hb dL_files_100 rfl (lv_at hl 6 rfl) ?_
        refine lv_bipush (v := 8) hx hb dL_files_101 (by decide) ?_
        refine lv_iload hx hb dL_files_103 (lv_at hl 2 rfl) ?_
        refine lv_imul hx hb dL_files_105 ?_
        refine xr_ld hC hI 4 (by decide) (show vp_in (8 * (nI t)) 40 from nx_in (nx_mul (by decide : (8 : Int32) = nI 8) rfl) (by omega) (by decide)) (v := (L 4 (8 * t))) (congrArg (L 4) (nx_ix (x := (8 * (nI t))) (nx_mul (by decide : (8 : Int32) = nI 8) rfl) (by omega))) dL_files_106 ?_
        refine lv_iconst (v := (-1)) hx hb dL_files_107 (by decide) ?_
        refine lv_ixor hx hb dL_files_108 ?_
        refine lv_iand hx hb dL_files_109 ?_
        refine lv_if_ne (tgt := 117) hx hb dL_files_110 (by decide) (fun c_5 => ?_) (fun c_5 => ?_)
        · have hG := hG.trans (if_neg c_5)
          refine lv_iconst (v := 0) hx hb dL_files_117 (by decide) ?_
          refine lv_istore (lv' := [(10, .int 0), (9, .int y89_0), (8, .int (nI f)), (7, .int (nI t)), (0, .ref x0), (1, .int zv), (2, .ref (la 0)), (3, .ref (la 4)), (4, .ref (la 6)), (5, .ref (la 7)), (6, .ref (la 11))]) hx hb dL_files_118 hl (by decide) rfl (fun ls hl => ?_)
          refine lv_aload hx hb dL_files_120 (lv_at hl 10 rfl) ?_
          refine lv_iconst (v := 4) hx hb dL_files_122 (by decide) ?_
          refine xr_ld hC hI 11 (by decide) (nx_in (by decide : (4 : Int32) = nI 4) (by decide) (by decide)) (v := (L 11 4)) (congrArg (L 11) (by decide : ix 4 = 4)) dL_files_123 ?_
          refine lv_istore (lv' := [(11, .int (L 11 4)), (10, .int 0), (9, .int y89_0), (8, .int (nI f)), (7, .int (nI t)), (0, .ref x0), (1, .int zv), (2, .ref (la 0)), (3, .ref (la 4)), (4, .ref (la 6)), (5, .ref (la 7)), (6, .ref (la 11))]) hx hb dL_files_124 hl (by decide) rfl (fun ls hl => ?_)
          refine lv_iload hx hb dL_files_126 (lv_at hl 1 rfl) ?_
          refine lv_if_eq (tgt := 235) hx hb dL_files_128 (by decide) (fun _ => ?_) (fun c => absurd (by decide : (0 : Int32) = 0) c)
          refine lv_aload_n hx hb dL_files_235 rfl (lv_at hl 5 rfl) ?_
          refine lv_iconst (v := 3) hx hb dL_files_236 (by decide) ?_
          refine lv_iload hx hb dL_files_237 (lv_at hl 4 rfl) ?_
          refine lv_iload hx hb dL_files_239 (lv_at hl 3 rfl) ?_
          refine lv_iload hx hb dL_files_241 (lv_at hl 2 rfl) ?_
          have hok : ((xq7 S 3 (nI t) (nI f) y89_0).2.1 = 0 ∨ (xq7 S 3 (nI t) (nI f) y89_0).2.1 = 3) ∧ (if (xq7 S 3 (nI t) (nI f) y89_0).2.1 = 0 then (xq7 S 3 (nI t) (nI f) y89_0).1 else -1003) = (-1003) := XOK.c (by have h9 := hOK; rw [hG] at h9; exact h9) (by decide)
          refine xr_cs (As := [.ref x0, .int 3, .int (nI t), .int (nI f), .int y89_0]) (rest := []) 3 (nI t) (nI f) y89_0 hC hK hI (qC_file l hC.2.1 A D cy g hK.1 S e0 mi n0 hK.2.2.2.1 hK.v hK.i x0 hK.2.2.2.2.2.2.2 (nI t) (nI f) y89_0 hok.1) (vx_cwSW 5 hts gL_files_L_calls rfl rfl rfl (by decide +kernel) ⟨Nat.le_of_ble_eq_true rfl, Nat.le_of_ble_eq_true rfl⟩) rfl hl.1 rfl (Nat.le_of_ble_eq_true rfl) dL_files_243 ⟨Nat.le_of_ble_eq_true rfl, Nat.le_of_ble_eq_true rfl⟩ (fun g H locs hK hI => ?_)
          refine lv_iload hx hb dL_files_246 (lv_at hl 1 rfl) ?_
          refine lv_if_eq (tgt := 256) hx hb dL_files_248 (by decide) (fun _ => ?_) (fun c => absurd (by decide : (0 : Int32) = 0) c)
          refine lv_sipush (v := (-1003)) hx hb dL_files_256 (by decide) ?_
          refine lv_icmp_ne (tgt := 266) hx hb dL_files_259 (by decide) (fun c9 => absurd hok.2 c9) (fun _ => ?_)
          refine lv_iconst (v := 1) hx hb dL_files_262 (by decide) ?_
          refine lv_goto (tgt := 267) hx hb dL_files_263 (by decide) ?_
          refine W.widen (k := 8) (n := 342) (Nat.le_of_ble_eq_true rfl) (Nat.le_of_ble_eq_true rfl) ?_
          exact W.zret (v := 1) (ty := .boolean) hx hb hr rfl (fun t9 ht9 hW9 => ⟨⟨1, g, rfl, ⟨rfl, by rw [hG]; exact hK⟩, ⟨by rw [hG, ht9]; exact hI.1, by rw [hG, ht9]; exact hI.2.1⟩⟩, hI.2.2.1.F ht9⟩) hI.2.2.1.2.2 dL_files_267
        · have hG := hG.trans (if_pos c_5)
          refine lv_iconst (v := 1) hx hb dL_files_113 (by decide) ?_
          refine lv_goto (tgt := 118) hx hb dL_files_114 (by decide) ?_
          refine lv_istore (lv' := [(10, .int 1), (9, .int y89_0), (8, .int (nI f)), (7, .int (nI t)), (0, .ref x0), (1, .int zv), (2, .ref (la 0)), (3, .ref (la 4)), (4, .ref (la 6)), (5, .ref (la 7)), (6, .ref (la 11))]) hx hb dL_files_118 hl (by decide) rfl (fun ls hl => ?_)
          refine lv_aload hx hb dL_files_120 (lv_at hl 10 rfl) ?_
          refine lv_iconst (v := 4) hx hb dL_files_122 (by decide) ?_
          refine xr_ld hC hI 11 (by decide) (nx_in (by decide : (4 : Int32) = nI 4) (by decide) (by decide)) (v := (L 11 4)) (congrArg (L 11) (by decide : ix 4 = 4)) dL_files_123 ?_
          refine lv_istore (lv' := [(11, .int (L 11 4)), (10, .int 1), (9, .int y89_0), (8, .int (nI f)), (7, .int (nI t)), (0, .ref x0), (1, .int zv), (2, .ref (la 0)), (3, .ref (la 4)), (4, .ref (la 6)), (5, .ref (la 7)), (6, .ref (la 11))]) hx hb dL_files_124 hl (by decide) rfl (fun ls hl => ?_)
          refine lv_iload hx hb dL_files_126 (lv_at hl 1 rfl) ?_
          refine lv_if_eq (tgt := 235) hx hb dL_files_128 (by decide) (fun c => absurd c (by decide : ¬ (1 : Int32) = 0)) (fun _ => ?_)
          refine lv_aload hx hb dL_files_131 (lv_at hl 9 rfl) ?_
          refine lv_bipush (v := 8) hx hb dL_files_133 (by decide) ?_
          refine lv_iload hx hb dL_files_135 (lv_at hl 0 rfl) ?_
          refine lv_imul hx hb dL_files_137 ?_
          refine lv_iload hx hb dL_files_138 (lv_at hl 4 rfl) ?_
          refine xr_st hC hK hI 6 (by decide) (show vp_in (8 * (L 11 4)) 64 from nx_in (nx_mul (by decide : (8 : Int32) = nI 8) hV.n4) (by have h90 := ne_8 hV.n4 hV.b4 (by assumption); omega) (by decide)) (n := (8 * (q4 L))) (nx_ix (x := (8 * (L 11 4))) (nx_mul (by decide : (8 : Int32) = nI 8) hV.n4) (by have h90 := ne_8 hV.n4 hV.b4 (by assumption); omega)) dL_files_140 (fun H locs hI => ?_)
          refine lv_aload hx hb dL_files_141 (lv_at hl 9 rfl) ?_
          refine lv_bipush (v := 8) hx hb dL_files_143 (by decide) ?_
          refine lv_iload hx hb dL_files_145 (lv_at hl 0 rfl) ?_
          refine lv_imul hx hb dL_files_147 ?_
          refine lv_iconst (v := 1) hx hb dL_files_148 (by decide) ?_
          refine lv_iadd hx hb dL_files_149 ?_
          refine lv_iload hx hb dL_files_150 (lv_at hl 3 rfl) ?_
          refine xr_st hC hK hI 6 (by decide) (show vp_in ((8 * (L 11 4)) + 1) 64 from nx_in (nx_add (nx_mul (by decide : (8 : Int32) = nI 8) hV.n4) (by decide : (1 : Int32) = nI 1)) (by have h90 := ne_8 hV.n4 hV.b4 (by assumption); omega) (by decide)) (n := (8 * (q4 L) + 1)) (nx_ix (x := ((8 * (L 11 4)) + 1)) (nx_add (nx_mul (by decide : (8 : Int32) = nI 8) hV.n4) (by decide : (1 : Int32) = nI 1)) (by have h90 := ne_8 hV.n4 hV.b4 (by assumption); omega)) dL_files_152 (fun H locs hI => ?_)
          refine lv_aload hx hb dL_files_153 (lv_at hl 9 rfl) ?_
          refine lv_bipush (v := 8) hx hb dL_files_155 (by decide) ?_
          refine lv_iload hx hb dL_files_157 (lv_at hl 0 rfl) ?_
          refine lv_imul hx hb dL_files_159 ?_
          refine lv_iconst (v := 2) hx hb dL_files_160 (by decide) ?_
          refine lv_iadd hx hb dL_files_161 ?_
          refine lv_aload hx hb dL_files_162 (lv_at hl 11 rfl) ?_
          refine lv_iconst (v := 0) hx hb dL_files_164 (by decide) ?_
          refine xr_ld hC hI 11 (by decide) (nx_in (by decide : (0 : Int32) = nI 0) (by decide) (by decide)) (v := (L 11 0)) ((congrArg ((up (up L 6 (8 * (q4 L)) (nI t)) 6 (8 * (q4 L) + 1) (nI f)) 11) (by decide : ix 0 = 0)).trans ((congrFun (up_ne (by decide)) _).trans (congrFun (up_ne (by decide)) _))) dL_files_165 ?_
          refine xr_st hC hK hI 6 (by decide) (show vp_in ((8 * (L 11 4)) + 2) 64 from nx_in (nx_add (nx_mul (by decide : (8 : Int32) = nI 8) hV.n4) (by decide : (2 : Int32) = nI 2)) (by have h90 := ne_8 hV.n4 hV.b4 (by assumption); omega) (by decide)) (n := (8 * (q4 L) + 2)) (nx_ix (x := ((8 * (L 11 4)) + 2)) (nx_add (nx_mul (by decide : (8 : Int32) = nI 8) hV.n4) (by decide : (2 : Int32) = nI 2)) (by have h90 := ne_8 hV.n4 hV.b4 (by assumption); omega)) dL_files_166 (fun H locs hI => ?_)
          refine lv_aload hx hb dL_files_167 (lv_at hl 9 rfl) ?_
          refine lv_bipush (v := 8) hx hb dL_files_169 (by decide) ?_
          refine lv_iload hx hb dL_files_171 (lv_at hl 0 rfl) ?_
          refine lv_imul hx hb dL_files_173 ?_
          refine lv_iconst (v := 4) hx hb dL_files_174 (by decide) ?_
          refine lv_iadd hx hb dL_files_175 ?_
          refine lv_aload hx hb dL_files_176 (lv_at hl 11 rfl) ?_
          refine lv_iconst (v := 0) hx hb dL_files_178 (by decide) ?_
          refine xr_ld hC hI 11 (by decide) (nx_in (by decide : (0 : Int32) = nI 0) (by decide) (by decide)) (v := (L 11 0)) ((congrArg ((up (up (up L 6 (8 * (q4 L)) (nI t)) 6 (8 * (q4 L) + 1) (nI f)) 6 (8 * (q4 L) + 2) (L 11 0)) 11) (by decide : ix 0 = 0)).trans ((congrFun (up_ne (by decide)) _).trans ((congrFun (up_ne (by decide)) _).trans (congrFun (up_ne (by decide)) _)))) dL_files_179 ?_
          refine lv_bipush (v := 60) hx hb dL_files_180 (by decide) ?_
          refine lv_iadd hx hb dL_files_182 ?_
          refine xr_st hC hK hI 6 (by decide) (show vp_in ((8 * (L 11 4)) + 4) 64 from nx_in (nx_add (nx_mul (by decide : (8 : Int32) = nI 8) hV.n4) (by decide : (4 : Int32) = nI 4)) (by have h90 := ne_8 hV.n4 hV.b4 (by assumption); omega) (by decide)) (n := (8 * (q4 L) + 4)) (nx_ix (x := ((8 * (L 11 4)) + 4)) (nx_add (nx_mul (by decide : (8 : Int32) = nI 8) hV.n4) (by decide : (4 : Int32) = nI 4)) (by have h90 := ne_8 hV.n4 hV.b4 (by assumption); omega)) dL_files_183 (fun H locs hI => ?_)
          refine lv_iconst (v := 0) hx hb dL_files_184 (by decide) ?_
          refine lv_istore (lv' := [(12, .int 0), (11, .int (L 11 4)), (10, .int 1), (9, .int y89_0), (8, .int (nI f)), (7, .int (nI t)), (0, .ref x0), (1, .int zv), (2, .ref (la 0)), (3, .ref (la 4)), (4, .ref (la 6)), (5, .ref (la 7)), (6, .ref (la 11))]) hx hb dL_files_185 hl (by decide) rfl (fun ls hl => ?_)
          refine w_loop (σ := (Nat → Int32)) 8 187 (fun i187 z H locs ls => z = lL_files_187 L y89_0 i187 ∧ XI A B D cy g n0 la s S (upr (up (up (up (up L 6 (8 * (q4 L)) (nI t)) 6 (8 * (q4 L) + 1) (nI f)) 6 (8 * (q4 L) + 2) (L 11 0)) 6 (8 * (q4 L) + 4) ((L 11 0) + 60)) 7 z) H locs ∧ lv_has ls 13 [(12, .int (nI i187)), (11, .int (L 11 4)), (10, .int 1), (9, .int y89_0), (8, .int (nI f)), (7, .int (nI t)), (0, .ref x0), (1, .int zv), (2, .ref (la 0)), (3, .ref (la 4)), (4, .ref (la 6)), (5, .ref (la 7)), (6, .ref (la 11))]) ?_ (L 7) ⟨rfl, (XI_upr hI 7 rfl), lv_sub hl [0, 1, 2, 3, 4, 5, 6, 7, 8, 9, 10, 11, 12] rfl⟩
          intro i187 z H locs ls ⟨hz187, hI, hl⟩ hi187 ih187
          obtain ⟨w187_7, rfl⟩ : ∃ x, x = z := ⟨_, rfl⟩
          refine lv_iload hx hb dL_files_187 (lv_at hl 0 rfl) ?_
          refine lv_bipush (v := 8) hx hb dL_files_189 (by decide) ?_
          refine lv_icmp_ge (tgt := 227) hx hb dL_files_191 (by decide) (fun c_6 => ?_) (fun c_6 => ?_)
          · obtain rfl : i187 = 8 := w_exit (by decide : (8 : Int32) = nI 8) hi187 (by decide) c_6
            obtain rfl : w187_7 = (lL_files_187 L y89_0 8) := by rw [← hz187]
            refine lv_aload hx hb dL_files_227 (lv_at hl 12 rfl) ?_
            refine lv_iconst (v := 4) hx hb dL_files_229 (by decide) ?_
            refine lv_dup2_11 hx hb dL_files_230 rfl rfl ?_
            refine xr_ld hC hI 11 (by decide) (nx_in (by decide : (4 : Int32) = nI 4) (by decide) (by decide)) (v := (L 11 4)) ((congrArg ((upr (up (up (up (up L 6 (8 * (q4 L)) (nI t)) 6 (8 * (q4 L) + 1) (nI f)) 6 (8 * (q4 L) + 2) (L 11 0)) 6 (8 * (q4 L) + 4) ((L 11 0) + 60)) 7 (lL_files_187 L y89_0 8)) 11) (by decide : ix 4 = 4)).trans ((congrFun (upr_ne (by decide)) _).trans ((congrFun (up_ne (by decide)) _).trans ((congrFun (up_ne (by decide)) _).trans ((congrFun (up_ne (by decide)) _).trans (congrFun (up_ne (by decide)) _)))))) dL_files_231 ?_
            refine lv_iconst (v := 1) hx hb dL_files_232 (by decide) ?_
            refine lv_iadd hx hb dL_files_233 ?_
            refine xr_st hC hK hI 11 (by decide) (nx_in (by decide : (4 : Int32) = nI 4) (by decide) (by decide)) (n := 4) (by decide : ix 4 = 4) dL_files_234 (fun H locs hI => ?_)
            refine lv_aload_n hx hb dL_files_235 rfl (lv_at hl 6 rfl) ?_
            refine lv_iconst (v := 3) hx hb dL_files_236 (by decide) ?_
            refine lv_iload hx hb dL_files_237 (lv_at hl 5 rfl) ?_
            refine lv_iload hx hb dL_files_239 (lv_at hl 4 rfl) ?_
            refine lv_iload hx hb dL_files_241 (lv_at hl 3 rfl) ?_
            have hok : ((xq7 S 3 (nI t) (nI f) y89_0).2.1 = 0 ∨ (xq7 S 3 (nI t) (nI f) y89_0).2.1 = 3) ∧ (if (xq7 S 3 (nI t) (nI f) y89_0).2.1 = 0 then (xq7 S 3 (nI t) (nI f) y89_0).1 else -1003) = (L 11 4) := XOK.c (by have h9 := hOK; rw [hG] at h9; exact h9) (by decide)
            refine xr_cs (As := [.ref x0, .int 3, .int (nI t), .int (nI f), .int y89_0]) (rest := []) 3 (nI t) (nI f) y89_0 hC hK hI (qC_file l hC.2.1 A D cy g hK.1 S e0 mi n0 hK.2.2.2.1 hK.v hK.i x0 hK.2.2.2.2.2.2.2 (nI t) (nI f) y89_0 hok.1) (vx_cwSW 5 hts gL_files_L_calls rfl rfl rfl (by decide +kernel) ⟨Nat.le_of_ble_eq_true rfl, Nat.le_of_ble_eq_true rfl⟩) rfl hl.1 rfl (Nat.le_of_ble_eq_true rfl) dL_files_243 ⟨Nat.le_of_ble_eq_true rfl, Nat.le_of_ble_eq_true rfl⟩ (fun g H locs hK hI => ?_)
            refine lv_iload hx hb dL_files_246 (lv_at hl 2 rfl) ?_
            refine lv_if_eq (tgt := 256) hx hb dL_files_248 (by decide) (fun c => absurd c (by decide : ¬ (1 : Int32) = 0)) (fun _ => ?_)
            refine lv_iload hx hb dL_files_251 (lv_at hl 1 rfl) ?_
            refine lv_goto (tgt := 259) hx hb dL_files_253 (by decide) ?_
            refine lv_icmp_ne (tgt := 266) hx hb dL_files_259 (by decide) (fun c9 => absurd hok.2 c9) (fun _ => ?_)
            refine lv_iconst (v := 1) hx hb dL_files_262 (by decide) ?_
            refine lv_goto (tgt := 267) hx hb dL_files_263 (by decide) ?_
            refine W.widen (k := 8) (n := 342) (Nat.le_of_ble_eq_true rfl) (Nat.le_of_ble_eq_true rfl) ?_
            exact W.zret (v := 1) (ty := .boolean) hx hb hr rfl (fun t9 ht9 hW9 => ⟨⟨1, g, rfl, ⟨rfl, by rw [hG]; exact hK⟩, ⟨by rw [hG, ht9]; exact hI.1, by rw [hG, ht9]; exact hI.2.1⟩⟩, hI.2.2.1.F ht9⟩) hI.2.2.1.2.2 dL_files_267
          · have hlt187 : i187 < 8 := w_in (by decide : (8 : Int32) = nI 8) hi187 (by decide) c_6
            have hB187 : iL_files_187 L y89_0 i187 w187_7 = iL_files_187 L y89_0 i187 w187_7 := rfl
            refine lv_aload hx hb dL_files_194 (lv_at hl 11 rfl) ?_
            refine lv_bipush (v := 8) hx hb dL_files_196 (by decide) ?_
            refine lv_iload hx hb dL_files_198 (lv_at hl 1 rfl) ?_
            refine lv_imul hx hb dL_files_200 ?_
            refine lv_iload hx hb dL_files_201 (lv_at hl 0 rfl) ?_
            refine lv_iadd hx hb dL_files_203 ?_
            refine lv_iload hx hb dL_files_204 (lv_at hl 3 rfl) ?_
            refine lv_iload hx hb dL_files_206 (lv_at hl 0 rfl) ?_
            refine lv_ishr hx hb dL_files_208 ?_
            refine lv_iconst (v := 1) hx hb dL_files_209 (by decide) ?_
            refine lv_iand hx hb dL_files_210 ?_
            refine lv_aload hx hb dL_files_211 (lv_at hl 12 rfl) ?_
            refine lv_iconst (v := 0) hx hb dL_files_213 (by decide) ?_
            refine xr_ld hC hI 11 (by decide) (nx_in (by decide : (0 : Int32) = nI 0) (by decide) (by decide)) (v := (L 11 0)) ((congrArg ((upr (up (up (up (up L 6 (8 * (q4 L)) (nI t)) 6 (8 * (q4 L) + 1) (nI f)) 6 (8 * (q4 L) + 2) (L 11 0)) 6 (8 * (q4 L) + 4) ((L 11 0) + 60)) 7 w187_7) 11) (by decide : ix 0 = 0)).trans ((congrFun (upr_ne (by decide)) _).trans ((congrFun (up_ne (by decide)) _).trans ((congrFun (up_ne (by decide)) _).trans ((congrFun (up_ne (by decide)) _).trans (congrFun (up_ne (by decide)) _)))))) dL_files_214 ?_
            refine lv_sipush (v := 4097) hx hb dL_files_215 (by decide) ?_
            refine lv_iadd hx hb dL_files_218 ?_
            refine lv_imul hx hb dL_files_219 ?_
            refine xr_st hC hK hI 7 (by decide) (show vp_in ((8 * (L 11 4)) + (nI i187)) 64 from nx_in (nx_add (nx_mul (by decide : (8 : Int32) = nI 8) hV.n4) rfl) (by have h90 := ne_8 hV.n4 hV.b4 (by assumption); omega) (by decide)) (n := (8 * (q4 L) + i187)) (nx_ix (x := ((8 * (L 11 4)) + (nI i187))) (nx_add (nx_mul (by decide : (8 : Int32) = nI 8) hV.n4) rfl) (by have h90 := ne_8 hV.n4 hV.b4 (by assumption); omega)) dL_files_220 (fun H locs hI => ?_)
            refine lv_iinc (v := (nI (i187 + 1))) (lv' := [(12, .int (nI (i187 + 1))), (11, .int (L 11 4)), (10, .int 1), (9, .int y89_0), (8, .int (nI f)), (7, .int (nI t)), (0, .ref x0), (1, .int zv), (2, .ref (la 0)), (3, .ref (la 4)), (4, .ref (la 6)), (5, .ref (la 7)), (6, .ref (la 11))]) hx hb dL_files_221 hl (k := 0) rfl (nI_1 i187) (by decide) rfl (fun ls hl => ?_)
            refine lv_goto (tgt := 187) hx hb dL_files_224 (by decide) ?_
            exact ih187 (upd w187_7 (8 * (q4 L) + i187) (((y89_0 >>> ((nI i187) &&& 31)) &&& 1) * ((L 11 0) + 4097))) _ _ ls hlt187 ⟨(by show _ = iL_files_187 L y89_0 i187 (lL_files_187 L y89_0 i187); rw [← hz187]; exact hB187.symm), (XI_eq hI (upr_up _ _ _ _ _)), lv_sub hl [0, 1, 2, 3, 4, 5, 6, 7, 8, 9, 10, 11, 12] rfl⟩
      · have hG := hG.trans (if_pos c_4)
        refine lv_iconst (v := 1) hx hb dL_files_96 (by decide) ?_
        refine W.widen (k := 8) (n := 342) (Nat.le_of_ble_eq_true rfl) (Nat.le_of_ble_eq_true rfl) ?_
        exact W.zret (v := 1) (ty := .boolean) hx hb hr rfl (fun t9 ht9 hW9 => ⟨⟨1, g, rfl, ⟨rfl, by rw [hG]; show XK _ _ _ _ _ _ _ (XS S (99, 0, 0, 0)); rw [XS_99]; exact hK⟩, ⟨by rw [hG, ht9]; show CH _ _ _ (XS S (99, 0, 0, 0)) _; rw [XS_99]; exact hI.1, by rw [hG, ht9]; exact hI.2.1⟩⟩, hI.2.2.1.F ht9⟩) hI.2.2.1.2.2 dL_files_97
    · have hB89 : jL_files_89 L zv t = jL_files_89 L zv t := rfl
      refine lv_if_ne (tgt := 72) hx hb dL_files_55 (by decide) (fun c_2 => ?_) (fun c_2 => ?_)
      · have hB89 := hB89.trans (if_neg c_2)
        refine lv_iload hx hb dL_files_72 (lv_at hl 0 rfl) ?_
        refine lv_if_ne (tgt := 87) hx hb dL_files_74 (by decide) (fun c_3 => ?_) (fun c_3 => ?_)
        · have hB89 := hB89.trans (if_neg c_3)
          refine lv_iload hx hb dL_files_87 (lv_at hl 0 rfl) ?_
          exact J89 ((L 4 (8 * t)) &&& (fL_low (zv >>> ((4 : Int32) &&& 31)) 256)) _ _ ls ⟨hB89, hI, lv_sub hl [0, 1, 2, 3, 4, 5, 6, 7, 8, 9] rfl⟩
        · have hB89 := hB89.trans (if_pos c_3)
          refine lv_aload_n hx hb dL_files_77 rfl (lv_at hl 6 rfl) ?_
          refine lv_bipush (v := 8) hx hb dL_files_78 (by decide) ?_
          refine lv_iload hx hb dL_files_80 (lv_at hl 2 rfl) ?_
          refine lv_imul hx hb dL_files_82 ?_
          refine xr_ld hC hI 4 (by decide) (show vp_in (8 * (nI t)) 40 from nx_in (nx_mul (by decide : (8 : Int32) = nI 8) rfl) (by omega) (by decide)) (v := (L 4 (8 * t))) (congrArg (L 4) (nx_ix (x := (8 * (nI t))) (nx_mul (by decide : (8 : Int32) = nI 8) rfl) (by omega))) dL_files_83 ?_
          refine lv_goto (tgt := 89) hx hb dL_files_84 (by decide) ?_
          exact J89 (L 4 (8 * t)) _ _ ls ⟨hB89, hI, lv_sub hl [0, 1, 2, 3, 4, 5, 6, 7, 8, 9] rfl⟩
      · have hB89 := hB89.trans (if_pos c_2)
        refine lv_iconst (v := 1) hx hb dL_files_58 (by decide) ?_
        refine lv_iload_n hx hb dL_files_59 rfl (lv_at hl 4 rfl) ?_
        refine lv_iconst (v := 2) hx hb dL_files_60 (by decide) ?_
        refine lv_ishr hx hb dL_files_61 ?_
        refine lv_sipush (v := 255) hx hb dL_files_62 (by decide) ?_
        refine xr_callS (As := [.int (zv >>> ((2 : Int32) &&& 31)), .int 255]) (rest := [.int 1]) hC hI (qL_low l (zv >>> ((2 : Int32) &&& 31)) 255 (by decide)) (va_cwS 2 hts gL_files_L_low rfl rfl rfl (by decide +kernel) ⟨Nat.le_of_ble_eq_true rfl, Nat.le_of_ble_eq_true rfl⟩) rfl hl.1 rfl (Nat.le_of_ble_eq_true rfl) dL_files_65 ⟨Nat.le_of_ble_eq_true rfl, Nat.le_of_ble_eq_true rfl⟩ (fun H locs hI => ?_)
        refine lv_iadd hx hb dL_files_68 ?_
        refine lv_goto (tgt := 89) hx hb dL_files_69 (by decide) ?_
        exact J89 (1 + (fL_low (zv >>> ((2 : Int32) &&& 31)) 255)) _ _ ls ⟨hB89, hI, lv_sub hl [0, 1, 2, 3, 4, 5, 6, 7, 8, 9] rfl⟩
  · have hG := hG.trans (if_pos c_1)
    refine lv_iconst (v := 1) hx hb dL_files_9 (by decide) ?_
    refine W.widen (k := 8) (n := 342) (Nat.le_of_ble_eq_true rfl) (Nat.le_of_ble_eq_true rfl) ?_
    exact W.zret (v := 1) (ty := .boolean) hx hb hr rfl (fun t9 ht9 hW9 => ⟨⟨1, g, rfl, ⟨rfl, by rw [hG]; show XK _ _ _ _ _ _ _ (XS S (99, 0, 0, 0)); rw [XS_99]; exact hK⟩, ⟨by rw [hG, ht9]; show CH _ _ _ (XS S (99, 0, 0, 0)) _; rw [XS_99]; exact hI.1, by rw [hG, ht9]; exact hI.2.1⟩⟩, hI.2.2.1.F ht9⟩) hI.2.2.1.2.2 dL_files_10
