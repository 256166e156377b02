/-! walked: tells -/
set_option maxHeartbeats 8000000 in
set_option maxRecDepth 100000 in
theorem qL_tells (l : Launch) (hfl : l.stackTraces = false) (A B : Nat → Prop) (D : va_G) (cy : Nat → ClassId) (g : CWt) (S : St) (e0 mi n0 x0 : Nat) (la : Nat → Nat) (hK : XK A B e0 n0 x0 la g S) (L : St) (hV : LV L) (act : Int32) (zv : Int32) (f : Nat) (hf : f < 3) (t : Nat) (ht : t < 5) (b : Nat) (hb : b < 8) (s_ : Nat) (hs_ : s_ < 8) (hfz : fL_low zv 3 = nI f) (htz : fL_low (zv >>> ((2 : Int32) &&& 31)) 5 = nI t) (hbz : fL_low (zv >>> ((4 : Int32) &&& 31)) 8 = nI b) (hsz : ¬ L 11 1 = 0 → fL_low (zv >>> ((3 : Int32) &&& 31)) (L 11 1) = nI s_ ∧ s_ < q1 L) (hOK : XOK S (fL_tells L act zv f t b s_).2.1 (fL_tells L act zv f t b s_).2.2) : Met l yL_tells wsL_tells ({ frames := 10, cells := 8, slots := 342, locals := 265 } : Room) (va_Pc [.ref x0, .int act, .int zv, .ref (la 0), .ref (la 1), .ref (la 2), .ref (la 3), .ref (la 4), .ref (la 5), .ref (la 6), .ref (la 7), .ref (la 9), .ref (la 11)] (XW A B D cy g S e0 mi n0 la L)) (va_Qi (fun (r : Int32) (g1 : CWt) => r = 1 ∧ XK A B e0 n0 x0 la g1 (XS S (fL_tells L act zv f t b s_).2.1)) (fun g1 t9 => CH D cy g1 (XS S (fL_tells L act zv f t b s_).2.1) t9.heap ∧ LH 12 D cy la (fL_tells L act zv f t b s_).1 t9.heap) (AB A B)) 8 342 (AB A B) := by
  refine Met.ofW (cc := cL_tells) (maxL := 21) (ret := (some .boolean)) (by decide) rfl ?_
  intro p e s m args below meth c s₁ B9 hml hv
  obtain ⟨rfl, hM, hLH, hKK, hJ, hX, hO, hn0⟩ := hv
  have hx := B9.exec
  have hb := B9.bytes
  have hr := B9.returns
  have hts := atoms_spec (ws := wsL_tells) B9.pre
  have hown : s.vm.findClass RL = some m.cls := findClass_of_methodNamed B9.named
  have hlocks := B9.notSynchronized
  have hC : XC p l s m _ c cL_tells 21 A B D cy e0 mi wsL_tells := ⟨⟨⟨hx, hb, hml, hown, hts⟩, hKK⟩, hfl, hJ, hX, hO⟩
  have hI : XI A B D cy g n0 la s S L s.heap [] := ⟨hM, hLH, va_S.rf, hn0⟩
  have hb1 := hV.b1
  have hb2 := hV.b2
  have hb3 := hV.b3
  have hb4 := hV.b4
  have k_76 := hts (.constant RL 76 (131072)) (List.mem_cons_of_mem _ (List.mem_append_left _ (List.mem_append_left _ (List.mem_append_left _ (List.mem_append_left _ (List.mem_append_left _ (List.mem_append_left _ (List.mem_append_left _ (List.mem_append_left _ (List.mem_append_left _ (List.mem_append_left _ (List.mem_append_left _ (List.mem_append_left _ (List.mem_append_left _ (List.mem_of_getElem? (i := 0) rfl)))))))))))))))
  have hl := lv_entry ([.ref x0, .int act, .int zv, .ref (la 0), .ref (la 1), .ref (la 2), .ref (la 3), .ref (la 4), .ref (la 5), .ref (la 6), .ref (la 7), .ref (la 9), .ref (la 11)]) (n := 21) (Nat.le_of_ble_eq_true rfl)
  rw [lg_entry_eq]
  generalize (lg_sl ([.ref x0, .int act, .int zv, .ref (la 0), .ref (la 1), .ref (la 2), .ref (la 3), .ref (la 4), .ref (la 5), .ref (la 6), .ref (la 7), .ref (la 9), .ref (la 11)]) ++ List.replicate (21 - (lg_sl ([.ref x0, .int act, .int zv, .ref (la 0), .ref (la 1), .ref (la 2), .ref (la 3), .ref (la 4), .ref (la 5), .ref (la 6), .ref (la 7), .ref (la 9), .ref (la 11)])).length) Slot.unset).toArray = ls at hl ⊢
  have hl : lv_has ls 21 [(0, .ref x0), (1, .int act), (2, .int zv), (3, .ref (la 0)), (4, .ref (la 1)), (5, .ref (la 2)), (6, .ref (la 3)), (7, .ref (la 4)), (8, .ref (la 5)), (9, .ref (la 6)), (10, .ref (la 7)), (11, .ref (la 9)), (12, .ref (la 11))] := hl
  have hG : fL_tells L act zv f t b s_ = fL_tells L act zv f t b s_ := rfl
  refine lv_iload_n hx hb dL_tells_0 rfl (lv_at hl 2 rfl) ?_
  refine lv_iconst (v := 3) hx hb dL_tells_1 (by decide) ?_
  refine xr_callS (As := [.int zv, .int 3]) (rest := []) hC hI (qL_low l zv 3 (by decide)) (va_cwS 2 hts gL_tells_L_low rfl rfl rfl (by decide +kernel) ⟨Nat.le_of_ble_eq_true rfl, Nat.le_of_ble_eq_true rfl⟩) rfl hl.1 rfl (Nat.le_of_ble_eq_true rfl) dL_tells_2 ⟨Nat.le_of_ble_eq_true rfl, Nat.le_of_ble_eq_true rfl⟩ (fun H locs hI => ?_)
  rw [hfz]
  refine lv_istore (lv' := [(13, .int (nI f)), (0, .ref x0), (1, .int act), (2, .int zv), (3, .ref (la 0)), (4, .ref (la 1)), (5, .ref (la 2)), (6, .ref (la 3)), (7, .ref (la 4)), (8, .ref (la 5)), (9, .ref (la 6)), (10, .ref (la 7)), (11, .ref (la 9)), (12, .ref (la 11))]) hx hb dL_tells_5 hl (by decide) rfl (fun ls hl => ?_)
  refine lv_iload_n hx hb dL_tells_7 rfl (lv_at hl 3 rfl) ?_
  refine lv_iconst (v := 2) hx hb dL_tells_8 (by decide) ?_
  refine lv_ishr hx hb dL_tells_9 ?_
  refine lv_iconst (v := 5) hx hb dL_tells_10 (by decide) ?_
  refine xr_callS (As := [.int (zv >>> ((2 : Int32) &&& 31)), .int 5]) (rest := []) hC hI (qL_low l (zv >>> ((2 : Int32) &&& 31)) 5 (by decide)) (va_cwS 2 hts gL_tells_L_low rfl rfl rfl (by decide +kernel) ⟨Nat.le_of_ble_eq_true rfl, Nat.le_of_ble_eq_true rfl⟩) rfl hl.1 rfl (Nat.le_of_ble_eq_true rfl) dL_tells_11 ⟨Nat.le_of_ble_eq_true rfl, Nat.le_of_ble_eq_true rfl⟩ (fun H locs hI => ?_)
  rw [htz]
  refine lv_istore (lv' := [(14, .int (nI t)), (13, .int (nI f)), (0, .ref x0), (1, .int act), (2, .int zv), (3, .ref (la 0)), (4, .ref (la 1)), (5, .ref (la 2)), (6, .ref (la 3)), (7, .ref (la 4)), (8, .ref (la 5)), (9, .ref (la 6)), (10, .ref (la 7)), (11, .ref (la 9)), (12, .ref (la 11))]) hx hb dL_tells_14 hl (by decide) rfl (fun ls hl => ?_)
  refine lv_iload_n hx hb dL_tells_16 rfl (lv_at hl 4 rfl) ?_
  refine lv_iconst (v := 4) hx hb dL_tells_17 (by decide) ?_
  refine lv_ishr hx hb dL_tells_18 ?_
  refine lv_bipush (v := 8) hx hb dL_tells_19 (by decide) ?_
  refine xr_callS (As := [.int (zv >>> ((4 : Int32) &&& 31)), .int 8]) (rest := []) hC hI (qL_low l (zv >>> ((4 : Int32) &&& 31)) 8 (by decide)) (va_cwS 2 hts gL_tells_L_low rfl rfl rfl (by decide +kernel) ⟨Nat.le_of_ble_eq_true rfl, Nat.le_of_ble_eq_true rfl⟩) rfl hl.1 rfl (Nat.le_of_ble_eq_true rfl) dL_tells_21 ⟨Nat.le_of_ble_eq_true rfl, Nat.le_of_ble_eq_true rfl⟩ (fun H locs hI => ?_)
  rw [hbz]
  refine lv_istore (lv' := [(15, .int (nI b)), (14, .int (nI t)), (13, .int (nI f)), (0, .ref x0), (1, .int act), (2, .int zv), (3, .ref (la 0)), (4, .ref (la 1)), (5, .ref (la 2)), (6, .ref (la 3)), (7, .ref (la 4)), (8, .ref (la 5)), (9, .ref (la 6)), (10, .ref (la 7)), (11, .ref (la 9)), (12, .ref (la 11))]) hx hb dL_tells_24 hl (by decide) rfl (fun ls hl => ?_)
  refine lv_iload_n hx hb dL_tells_26 rfl (lv_at hl 4 rfl) ?_
  refine lv_if_ne (tgt := 93) hx hb dL_tells_27 (by decide) (fun c_1 => ?_) (fun c_1 => ?_)
  · have hG := hG.trans (if_neg c_1)
    refine lv_iload_n hx hb dL_tells_93 rfl (lv_at hl 4 rfl) ?_
    refine lv_iconst (v := 1) hx hb dL_tells_94 (by decide) ?_
    refine lv_icmp_eq (tgt := 105) hx hb dL_tells_95 (by decide) (fun c_2 => ?_) (fun c_2 => ?_)
    · have hG := hG.trans (if_pos c_2)
      refine lv_aload hx hb dL_tells_105 (lv_at hl 15 rfl) ?_
      refine lv_iconst (v := 1) hx hb dL_tells_107 (by decide) ?_
      refine xr_ld hC hI 11 (by decide) (nx_in (by decide : (1 : Int32) = nI 1) (by decide) (by decide)) (v := (L 11 1)) (congrArg (L 11) (by decide : ix 1 = 1)) dL_tells_108 ?_
      refine lv_bipush (v := 8) hx hb dL_tells_109 (by decide) ?_
      refine lv_icmp_ne (tgt := 116) hx hb dL_tells_111 (by decide) (fun c_3 => ?_) (fun c_3 => ?_)
      · have hG := hG.trans (if_neg c_3)
        refine lv_aload hx hb dL_tells_116 (lv_at hl 15 rfl) ?_
        refine lv_iconst (v := 1) hx hb dL_tells_118 (by decide) ?_
        refine xr_ld hC hI 11 (by decide) (nx_in (by decide : (1 : Int32) = nI 1) (by decide) (by decide)) (v := (L 11 1)) (congrArg (L 11) (by decide : ix 1 = 1)) dL_tells_119 ?_
        refine lv_istore (lv' := [(16, .int (L 11 1)), (15, .int (nI b)), (14, .int (nI t)), (13, .int (nI f)), (0, .ref x0), (1, .int act), (2, .int zv), (3, .ref (la 0)), (4, .ref (la 1)), (5, .ref (la 2)), (6, .ref (la 3)), (7, .ref (la 4)), (8, .ref (la 5)), (9, .ref (la 6)), (10, .ref (la 7)), (11, .ref (la 9)), (12, .ref (la 11))]) hx hb dL_tells_120 hl (by decide) rfl (fun ls hl => ?_)
        refine lv_aload hx hb dL_tells_122 (lv_at hl 16 rfl) ?_
        refine lv_iconst (v := 1) hx hb dL_tells_124 (by decide) ?_
        refine lv_dup2_11 hx hb dL_tells_125 rfl rfl ?_
        refine xr_ld hC hI 11 (by decide) (nx_in (by decide : (1 : Int32) = nI 1) (by decide) (by decide)) (v := (L 11 1)) (congrArg (L 11) (by decide : ix 1 = 1)) dL_tells_126 ?_
        refine lv_iconst (v := 1) hx hb dL_tells_127 (by decide) ?_
        refine lv_iadd hx hb dL_tells_128 ?_
        refine xr_st hC hK hI 11 (by decide) (nx_in (by decide : (1 : Int32) = nI 1) (by decide) (by decide)) (n := 1) (by decide : ix 1 = 1) dL_tells_129 (fun H locs hI => ?_)
        refine lv_aload_n hx hb dL_tells_130 rfl (lv_at hl 7 rfl) ?_
        refine lv_bipush (v := 8) hx hb dL_tells_131 (by decide) ?_
        refine lv_iload hx hb dL_tells_133 (lv_at hl 0 rfl) ?_
        refine lv_imul hx hb dL_tells_135 ?_
        refine lv_iload hx hb dL_tells_136 (lv_at hl 3 rfl) ?_
        refine xr_st hC hK hI 0 (by decide) (show vp_in (8 * (L 11 1)) 64 from nx_in (nx_mul (by decide : (8 : Int32) = nI 8) hV.n1) (by have h90 := ne_8 hV.n1 hV.b1 (by assumption); omega) (by decide)) (n := (8 * (q1 L))) (nx_ix (x := (8 * (L 11 1))) (nx_mul (by decide : (8 : Int32) = nI 8) hV.n1) (by have h90 := ne_8 hV.n1 hV.b1 (by assumption); omega)) dL_tells_138 (fun H locs hI => ?_)
        refine lv_aload_n hx hb dL_tells_139 rfl (lv_at hl 7 rfl) ?_
        refine lv_bipush (v := 8) hx hb dL_tells_140 (by decide) ?_
        refine lv_iload hx hb dL_tells_142 (lv_at hl 0 rfl) ?_
        refine lv_imul hx hb dL_tells_144 ?_
        refine lv_iconst (v := 1) hx hb dL_tells_145 (by decide) ?_
        refine lv_iadd hx hb dL_tells_146 ?_
        refine lv_iconst (v := 1) hx hb dL_tells_147 (by decide) ?_
        refine lv_iload_n hx hb dL_tells_148 rfl (lv_at hl 6 rfl) ?_
        refine lv_iconst (v := 3) hx hb dL_tells_149 (by decide) ?_
        refine lv_ishr hx hb dL_tells_150 ?_
        refine lv_sipush (v := 255) hx hb dL_tells_151 (by decide) ?_
        refine xr_callS (As := [.int (zv >>> ((3 : Int32) &&& 31)), .int 255]) (rest := [.int 1, .int ((8 * (L 11 1)) + 1), .ref (la 0)]) hC hI (qL_low l (zv >>> ((3 : Int32) &&& 31)) 255 (by decide)) (va_cwS 2 hts gL_tells_L_low rfl rfl rfl (by decide +kernel) ⟨Nat.le_of_ble_eq_true rfl, Nat.le_of_ble_eq_true rfl⟩) rfl hl.1 rfl (Nat.le_of_ble_eq_true rfl) dL_tells_154 ⟨Nat.le_of_ble_eq_true rfl, Nat.le_of_ble_eq_true rfl⟩ (fun H locs hI => ?_)
        refine lv_iadd hx hb dL_tells_157 ?_
        refine xr_st hC hK hI 0 (by decide) (show vp_in ((8 * (L 11 1)) + 1) 64 from nx_in (nx_add (nx_mul (by decide : (8 : Int32) = nI 8) hV.n1) (by decide : (1 : Int32) = nI 1)) (by have h90 := ne_8 hV.n1 hV.b1 (by assumption); omega) (by decide)) (n := (8 * (q1 L) + 1)) (nx_ix (x := ((8 * (L 11 1)) + 1)) (nx_add (nx_mul (by decide : (8 : Int32) = nI 8) hV.n1) (by decide : (1 : Int32) = nI 1)) (by have h90 := ne_8 hV.n1 hV.b1 (by assumption); omega)) dL_tells_158 (fun H locs hI => ?_)
        refine lv_aload_n hx hb dL_tells_159 rfl (lv_at hl 7 rfl) ?_
        refine lv_bipush (v := 8) hx hb dL_tells_160 (by decide) ?_
        refine lv_iload hx hb dL_tells_162 (lv_at hl 0 rfl) ?_
        refine lv_imul hx hb dL_tells_164 ?_
        refine lv_iconst (v := 2) hx hb dL_tells_165 (by decide) ?_
        refine lv_iadd hx hb dL_tells_166 ?_
        refine lv_iload_n hx hb dL_tells_167 rfl (lv_at hl 6 rfl) ?_
        refine lv_iconst (v := 5) hx hb dL_tells_168 (by decide) ?_
        refine lv_ishr hx hb dL_tells_169 ?_
        refine lv_iconst (v := 3) hx hb dL_tells_170 (by decide) ?_
        refine xr_callS (As := [.int (zv >>> ((5 : Int32) &&& 31)), .int 3]) (rest := [.int ((8 * (L 11 1)) + 2), .ref (la 0)]) hC hI (qL_low l (zv >>> ((5 : Int32) &&& 31)) 3 (by decide)) (va_cwS 2 hts gL_tells_L_low rfl rfl rfl (by decide +kernel) ⟨Nat.le_of_ble_eq_true rfl, Nat.le_of_ble_eq_true rfl⟩) rfl hl.1 rfl (Nat.le_of_ble_eq_true rfl) dL_tells_171 ⟨Nat.le_of_ble_eq_true rfl, Nat.le_of_ble_eq_true rfl⟩ (fun H locs hI => ?_)
        refine xr_st hC hK hI 0 (by decide) (show vp_in ((8 * (L 11 1)) + 2) 64 from nx_in (nx_add (nx_mul (by decide : (8 : Int32) = nI 8) hV.n1) (by decide : (2 : Int32) = nI 2)) (by have h90 := ne_8 hV.n1 hV.b1 (by assumption); omega) (by decide)) (n := (8 * (q1 L) + 2)) (nx_ix (x := ((8 * (L 11 1)) + 2)) (nx_add (nx_mul (by decide : (8 : Int32) = nI 8) hV.n1) (by decide : (2 : Int32) = nI 2)) (by have h90 := ne_8 hV.n1 hV.b1 (by assumption); omega)) dL_tells_174 (fun H locs hI => ?_)
        refine lv_aload_n hx hb dL_tells_175 rfl (lv_at hl 7 rfl) ?_
        refine lv_bipush (v := 8) hx hb dL_tells_176 (by decide) ?_
        refine lv_iload hx hb dL_tells_178 (lv_at hl 0 rfl) ?_
        refine lv_imul hx hb dL_tells_180 ?_
        refine lv_iconst (v := 3) hx hb dL_tells_181 (by decide) ?_
        refine lv_iadd hx hb dL_tells_182 ?_
        refine lv_iconst (v := 1) hx hb dL_tells_183 (by decide) ?_
        refine xr_st hC hK hI 0 (by decide) (show vp_in ((8 * (L 11 1)) + 3) 64 from nx_in (nx_add (nx_mul (by decide : (8 : Int32) = nI 8) hV.n1) (by decide : (3 : Int32) = nI 3)) (by have h90 := ne_8 hV.n1 hV.b1 (by assumption); omega) (by decide)) (n := (8 * (q1 L) + 3)) (nx_ix (x := ((8 * (L 11 1)) + 3)) (nx_add (nx_mul (by decide : (8 : Int32) = nI 8) hV.n1) (by decide : (3 : Int32) = nI 3)) (by have h90 := ne_8 hV.n1 hV.b1 (by assumption); omega)) dL_tells_184 (fun H locs hI => ?_)
        refine lv_aload_n hx hb dL_tells_185 rfl (lv_at hl 4 rfl) ?_
        refine lv_iload hx hb dL_tells_186 (lv_at hl 3 rfl) ?_
        refine lv_aload_n hx hb dL_tells_188 rfl (lv_at hl 7 rfl) ?_
        refine lv_bipush (v := 8) hx hb dL_tells_189 (by decide) ?_
        refine lv_iload hx hb dL_tells_191 (lv_at hl 0 rfl) ?_
        refine lv_imul hx hb dL_tells_193 ?_
        refine lv_iconst (v := 1) hx hb dL_tells_194 (by decide) ?_
        refine lv_iadd hx hb dL_tells_195 ?_
        refine xr_ld hC hI 0 (by decide) (show vp_in ((8 * (L 11 1)) + 1) 64 from nx_in (nx_add (nx_mul (by decide : (8 : Int32) = nI 8) hV.n1) (by decide : (1 : Int32) = nI 1)) (by have h90 := ne_8 hV.n1 hV.b1 (by assumption); omega) (by decide)) (v := ((up (up (up (up (up L 11 1 ((L 11 1) + 1)) 0 (8 * (q1 L)) (nI f)) 0 (8 * (q1 L) + 1) (1 + (fL_low (zv >>> ((3 : Int32) &&& 31)) 255))) 0 (8 * (q1 L) + 2) (fL_low (zv >>> ((5 : Int32) &&& 31)) 3)) 0 (8 * (q1 L) + 3) 1) 0 (8 * (q1 L) + 1))) (congrArg ((up (up (up (up (up L 11 1 ((L 11 1) + 1)) 0 (8 * (q1 L)) (nI f)) 0 (8 * (q1 L) + 1) (1 + (fL_low (zv >>> ((3 : Int32) &&& 31)) 255))) 0 (8 * (q1 L) + 2) (fL_low (zv >>> ((5 : Int32) &&& 31)) 3)) 0 (8 * (q1 L) + 3) 1) 0) (nx_ix (x := ((8 * (L 11 1)) + 1)) (nx_add (nx_mul (by decide : (8 : Int32) = nI 8) hV.n1) (by decide : (1 : Int32) = nI 1)) (by have h90 := ne_8 hV.n1 hV.b1 (by assumption); omega))) dL_tells_196 ?_
        refine lv_aload_n hx hb dL_tells_197 rfl (lv_at hl 7 rfl) ?_
        refine lv_bipush (v := 8) hx hb dL_tells_198 (by decide) ?_
        refine lv_iload hx hb dL_tells_200 (lv_at hl 0 rfl) ?_
        refine lv_imul hx hb dL_tells_202 ?_
        refine lv_iconst (v := 2) hx hb dL_tells_203 (by decide) ?_
        refine lv_iadd hx hb dL_tells_204 ?_
        refine xr_ld hC hI 0 (by decide) (show vp_in ((8 * (L 11 1)) + 2) 64 from nx_in (nx_add (nx_mul (by decide : (8 : Int32) = nI 8) hV.n1) (by decide : (2 : Int32) = nI 2)) (by have h90 := ne_8 hV.n1 hV.b1 (by assumption); omega) (by decide)) (v := ((up (up (up (up (up L 11 1 ((L 11 1) + 1)) 0 (8 * (q1 L)) (nI f)) 0 (8 * (q1 L) + 1) (1 + (fL_low (zv >>> ((3 : Int32) &&& 31)) 255))) 0 (8 * (q1 L) + 2) (fL_low (zv >>> ((5 : Int32) &&& 31)) 3)) 0 (8 * (q1 L) + 3) 1) 0 (8 * (q1 L) + 2))) (congrArg ((up (up (up (up (up L 11 1 ((L 11 1) + 1)) 0 (8 * (q1 L)) (nI f)) 0 (8 * (q1 L) + 1) (1 + (fL_low (zv >>> ((3 : Int32) &&& 31)) 255))) 0 (8 * (q1 L) + 2) (fL_low (zv >>> ((5 : Int32) &&& 31)) 3)) 0 (8 * (q1 L) + 3) 1) 0) (nx_ix (x := ((8 * (L 11 1)) + 2)) (nx_add (nx_mul (by decide : (8 : Int32) = nI 8) hV.n1) (by decide : (2 : Int32) = nI 2)) (by have h90 := ne_8 hV.n1 hV.b1 (by assumption); omega))) dL_tells_205 ?_
        have hok : (xq7 S 13 (nI f) ((up (up (up (up (up L 11 1 ((L 11 1) + 1)) 0 (8 * (q1 L)) (nI f)) 0 (8 * (q1 L) + 1) (1 + (fL_low (zv >>> ((3 : Int32) &&& 31)) 255))) 0 (8 * (q1 L) + 2) (fL_low (zv >>> ((5 : Int32) &&& 31)) 3)) 0 (8 * (q1 L) + 3) 1) 0 (8 * (q1 L) + 1)) ((up (up (up (up (up L 11 1 ((L 11 1) + 1)) 0 (8 * (q1 L)) (nI f)) 0 (8 * (q1 L) + 1) (1 + (fL_low (zv >>> ((3 : Int32) &&& 31)) 255))) 0 (8 * (q1 L) + 2) (fL_low (zv >>> ((5 : Int32) &&& 31)) 3)) 0 (8 * (q1 L) + 3) 1) 0 (8 * (q1 L) + 2))).2.1 = 0 ∧ (xq7 S 13 (nI f) ((up (up (up (up (up L 11 1 ((L 11 1) + 1)) 0 (8 * (q1 L)) (nI f)) 0 (8 * (q1 L) + 1) (1 + (fL_low (zv >>> ((3 : Int32) &&& 31)) 255))) 0 (8 * (q1 L) + 2) (fL_low (zv >>> ((5 : Int32) &&& 31)) 3)) 0 (8 * (q1 L) + 3) 1) 0 (8 * (q1 L) + 1)) ((up (up (up (up (up L 11 1 ((L 11 1) + 1)) 0 (8 * (q1 L)) (nI f)) 0 (8 * (q1 L) + 1) (1 + (fL_low (zv >>> ((3 : Int32) &&& 31)) 255))) 0 (8 * (q1 L) + 2) (fL_low (zv >>> ((5 : Int32) &&& 31)) 3)) 0 (8 * (q1 L) + 3) 1) 0 (8 * (q1 L) + 2))).1 = (L 11 1) := XOK.d (by have h9 := hOK; rw [hG] at h9; exact h9) (by decide)
        refine xr_mk (As := [.int (nI f), .int ((up (up (up (up (up L 11 1 ((L 11 1) + 1)) 0 (8 * (q1 L)) (nI f)) 0 (8 * (q1 L) + 1) (1 + (fL_low (zv >>> ((3 : Int32) &&& 31)) 255))) 0 (8 * (q1 L) + 2) (fL_low (zv >>> ((5 : Int32) &&& 31)) 3)) 0 (8 * (q1 L) + 3) 1) 0 (8 * (q1 L) + 1)), .int ((up (up (up (up (up L 11 1 ((L 11 1) + 1)) 0 (8 * (q1 L)) (nI f)) 0 (8 * (q1 L) + 1) (1 + (fL_low (zv >>> ((3 : Int32) &&& 31)) 255))) 0 (8 * (q1 L) + 2) (fL_low (zv >>> ((5 : Int32) &&& 31)) 3)) 0 (8 * (q1 L) + 3) 1) 0 (8 * (q1 L) + 2))]) (rest := []) 13 (nI f) ((up (up (up (up (up L 11 1 ((L 11 1) + 1)) 0 (8 * (q1 L)) (nI f)) 0 (8 * (q1 L) + 1) (1 + (fL_low (zv >>> ((3 : Int32) &&& 31)) 255))) 0 (8 * (q1 L) + 2) (fL_low (zv >>> ((5 : Int32) &&& 31)) 3)) 0 (8 * (q1 L) + 3) 1) 0 (8 * (q1 L) + 1)) ((up (up (up (up (up L 11 1 ((L 11 1) + 1)) 0 (8 * (q1 L)) (nI f)) 0 (8 * (q1 L) + 1) (1 + (fL_low (zv >>> ((3 : Int32) &&& 31)) 255))) 0 (8 * (q1 L) + 2) (fL_low (zv >>> ((5 : Int32) &&& 31)) 3)) 0 (8 * (q1 L) + 3) 1) 0 (8 * (q1 L) + 2)) hC hK hI (qX7_scheme l hC.2.1 A D cy g hK.1 S e0 mi n0 hK.2.2.2.1 hK.v hK.i.z (nI f) ((up (up (up (up (up L 11 1 ((L 11 1) + 1)) 0 (8 * (q1 L)) (nI f)) 0 (8 * (q1 L) + 1) (1 + (fL_low (zv >>> ((3 : Int32) &&& 31)) 255))) 0 (8 * (q1 L) + 2) (fL_low (zv >>> ((5 : Int32) &&& 31)) 3)) 0 (8 * (q1 L) + 3) 1) 0 (8 * (q1 L) + 1)) ((up (up (up (up (up L 11 1 ((L 11 1) + 1)) 0 (8 * (q1 L)) (nI f)) 0 (8 * (q1 L) + 1) (1 + (fL_low (zv >>> ((3 : Int32) &&& 31)) 255))) 0 (8 * (q1 L) + 2) (fL_low (zv >>> ((5 : Int32) &&& 31)) 3)) 0 (8 * (q1 L) + 3) 1) 0 (8 * (q1 L) + 2))) hok.1 (cwV 3 hts gL_tells_X7_scheme rfl rfl rfl (by decide +kernel) ⟨Nat.le_of_ble_eq_true rfl, Nat.le_of_ble_eq_true rfl⟩) rfl hl.1 rfl (Nat.le_of_ble_eq_true rfl) dL_tells_206 ⟨Nat.le_of_ble_eq_true rfl, Nat.le_of_ble_eq_true rfl⟩ (fun g H locs hK hI => ?_)
        refine lv_iload hx hb dL_tells_209 (lv_at hl 0 rfl) ?_
        refine lv_icmp_ne (tgt := 218) hx hb dL_tells_211 (by decide) (fun c9 => absurd hok.2 c9) (fun _ => ?_)
        refine lv_iconst (v := 1) hx hb dL_tells_214 (by decide) ?_
        refine lv_goto (tgt := 219) hx hb dL_tells_215 (by decide) ?_
        refine W.widen (k := 8) (n := 342) (Nat.le_of_ble_eq_true rfl) (Nat.le_of_ble_eq_true rfl) ?_
        exact W.zret (v := 1) (ty := .boolean) hx hb hr rfl (fun t9 ht9 hW9 => ⟨⟨1, g, rfl, ⟨rfl, by rw [hG]; exact hK⟩, ⟨by rw [hG, ht9]; exact hI.1, by rw [hG, ht9]; exact hI.2.1⟩⟩, hI.2.2.1.F ht9⟩) hI.2.2.1.2.2 dL_tells_219
      · have hG := hG.trans (if_pos c_3)
        refine lv_iconst (v := 1) hx hb dL_tells_114 (by decide) ?_
        refine W.widen (k := 8) (n := 342) (Nat.le_of_ble_eq_true rfl) (Nat.le_of_ble_eq_true rfl) ?_
        exact W.zret (v := 1) (ty := .boolean) hx hb hr rfl (fun t9 ht9 hW9 => ⟨⟨1, g, rfl, ⟨rfl, by rw [hG]; show XK _ _ _ _ _ _ _ (XS S (99, 0, 0, 0)); rw [XS_99]; exact hK⟩, ⟨by rw [hG, ht9]; show CH _ _ _ (XS S (99, 0, 0, 0)) _; rw [XS_99]; exact hI.1, by rw [hG, ht9]; exact hI.2.1⟩⟩, hI.2.2.1.F ht9⟩) hI.2.2.1.2.2 dL_tells_115
    · have hG := hG.trans (if_neg c_2)
      refine lv_aload hx hb dL_tells_98 (lv_at hl 15 rfl) ?_
      refine lv_iconst (v := 1) hx hb dL_tells_100 (by decide) ?_
      refine xr_ld hC hI 11 (by decide) (nx_in (by decide : (1 : Int32) = nI 1) (by decide) (by decide)) (v := (L 11 1)) (congrArg (L 11) (by decide : ix 1 = 1)) dL_tells_101 ?_
      refine lv_if_ne (tgt := 220) hx hb dL_tells_102 (by decide) (fun c_4 => ?_) (fun c_4 => ?_)
      · have hG := hG.trans (if_neg c_4)
        refine lv_iload_n hx hb dL_tells_220 rfl (lv_at hl 5 rfl) ?_
        refine lv_iconst (v := 3) hx hb dL_tells_221 (by decide) ?_
        refine lv_ishr hx hb dL_tells_222 ?_
        refine lv_aload hx hb dL_tells_223 (lv_at hl 15 rfl) ?_
        refine lv_iconst (v := 1) hx hb dL_tells_225 (by decide) ?_
        refine xr_ld hC hI 11 (by decide) (nx_in (by decide : (1 : Int32) = nI 1) (by decide) (by decide)) (v := (L 11 1)) (congrArg (L 11) (by decide : ix 1 = 1)) dL_tells_226 ?_
        refine xr_callS (As := [.int (zv >>> ((3 : Int32) &&& 31)), .int (L 11 1)]) (rest := []) hC hI (qL_low l (zv >>> ((3 : Int32) &&& 31)) (L 11 1) (by assumption)) (va_cwS 2 hts gL_tells_L_low rfl rfl rfl (by decide +kernel) ⟨Nat.le_of_ble_eq_true rfl, Nat.le_of_ble_eq_true rfl⟩) rfl hl.1 rfl (Nat.le_of_ble_eq_true rfl) dL_tells_227 ⟨Nat.le_of_ble_eq_true rfl, Nat.le_of_ble_eq_true rfl⟩ (fun H locs hI => ?_)
        rw [(hsz (by assumption)).1]
        refine lv_istore (lv' := [(16, .int (nI s_)), (15, .int (nI b)), (14, .int (nI t)), (13, .int (nI f)), (0, .ref x0), (1, .int act), (2, .int zv), (3, .ref (la 0)), (4, .ref (la 1)), (5, .ref (la 2)), (6, .ref (la 3)), (7, .ref (la 4)), (8, .ref (la 5)), (9, .ref (la 6)), (10, .ref (la 7)), (11, .ref (la 9)), (12, .ref (la 11))]) hx hb dL_tells_230 hl (by decide) rfl (fun ls hl => ?_)
        refine lv_iload_n hx hb dL_tells_232 rfl (lv_at hl 5 rfl) ?_
        refine lv_iconst (v := 2) hx hb dL_tells_233 (by decide) ?_
        refine lv_icmp_ne (tgt := 338) hx hb dL_tells_234 (by decide) (fun c_5 => ?_) (fun c_5 => ?_)
        · have hG := hG.trans (if_neg c_5)
          refine lv_iload_n hx hb dL_tells_338 rfl (lv_at hl 5 rfl) ?_
          refine lv_iconst (v := 3) hx hb dL_tells_339 (by decide) ?_
          refine lv_icmp_ne (tgt := 415) hx hb dL_tells_340 (by decide) (fun c_6 => ?_) (fun c_6 => ?_)
          · have hG := hG.trans (if_neg c_6)
            refine lv_iload_n hx hb dL_tells_415 rfl (lv_at hl 5 rfl) ?_
            refine lv_iconst (v := 4) hx hb dL_tells_416 (by decide) ?_
            refine lv_icmp_ne (tgt := 463) hx hb dL_tells_417 (by decide) (fun c_7 => ?_) (fun c_7 => ?_)
            · have hG := hG.trans (if_neg c_7)
              refine lv_iload_n hx hb dL_tells_463 rfl (lv_at hl 5 rfl) ?_
              refine lv_iconst (v := 5) hx hb dL_tells_464 (by decide) ?_
              refine lv_icmp_ne (tgt := 549) hx hb dL_tells_465 (by decide) (fun c_8 => ?_) (fun c_8 => ?_)
              · have hG := hG.trans (if_neg c_8)
                refine lv_iload_n hx hb dL_tells_549 rfl (lv_at hl 5 rfl) ?_
                refine lv_bipush (v := 6) hx hb dL_tells_550 (by decide) ?_
                refine lv_icmp_ne (tgt := 617) hx hb dL_tells_552 (by decide) (fun c_9 => ?_) (fun c_9 => ?_)
                · have hG := hG.trans (if_neg c_9)
                  refine lv_iload_n hx hb dL_tells_617 rfl (lv_at hl 5 rfl) ?_
                  refine lv_bipush (v := 7) hx hb dL_tells_618 (by decide) ?_
                  refine lv_icmp_ne (tgt := 691) hx hb dL_tells_620 (by decide) (fun c_10 => ?_) (fun c_10 => ?_)
                  · have hG := hG.trans (if_neg c_10)
                    refine lv_iload_n hx hb dL_tells_691 rfl (lv_at hl 5 rfl) ?_
                    refine lv_bipush (v := 8) hx hb dL_tells_692 (by decide) ?_
                    refine lv_icmp_ne (tgt := 840) hx hb dL_tells_694 (by decide) (fun c_11 => ?_) (fun c_11 => ?_)
                    · have hG := hG.trans (if_neg c_11)
                      refine lv_iload hx hb dL_tells_840 (lv_at hl 2 rfl) ?_
                      refine lv_iconst (v := 1) hx hb dL_tells_842 (by decide) ?_
                      refine lv_iadd hx hb dL_tells_843 ?_
                      refine lv_iload_n hx hb dL_tells_844 rfl (lv_at hl 6 rfl) ?_
                      refine lv_bipush (v := 6) hx hb dL_tells_845 (by decide) ?_
                      refine lv_ishr hx hb dL_tells_847 ?_
                      refine lv_iconst (v := 4) hx hb dL_tells_848 (by decide) ?_
                      refine xr_callS (As := [.int (zv >>> ((6 : Int32) &&& 31)), .int 4]) (rest := [.int ((nI t) + 1)]) hC hI (qL_low l (zv >>> ((6 : Int32) &&& 31)) 4 (by decide)) (va_cwS 2 hts gL_tells_L_low rfl rfl rfl (by decide +kernel) ⟨Nat.le_of_ble_eq_true rfl, Nat.le_of_ble_eq_true rfl⟩) rfl hl.1 rfl (Nat.le_of_ble_eq_true rfl) dL_tells_849 ⟨Nat.le_of_ble_eq_true rfl, Nat.le_of_ble_eq_true rfl⟩ (fun H locs hI => ?_)
                      refine lv_iadd hx hb dL_tells_852 ?_
                      refine lv_iconst (v := 5) hx hb dL_tells_853 (by decide) ?_
                      refine lv_irem hx hb dL_tells_854 (by decide) ?_
                      refine lv_istore (lv' := [(17, .int ((((nI t) + 1) + (fL_low (zv >>> ((6 : Int32) &&& 31)) 4)) - (((nI t) + 1) + (fL_low (zv >>> ((6 : Int32) &&& 31)) 4)) / 5 * 5)), (16, .int (nI s_)), (15, .int (nI b)), (14, .int (nI t)), (13, .int (nI f)), (0, .ref x0), (1, .int act), (2, .int zv), (3, .ref (la 0)), (4, .ref (la 1)), (5, .ref (la 2)), (6, .ref (la 3)), (7, .ref (la 4)), (8, .ref (la 5)), (9, .ref (la 6)), (10, .ref (la 7)), (11, .ref (la 9)), (12, .ref (la 11))]) hx hb dL_tells_855 hl (by decide) rfl (fun ls hl => ?_)
                      refine lv_iconst (v := 1) hx hb dL_tells_857 (by decide) ?_
                      refine lv_iload_n hx hb dL_tells_858 rfl (lv_at hl 7 rfl) ?_
                      refine lv_bipush (v := 7) hx hb dL_tells_859 (by decide) ?_
                      refine lv_ishr hx hb dL_tells_861 ?_
                      refine lv_bipush (v := 40) hx hb dL_tells_862 (by decide) ?_
                      refine xr_callS (As := [.int (zv >>> ((7 : Int32) &&& 31)), .int 40]) (rest := [.int 1]) hC hI (qL_low l (zv >>> ((7 : Int32) &&& 31)) 40 (by decide)) (va_cwS 2 hts gL_tells_L_low rfl rfl rfl (by decide +kernel) ⟨Nat.le_of_ble_eq_true rfl, Nat.le_of_ble_eq_true rfl⟩) rfl hl.1 rfl (Nat.le_of_ble_eq_true rfl) dL_tells_864 ⟨Nat.le_of_ble_eq_true rfl, Nat.le_of_ble_eq_true rfl⟩ (fun H locs hI => ?_)
                      refine lv_iadd hx hb dL_tells_867 ?_
                      refine lv_istore (lv' := [(18, .int (1 + (fL_low (zv >>> ((7 : Int32) &&& 31)) 40))), (17, .int ((((nI t) + 1) + (fL_low (zv >>> ((6 : Int32) &&& 31)) 4)) - (((nI t) + 1) + (fL_low (zv >>> ((6 : Int32) &&& 31)) 4)) / 5 * 5)), (16, .int (nI s_)), (15, .int (nI b)), (14, .int (nI t)), (13, .int (nI f)), (0, .ref x0), (1, .int act), (2, .int zv), (3, .ref (la 0)), (4, .ref (la 1)), (5, .ref (la 2)), (6, .ref (la 3)), (7, .ref (la 4)), (8, .ref (la 5)), (9, .ref (la 6)), (10, .ref (la 7)), (11, .ref (la 9)), (12, .ref (la 11))]) hx hb dL_tells_868 hl (by decide) rfl (fun ls hl => ?_)
                      refine lv_iload hx hb dL_tells_870 (lv_at hl 0 rfl) ?_
                      refine lv_istore (lv' := [(19, .int (1 + (fL_low (zv >>> ((7 : Int32) &&& 31)) 40))), (18, .int (1 + (fL_low (zv >>> ((7 : Int32) &&& 31)) 40))), (17, .int ((((nI t) + 1) + (fL_low (zv >>> ((6 : Int32) &&& 31)) 4)) - (((nI t) + 1) + (fL_low (zv >>> ((6 : Int32) &&& 31)) 4)) / 5 * 5)), (16, .int (nI s_)), (15, .int (nI b)), (14, .int (nI t)), (13, .int (nI f)), (0, .ref x0), (1, .int act), (2, .int zv), (3, .ref (la 0)), (4, .ref (la 1)), (5, .ref (la 2)), (6, .ref (la 3)), (7, .ref (la 4)), (8, .ref (la 5)), (9, .ref (la 6)), (10, .ref (la 7)), (11, .ref (la 9)), (12, .ref (la 11))]) hx hb dL_tells_872 hl (by decide) rfl (fun ls hl => ?_)
                      refine lv_iconst (v := 0) hx hb dL_tells_874 (by decide) ?_
                      refine lv_istore (lv' := [(20, .int 0), (19, .int (1 + (fL_low (zv >>> ((7 : Int32) &&& 31)) 40))), (18, .int (1 + (fL_low (zv >>> ((7 : Int32) &&& 31)) 40))), (17, .int ((((nI t) + 1) + (fL_low (zv >>> ((6 : Int32) &&& 31)) 4)) - (((nI t) + 1) + (fL_low (zv >>> ((6 : Int32) &&& 31)) 4)) / 5 * 5)), (16, .int (nI s_)), (15, .int (nI b)), (14, .int (nI t)), (13, .int (nI f)), (0, .ref x0), (1, .int act), (2, .int zv), (3, .ref (la 0)), (4, .ref (la 1)), (5, .ref (la 2)), (6, .ref (la 3)), (7, .ref (la 4)), (8, .ref (la 5)), (9, .ref (la 6)), (10, .ref (la 7)), (11, .ref (la 9)), (12, .ref (la 11))]) hx hb dL_tells_875 hl (by decide) rfl (fun ls hl => ?_)
                      refine w_loop (σ := Int32) (q3 L) 877 (fun i877 z H locs ls => z = lL_tells_877 L zv t i877 ∧ XI A B D cy g n0 la s S L H locs ∧ lv_has ls 21 [(20, .int (nI i877)), (19, .int z), (18, .int (1 + (fL_low (zv >>> ((7 : Int32) &&& 31)) 40))), (17, .int ((((nI t) + 1) + (fL_low (zv >>> ((6 : Int32) &&& 31)) 4)) - (((nI t) + 1) + (fL_low (zv >>> ((6 : Int32) &&& 31)) 4)) / 5 * 5)), (16, .int (nI s_)), (15, .int (nI b)), (14, .int (nI t)), (13, .int (nI f)), (0, .ref x0), (1, .int act), (2, .int zv), (3, .ref (la 0)), (4, .ref (la 1)), (5, .ref (la 2)), (6, .ref (la 3)), (7, .ref (la 4)), (8, .ref (la 5)), (9, .ref (la 6)), (10, .ref (la 7)), (11, .ref (la 9)), (12, .ref (la 11))]) ?_ (1 + (fL_low (zv >>> ((7 : Int32) &&& 31)) 40)) ⟨rfl, hI, lv_sub hl [0, 1, 2, 3, 4, 5, 6, 7, 8, 9, 10, 11, 12, 13, 14, 15, 16, 17, 18, 19, 20] rfl⟩
                      intro i877 z H locs ls ⟨hz877, hI, hl⟩ hi877 ih877
                      obtain ⟨x877_19, rfl⟩ : ∃ x, x = z := ⟨_, rfl⟩
                      refine lv_iload hx hb dL_tells_877 (lv_at hl 0 rfl) ?_
                      refine lv_aload hx hb dL_tells_879 (lv_at hl 20 rfl) ?_
                      refine lv_iconst (v := 3) hx hb dL_tells_881 (by decide) ?_
                      refine xr_ld hC hI 11 (by decide) (nx_in (by decide : (3 : Int32) = nI 3) (by decide) (by decide)) (v := (L 11 3)) (congrArg (L 11) (by decide : ix 3 = 3)) dL_tells_882 ?_
                      refine lv_icmp_ge (tgt := 926) hx hb dL_tells_883 (by decide) (fun c_12 => ?_) (fun c_12 => ?_)
                      · obtain rfl : i877 = q3 L := w_exit hV.n3 hi877 (by have := hV.b3; omega) c_12
                        obtain rfl : x877_19 = (lL_tells_877 L zv t (q3 L)) := by rw [← hz877]
                        refine lv_iload hx hb dL_tells_926 (lv_at hl 1 rfl) ?_
                        refine lv_bipush (v := 100) hx hb dL_tells_928 (by decide) ?_
                        refine lv_icmp_gt (tgt := 946) hx hb dL_tells_930 (by decide) (fun c_16 => ?_) (fun c_16 => ?_)
                        · have hG := hG.trans (if_pos c_16)
                          refine lv_iconst (v := 0) hx hb dL_tells_946 (by decide) ?_
                          refine lv_istore (lv' := [(20, .int 0), (19, .int (lL_tells_877 L zv t (q3 L))), (18, .int (1 + (fL_low (zv >>> ((7 : Int32) &&& 31)) 40))), (17, .int ((((nI t) + 1) + (fL_low (zv >>> ((6 : Int32) &&& 31)) 4)) - (((nI t) + 1) + (fL_low (zv >>> ((6 : Int32) &&& 31)) 4)) / 5 * 5)), (16, .int (nI s_)), (15, .int (nI b)), (14, .int (nI t)), (13, .int (nI f)), (0, .ref x0), (1, .int act), (2, .int zv), (3, .ref (la 0)), (4, .ref (la 1)), (5, .ref (la 2)), (6, .ref (la 3)), (7, .ref (la 4)), (8, .ref (la 5)), (9, .ref (la 6)), (10, .ref (la 7)), (11, .ref (la 9)), (12, .ref (la 11))]) hx hb dL_tells_947 hl (by decide) rfl (fun ls hl => ?_)
                          refine lv_iload hx hb dL_tells_949 (lv_at hl 0 rfl) ?_
                          refine lv_if_eq (tgt := 992) hx hb dL_tells_951 (by decide) (fun _ => ?_) (fun c => absurd (by decide : (0 : Int32) = 0) c)
                          refine lv_aload_n hx hb dL_tells_992 rfl (lv_at hl 8 rfl) ?_
                          refine lv_iconst (v := 2) hx hb dL_tells_993 (by decide) ?_
                          refine lv_iload hx hb dL_tells_994 (lv_at hl 6 rfl) ?_
                          refine lv_iload hx hb dL_tells_996 (lv_at hl 3 rfl) ?_
                          refine lv_iload hx hb dL_tells_998 (lv_at hl 2 rfl) ?_
                          have hok : ((xq7 S 2 (nI t) ((((nI t) + 1) + (fL_low (zv >>> ((6 : Int32) &&& 31)) 4)) - (((nI t) + 1) + (fL_low (zv >>> ((6 : Int32) &&& 31)) 4)) / 5 * 5) (1 + (fL_low (zv >>> ((7 : Int32) &&& 31)) 40))).2.1 = 0 ∨ (xq7 S 2 (nI t) ((((nI t) + 1) + (fL_low (zv >>> ((6 : Int32) &&& 31)) 4)) - (((nI t) + 1) + (fL_low (zv >>> ((6 : Int32) &&& 31)) 4)) / 5 * 5) (1 + (fL_low (zv >>> ((7 : Int32) &&& 31)) 40))).2.1 = 3) ∧ (if (xq7 S 2 (nI t) ((((nI t) + 1) + (fL_low (zv >>> ((6 : Int32) &&& 31)) 4)) - (((nI t) + 1) + (fL_low (zv >>> ((6 : Int32) &&& 31)) 4)) / 5 * 5) (1 + (fL_low (zv >>> ((7 : Int32) &&& 31)) 40))).2.1 = 0 then (xq7 S 2 (nI t) ((((nI t) + 1) + (fL_low (zv >>> ((6 : Int32) &&& 31)) 4)) - (((nI t) + 1) + (fL_low (zv >>> ((6 : Int32) &&& 31)) 4)) / 5 * 5) (1 + (fL_low (zv >>> ((7 : Int32) &&& 31)) 40))).1 else -1003) = (-1003) := XOK.c (by have h9 := hOK; rw [hG] at h9; exact h9) (by decide)
                          refine xr_cs (As := [.ref x0, .int 2, .int (nI t), .int ((((nI t) + 1) + (fL_low (zv >>> ((6 : Int32) &&& 31)) 4)) - (((nI t) + 1) + (fL_low (zv >>> ((6 : Int32) &&& 31)) 4)) / 5 * 5), .int (1 + (fL_low (zv >>> ((7 : Int32) &&& 31)) 40))]) (rest := []) 2 (nI t) ((((nI t) + 1) + (fL_low (zv >>> ((6 : Int32) &&& 31)) 4)) - (((nI t) + 1) + (fL_low (zv >>> ((6 : Int32) &&& 31)) 4)) / 5 * 5) (1 + (fL_low (zv >>> ((7 : Int32) &&& 31)) 40)) hC hK hI (qC_deal l hC.2.1 A D cy g hK.1 S e0 mi n0 hK.2.2.2.1 hK.v hK.i x0 hK.2.2.2.2.2.2.2 (nI t) ((((nI t) + 1) + (fL_low (zv >>> ((6 : Int32) &&& 31)) 4)) - (((nI t) + 1) + (fL_low (zv >>> ((6 : Int32) &&& 31)) 4)) / 5 * 5) (1 + (fL_low (zv >>> ((7 : Int32) &&& 31)) 40)) hok.1) (vx_cwSW 5 hts gL_tells_L_calls rfl rfl rfl (by decide +kernel) ⟨Nat.le_of_ble_eq_true rfl, Nat.le_of_ble_eq_true rfl⟩) rfl hl.1 rfl (Nat.le_of_ble_eq_true rfl) dL_tells_1000 ⟨Nat.le_of_ble_eq_true rfl, Nat.le_of_ble_eq_true rfl⟩ (fun g H locs hK hI => ?_)
                          refine lv_iload hx hb dL_tells_1003 (lv_at hl 0 rfl) ?_
                          refine lv_if_eq (tgt := 1013) hx hb dL_tells_1005 (by decide) (fun _ => ?_) (fun c => absurd (by decide : (0 : Int32) = 0) c)
                          refine lv_sipush (v := (-1003)) hx hb dL_tells_1013 (by decide) ?_
                          refine lv_icmp_ne (tgt := 1023) hx hb dL_tells_1016 (by decide) (fun c9 => absurd hok.2 c9) (fun _ => ?_)
                          refine lv_iconst (v := 1) hx hb dL_tells_1019 (by decide) ?_
                          refine lv_goto (tgt := 1024) hx hb dL_tells_1020 (by decide) ?_
                          refine W.widen (k := 8) (n := 342) (Nat.le_of_ble_eq_true rfl) (Nat.le_of_ble_eq_true rfl) ?_
                          exact W.zret (v := 1) (ty := .boolean) hx hb hr rfl (fun t9 ht9 hW9 => ⟨⟨1, g, rfl, ⟨rfl, by rw [hG]; exact hK⟩, ⟨by rw [hG, ht9]; exact hI.1, by rw [hG, ht9]; exact hI.2.1⟩⟩, hI.2.2.1.F ht9⟩) hI.2.2.1.2.2 dL_tells_1024
                        · have hG := hG.trans (if_neg c_16)
                          refine lv_aload hx hb dL_tells_933 (lv_at hl 20 rfl) ?_
                          refine lv_iconst (v := 3) hx hb dL_tells_935 (by decide) ?_
                          refine xr_ld hC hI 11 (by decide) (nx_in (by decide : (3 : Int32) = nI 3) (by decide) (by decide)) (v := (L 11 3)) (congrArg (L 11) (by decide : ix 3 = 3)) dL_tells_936 ?_
                          refine lv_bipush (v := 20) hx hb dL_tells_937 (by decide) ?_
                          refine lv_icmp_ge (tgt := 946) hx hb dL_tells_939 (by decide) (fun c_17 => ?_) (fun c_17 => ?_)
                          · have hG := hG.trans (if_pos c_17)
                            refine lv_iconst (v := 0) hx hb dL_tells_946 (by decide) ?_
                            refine lv_istore (lv' := [(20, .int 0), (19, .int (lL_tells_877 L zv t (q3 L))), (18, .int (1 + (fL_low (zv >>> ((7 : Int32) &&& 31)) 40))), (17, .int ((((nI t) + 1) + (fL_low (zv >>> ((6 : Int32) &&& 31)) 4)) - (((nI t) + 1) + (fL_low (zv >>> ((6 : Int32) &&& 31)) 4)) / 5 * 5)), (16, .int (nI s_)), (15, .int (nI b)), (14, .int (nI t)), (13, .int (nI f)), (0, .ref x0), (1, .int act), (2, .int zv), (3, .ref (la 0)), (4, .ref (la 1)), (5, .ref (la 2)), (6, .ref (la 3)), (7, .ref (la 4)), (8, .ref (la 5)), (9, .ref (la 6)), (10, .ref (la 7)), (11, .ref (la 9)), (12, .ref (la 11))]) hx hb dL_tells_947 hl (by decide) rfl (fun ls hl => ?_)
                            refine lv_iload hx hb dL_tells_949 (lv_at hl 0 rfl) ?_
                            refine lv_if_eq (tgt := 992) hx hb dL_tells_951 (by decide) (fun _ => ?_) (fun c => absurd (by decide : (0 : Int32) = 0) c)
                            refine lv_aload_n hx hb dL_tells_992 rfl (lv_at hl 8 rfl) ?_
                            refine lv_iconst (v := 2) hx hb dL_tells_993 (by decide) ?_
                            refine lv_iload hx hb dL_tells_994 (lv_at hl 6 rfl) ?_
                            refine lv_iload hx hb dL_tells_996 (lv_at hl 3 rfl) ?_
                            refine lv_iload hx hb dL_tells_998 (lv_at hl 2 rfl) ?_
                            have hok : ((xq7 S 2 (nI t) ((((nI t) + 1) + (fL_low (zv >>> ((6 : Int32) &&& 31)) 4)) - (((nI t) + 1) + (fL_low (zv >>> ((6 : Int32) &&& 31)) 4)) / 5 * 5) (1 + (fL_low (zv >>> ((7 : Int32) &&& 31)) 40))).2.1 = 0 ∨ (xq7 S 2 (nI t) ((((nI t) + 1) + (fL_low (zv >>> ((6 : Int32) &&& 31)) 4)) - (((nI t) + 1) + (fL_low (zv >>> ((6 : Int32) &&& 31)) 4)) / 5 * 5) (1 + (fL_low (zv >>> ((7 : Int32) &&& 31)) 40))).2.1 = 3) ∧ (if (xq7 S 2 (nI t) ((((nI t) + 1) + (fL_low (zv >>> ((6 : Int32) &&& 31)) 4)) - (((nI t) + 1) + (fL_low (zv >>> ((6 : Int32) &&& 31)) 4)) / 5 * 5) (1 + (fL_low (zv >>> ((7 : Int32) &&& 31)) 40))).2.1 = 0 then (xq7 S 2 (nI t) ((((nI t) + 1) + (fL_low (zv >>> ((6 : Int32) &&& 31)) 4)) - (((nI t) + 1) + (fL_low (zv >>> ((6 : Int32) &&& 31)) 4)) / 5 * 5) (1 + (fL_low (zv >>> ((7 : Int32) &&& 31)) 40))).1 else -1003) = (-1003) := XOK.c (by have h9 := hOK; rw [hG] at h9; exact h9) (by decide)
                            refine xr_cs (As := [.ref x0, .int 2, .int (nI t), .int ((((nI t) + 1) + (fL_low (zv >>> ((6 : Int32) &&& 31)) 4)) - (((nI t) + 1) + (fL_low (zv >>> ((6 : Int32) &&& 31)) 4)) / 5 * 5), .int (1 + (fL_low (zv >>> ((7 : Int32) &&& 31)) 40))]) (rest := []) 2 (nI t) ((((nI t) + 1) + (fL_low (zv >>> ((6 : Int32) &&& 31)) 4)) - (((nI t) + 1) + (fL_low (zv >>> ((6 : Int32) &&& 31)) 4)) / 5 * 5) (1 + (fL_low (zv >>> ((7 : Int32) &&& 31)) 40)) hC hK hI (qC_deal l hC.2.1 A D cy g hK.1 S e0 mi n0 hK.2.2.2.1 hK.v hK.i x0 hK.2.2.2.2.2.2.2 (nI t) ((((nI t) + 1) + (fL_low (zv >>> ((6 : Int32) &&& 31)) 4)) - (((nI t) + 1) + (fL_low (zv >>> ((6 : Int32) &&& 31)) 4)) / 5 * 5) (1 + (fL_low (zv >>> ((7 : Int32) &&& 31)) 40)) hok.1) (vx_cwSW 5 hts gL_tells_L_calls rfl rfl rfl (by decide +kernel) ⟨Nat.le_of_ble_eq_true rfl, Nat.le_of_ble_eq_true rfl⟩) rfl hl.1 rfl (Nat.le_of_ble_eq_true rfl) dL_tells_1000 ⟨Nat.le_of_ble_eq_true rfl, Nat.le_of_ble_eq_true rfl⟩ (fun g H locs hK hI => ?_)
                            refine lv_iload hx hb dL_tells_1003 (lv_at hl 0 rfl) ?_
                            refine lv_if_eq (tgt := 1013) hx hb dL_tells_1005 (by decide) (fun _ => ?_) (fun c => absurd (by decide : (0 : Int32) = 0) c)
                            refine lv_sipush (v := (-1003)) hx hb dL_tells_1013 (by decide) ?_
                            refine lv_icmp_ne (tgt := 1023) hx hb dL_tells_1016 (by decide) (fun c9 => absurd hok.2 c9) (fun _ => ?_)
                            refine lv_iconst (v := 1) hx hb dL_tells_1019 (by decide) ?_
                            refine lv_goto (tgt := 1024) hx hb dL_tells_1020 (by decide) ?_
                            refine W.widen (k := 8) (n := 342) (Nat.le_of_ble_eq_true rfl) (Nat.le_of_ble_eq_true rfl) ?_
                            exact W.zret (v := 1) (ty := .boolean) hx hb hr rfl (fun t9 ht9 hW9 => ⟨⟨1, g, rfl, ⟨rfl, by rw [hG]; exact hK⟩, ⟨by rw [hG, ht9]; exact hI.1, by rw [hG, ht9]; exact hI.2.1⟩⟩, hI.2.2.1.F ht9⟩) hI.2.2.1.2.2 dL_tells_1024
                          · have hG := hG.trans (if_neg c_17)
                            refine lv_iconst (v := 1) hx hb dL_tells_942 (by decide) ?_
                            refine lv_goto (tgt := 947) hx hb dL_tells_943 (by decide) ?_
                            refine lv_istore (lv' := [(20, .int 1), (19, .int (lL_tells_877 L zv t (q3 L))), (18, .int (1 + (fL_low (zv >>> ((7 : Int32) &&& 31)) 40))), (17, .int ((((nI t) + 1) + (fL_low (zv >>> ((6 : Int32) &&& 31)) 4)) - (((nI t) + 1) + (fL_low (zv >>> ((6 : Int32) &&& 31)) 4)) / 5 * 5)), (16, .int (nI s_)), (15, .int (nI b)), (14, .int (nI t)), (13, .int (nI f)), (0, .ref x0), (1, .int act), (2, .int zv), (3, .ref (la 0)), (4, .ref (la 1)), (5, .ref (la 2)), (6, .ref (la 3)), (7, .ref (la 4)), (8, .ref (la 5)), (9, .ref (la 6)), (10, .ref (la 7)), (11, .ref (la 9)), (12, .ref (la 11))]) hx hb dL_tells_947 hl (by decide) rfl (fun ls hl => ?_)
                            refine lv_iload hx hb dL_tells_949 (lv_at hl 0 rfl) ?_
                            refine lv_if_eq (tgt := 992) hx hb dL_tells_951 (by decide) (fun c => absurd c (by decide : ¬ (1 : Int32) = 0)) (fun _ => ?_)
                            refine lv_aload hx hb dL_tells_954 (lv_at hl 16 rfl) ?_
                            refine lv_aload hx hb dL_tells_956 (lv_at hl 20 rfl) ?_
                            refine lv_iconst (v := 3) hx hb dL_tells_958 (by decide) ?_
                            refine xr_ld hC hI 11 (by decide) (nx_in (by decide : (3 : Int32) = nI 3) (by decide) (by decide)) (v := (L 11 3)) (congrArg (L 11) (by decide : ix 3 = 3)) dL_tells_959 ?_
                            refine lv_iload hx hb dL_tells_960 (lv_at hl 6 rfl) ?_
                            refine lv_bipush (v := 8) hx hb dL_tells_962 (by decide) ?_
                            refine lv_iload hx hb dL_tells_964 (lv_at hl 3 rfl) ?_
                            refine lv_imul hx hb dL_tells_966 ?_
                            refine lv_iadd hx hb dL_tells_967 ?_
                            refine lv_bipush (v := 64) hx hb dL_tells_968 (by decide) ?_
                            refine lv_iload hx hb dL_tells_970 (lv_at hl 2 rfl) ?_
                            refine lv_imul hx hb dL_tells_972 ?_
                            refine lv_iadd hx hb dL_tells_973 ?_
                            refine lv_sipush (v := 8192) hx hb dL_tells_974 (by decide) ?_
                            refine lv_aload hx hb dL_tells_977 (lv_at hl 20 rfl) ?_
                            refine lv_iconst (v := 0) hx hb dL_tells_979 (by decide) ?_
                            refine xr_ld hC hI 11 (by decide) (nx_in (by decide : (0 : Int32) = nI 0) (by decide) (by decide)) (v := (L 11 0)) (congrArg (L 11) (by decide : ix 0 = 0)) dL_tells_980 ?_
                            refine lv_imul hx hb dL_tells_981 ?_
                            refine lv_iadd hx hb dL_tells_982 ?_
                            refine xr_st hC hK hI 5 (by decide) (show vp_in (L 11 3) 20 from nx_in hV.n3 (by have h90 := lt_20 hV.n3 hV.b3 (by assumption); omega) (by decide)) (n := (q3 L)) (nx_ix (x := (L 11 3)) hV.n3 (by have h90 := lt_20 hV.n3 hV.b3 (by assumption); omega)) dL_tells_983 (fun H locs hI => ?_)
                            refine lv_aload hx hb dL_tells_984 (lv_at hl 20 rfl) ?_
                            refine lv_iconst (v := 3) hx hb dL_tells_986 (by decide) ?_
                            refine lv_dup2_11 hx hb dL_tells_987 rfl rfl ?_
                            refine xr_ld hC hI 11 (by decide) (nx_in (by decide : (3 : Int32) = nI 3) (by decide) (by decide)) (v := (L 11 3)) ((congrArg ((up L 5 (q3 L) ((((nI t) + (8 * ((((nI t) + 1) + (fL_low (zv >>> ((6 : Int32) &&& 31)) 4)) - (((nI t) + 1) + (fL_low (zv >>> ((6 : Int32) &&& 31)) 4)) / 5 * 5))) + (64 * (1 + (fL_low (zv >>> ((7 : Int32) &&& 31)) 40)))) + (8192 * (L 11 0)))) 11) (by decide : ix 3 = 3)).trans (congrFun (up_ne (by decide)) _)) dL_tells_988 ?_
                            refine lv_iconst (v := 1) hx hb dL_tells_989 (by decide) ?_
                            refine lv_iadd hx hb dL_tells_990 ?_
                            refine xr_st hC hK hI 11 (by decide) (nx_in (by decide : (3 : Int32) = nI 3) (by decide) (by decide)) (n := 3) (by decide : ix 3 = 3) dL_tells_991 (fun H locs hI => ?_)
                            refine lv_aload_n hx hb dL_tells_992 rfl (lv_at hl 8 rfl) ?_
                            refine lv_iconst (v := 2) hx hb dL_tells_993 (by decide) ?_
                            refine lv_iload hx hb dL_tells_994 (lv_at hl 6 rfl) ?_
                            refine lv_iload hx hb dL_tells_996 (lv_at hl 3 rfl) ?_
                            refine lv_iload hx hb dL_tells_998 (lv_at hl 2 rfl) ?_
                            have hok : ((xq7 S 2 (nI t) ((((nI t) + 1) + (fL_low (zv >>> ((6 : Int32) &&& 31)) 4)) - (((nI t) + 1) + (fL_low (zv >>> ((6 : Int32) &&& 31)) 4)) / 5 * 5) (1 + (fL_low (zv >>> ((7 : Int32) &&& 31)) 40))).2.1 = 0 ∨ (xq7 S 2 (nI t) ((((nI t) + 1) + (fL_low (zv >>> ((6 : Int32) &&& 31)) 4)) - (((nI t) + 1) + (fL_low (zv >>> ((6 : Int32) &&& 31)) 4)) / 5 * 5) (1 + (fL_low (zv >>> ((7 : Int32) &&& 31)) 40))).2.1 = 3) ∧ (if (xq7 S 2 (nI t) ((((nI t) + 1) + (fL_low (zv >>> ((6 : Int32) &&& 31)) 4)) - (((nI t) + 1) + (fL_low (zv >>> ((6 : Int32) &&& 31)) 4)) / 5 * 5) (1 + (fL_low (zv >>> ((7 : Int32) &&& 31)) 40))).2.1 = 0 then (xq7 S 2 (nI t) ((((nI t) + 1) + (fL_low (zv >>> ((6 : Int32) &&& 31)) 4)) - (((nI t) + 1) + (fL_low (zv >>> ((6 : Int32) &&& 31)) 4)) / 5 * 5) (1 + (fL_low (zv >>> ((7 : Int32) &&& 31)) 40))).1 else -1003) = (lL_tells_877 L zv t (q3 L)) := XOK.c (by have h9 := hOK; rw [hG] at h9; exact h9) (by decide)
                            refine xr_cs (As := [.ref x0, .int 2, .int (nI t), .int ((((nI t) + 1) + (fL_low (zv >>> ((6 : Int32) &&& 31)) 4)) - (((nI t) + 1) + (fL_low (zv >>> ((6 : Int32) &&& 31)) 4)) / 5 * 5), .int (1 + (fL_low (zv >>> ((7 : Int32) &&& 31)) 40))]) (rest := []) 2 (nI t) ((((nI t) + 1) + (fL_low (zv >>> ((6 : Int32) &&& 31)) 4)) - (((nI t) + 1) + (fL_low (zv >>> ((6 : Int32) &&& 31)) 4)) / 5 * 5) (1 + (fL_low (zv >>> ((7 : Int32) &&& 31)) 40)) hC hK hI (qC_deal l hC.2.1 A D cy g hK.1 S e0 mi n0 hK.2.2.2.1 hK.v hK.i x0 hK.2.2.2.2.2.2.2 (nI t) ((((nI t) + 1) + (fL_low (zv >>> ((6 : Int32) &&& 31)) 4)) - (((nI t) + 1) + (fL_low (zv >>> ((6 : Int32) &&& 31)) 4)) / 5 * 5) (1 + (fL_low (zv >>> ((7 : Int32) &&& 31)) 40)) hok.1) (vx_cwSW 5 hts gL_tells_L_calls rfl rfl rfl (by decide +kernel) ⟨Nat.le_of_ble_eq_true rfl, Nat.le_of_ble_eq_true rfl⟩) rfl hl.1 rfl (Nat.le_of_ble_eq_true rfl) dL_tells_1000 ⟨Nat.le_of_ble_eq_true rfl, Nat.le_of_ble_eq_true rfl⟩ (fun g H locs hK hI => ?_)
                            refine lv_iload hx hb dL_tells_1003 (lv_at hl 0 rfl) ?_
                            refine lv_if_eq (tgt := 1013) hx hb dL_tells_1005 (by decide) (fun c => absurd c (by decide : ¬ (1 : Int32) = 0)) (fun _ => ?_)
                            refine lv_iload hx hb dL_tells_1008 (lv_at hl 1 rfl) ?_
                            refine lv_goto (tgt := 1016) hx hb dL_tells_1010 (by decide) ?_
                            refine lv_icmp_ne (tgt := 1023) hx hb dL_tells_1016 (by decide) (fun c9 => absurd hok.2 c9) (fun _ => ?_)
                            refine lv_iconst (v := 1) hx hb dL_tells_1019 (by decide) ?_
                            refine lv_goto (tgt := 1024) hx hb dL_tells_1020 (by decide) ?_
                            refine W.widen (k := 8) (n := 342) (Nat.le_of_ble_eq_true rfl) (Nat.le_of_ble_eq_true rfl) ?_
                            exact W.zret (v := 1) (ty := .boolean) hx hb hr rfl (fun t9 ht9 hW9 => ⟨⟨1, g, rfl, ⟨rfl, by rw [hG]; exact hK⟩, ⟨by rw [hG, ht9]; exact hI.1, by rw [hG, ht9]; exact hI.2.1⟩⟩, hI.2.2.1.F ht9⟩) hI.2.2.1.2.2 dL_tells_1024
                      · have hlt877 : i877 < q3 L := w_in hV.n3 hi877 (by have := hV.b3; omega) c_12
                        have hB877 : iL_tells_877 L t i877 x877_19 = iL_tells_877 L t i877 x877_19 := rfl
                        refine lv_iload hx hb dL_tells_886 (lv_at hl 1 rfl) ?_
                        refine lv_aload hx hb dL_tells_888 (lv_at hl 16 rfl) ?_
                        refine lv_iload hx hb dL_tells_890 (lv_at hl 0 rfl) ?_
                        refine xr_ld hC hI 5 (by decide) (show vp_in (nI i877) 20 from nx_in rfl (by omega) (by decide)) (v := (L 5 i877)) (congrArg (L 5) (nx_ix (x := (nI i877)) rfl (by omega))) dL_tells_892 ?_
                        refine lv_bipush (v := 8) hx hb dL_tells_893 (by decide) ?_
                        refine lv_irem hx hb dL_tells_895 (by decide) ?_
                        refine lv_iload hx hb dL_tells_896 (lv_at hl 6 rfl) ?_
                        refine lv_icmp_ne (tgt := 916) hx hb dL_tells_898 (by decide) (fun c_15 => ?_) (fun c_15 => ?_)
                        · have hB877 := hB877.trans (if_neg c_15)
                          refine lv_iconst (v := 0) hx hb dL_tells_916 (by decide) ?_
                          refine lv_iadd hx hb dL_tells_917 ?_
                          refine lv_istore (lv' := [(19, .int (x877_19 + 0)), (20, .int (nI i877)), (18, .int (1 + (fL_low (zv >>> ((7 : Int32) &&& 31)) 40))), (17, .int ((((nI t) + 1) + (fL_low (zv >>> ((6 : Int32) &&& 31)) 4)) - (((nI t) + 1) + (fL_low (zv >>> ((6 : Int32) &&& 31)) 4)) / 5 * 5)), (16, .int (nI s_)), (15, .int (nI b)), (14, .int (nI t)), (13, .int (nI f)), (0, .ref x0), (1, .int act), (2, .int zv), (3, .ref (la 0)), (4, .ref (la 1)), (5, .ref (la 2)), (6, .ref (la 3)), (7, .ref (la 4)), (8, .ref (la 5)), (9, .ref (la 6)), (10, .ref (la 7)), (11, .ref (la 9)), (12, .ref (la 11))]) hx hb dL_tells_918 hl (by decide) rfl (fun ls hl => ?_)
                          refine lv_iinc (v := (nI (i877 + 1))) (lv' := [(20, .int (nI (i877 + 1))), (19, .int (x877_19 + 0)), (18, .int (1 + (fL_low (zv >>> ((7 : Int32) &&& 31)) 40))), (17, .int ((((nI t) + 1) + (fL_low (zv >>> ((6 : Int32) &&& 31)) 4)) - (((nI t) + 1) + (fL_low (zv >>> ((6 : Int32) &&& 31)) 4)) / 5 * 5)), (16, .int (nI s_)), (15, .int (nI b)), (14, .int (nI t)), (13, .int (nI f)), (0, .ref x0), (1, .int act), (2, .int zv), (3, .ref (la 0)), (4, .ref (la 1)), (5, .ref (la 2)), (6, .ref (la 3)), (7, .ref (la 4)), (8, .ref (la 5)), (9, .ref (la 6)), (10, .ref (la 7)), (11, .ref (la 9)), (12, .ref (la 11))]) hx hb dL_tells_920 hl (k := 1) rfl (nI_1 i877) (by decide) rfl (fun ls hl => ?_)
                          refine lv_goto (tgt := 877) hx hb dL_tells_923 (by decide) ?_
                          exact ih877 (x877_19 + 0) _ _ ls hlt877 ⟨(by show _ = iL_tells_877 L t i877 (lL_tells_877 L zv t i877); rw [← hz877]; exact hB877.symm), hI, lv_sub hl [0, 1, 2, 3, 4, 5, 6, 7, 8, 9, 10, 11, 12, 13, 14, 15, 16, 17, 18, 19, 20] rfl⟩
                        · have hB877 := hB877.trans (if_pos c_15)
                          refine lv_aload hx hb dL_tells_901 (lv_at hl 16 rfl) ?_
                          refine lv_iload hx hb dL_tells_903 (lv_at hl 0 rfl) ?_
                          refine xr_ld hC hI 5 (by decide) (show vp_in (nI i877) 20 from nx_in rfl (by omega) (by decide)) (v := (L 5 i877)) (congrArg (L 5) (nx_ix (x := (nI i877)) rfl (by omega))) dL_tells_905 ?_
                          refine lv_bipush (v := 64) hx hb dL_tells_906 (by decide) ?_
                          refine lv_idiv hx hb dL_tells_908 (by decide) ?_
                          refine lv_sipush (v := 128) hx hb dL_tells_909 (by decide) ?_
                          refine lv_irem hx hb dL_tells_912 (by decide) ?_
                          refine lv_goto (tgt := 917) hx hb dL_tells_913 (by decide) ?_
                          refine lv_iadd hx hb dL_tells_917 ?_
                          refine lv_istore (lv' := [(19, .int (x877_19 + (((L 5 i877) / 64) - ((L 5 i877) / 64) / 128 * 128))), (20, .int (nI i877)), (18, .int (1 + (fL_low (zv >>> ((7 : Int32) &&& 31)) 40))), (17, .int ((((nI t) + 1) + (fL_low (zv >>> ((6 : Int32) &&& 31)) 4)) - (((nI t) + 1) + (fL_low (zv >>> ((6 : Int32) &&& 31)) 4)) / 5 * 5)), (16, .int (nI s_)), (15, .int (nI b)), (14, .int (nI t)), (13, .int (nI f)), (0, .ref x0), (1, .int act), (2, .int zv), (3, .ref (la 0)), (4, .ref (la 1)), (5, .ref (la 2)), (6, .ref (la 3)), (7, .ref (la 4)), (8, .ref (la 5)), (9, .ref (la 6)), (10, .ref (la 7)), (11, .ref (la 9)), (12, .ref (la 11))]) hx hb dL_tells_918 hl (by decide) rfl (fun ls hl => ?_)
                          refine lv_iinc (v := (nI (i877 + 1))) (lv' := [(20, .int (nI (i877 + 1))), (19, .int (x877_19 + (((L 5 i877) / 64) - ((L 5 i877) / 64) / 128 * 128))), (18, .int (1 + (fL_low (zv >>> ((7 : Int32) &&& 31)) 40))), (17, .int ((((nI t) + 1) + (fL_low (zv >>> ((6 : Int32) &&& 31)) 4)) - (((nI t) + 1) + (fL_low (zv >>> ((6 : Int32) &&& 31)) 4)) / 5 * 5)), (16, .int (nI s_)), (15, .int (nI b)), (14, .int (nI t)), (13, .int (nI f)), (0, .ref x0), (1, .int act), (2, .int zv), (3, .ref (la 0)), (4, .ref (la 1)), (5, .ref (la 2)), (6, .ref (la 3)), (7, .ref (la 4)), (8, .ref (la 5)), (9, .ref (la 6)), (10, .ref (la 7)), (11, .ref (la 9)), (12, .ref (la 11))]) hx hb dL_tells_920 hl (k := 1) rfl (nI_1 i877) (by decide) rfl (fun ls hl => ?_)
                          refine lv_goto (tgt := 877) hx hb dL_tells_923 (by decide) ?_
                          exact ih877 (x877_19 + (((L 5 i877) / 64) - ((L 5 i877) / 64) / 128 * 128)) _ _ ls hlt877 ⟨(by show _ = iL_tells_877 L t i877 (lL_tells_877 L zv t i877); rw [← hz877]; exact hB877.symm), hI, lv_sub hl [0, 1, 2, 3, 4, 5, 6, 7, 8, 9, 10, 11, 12, 13, 14, 15, 16, 17, 18, 19, 20] rfl⟩
                    · have hG := hG.trans (if_pos c_11)
                      refine lv_iconst (v := 1) hx hb dL_tells_697 (by decide) ?_
                      refine lv_istore (lv' := [(17, .int 1), (16, .int (nI s_)), (15, .int (nI b)), (14, .int (nI t)), (13, .int (nI f)), (0, .ref x0), (1, .int act), (2, .int zv), (3, .ref (la 0)), (4, .ref (la 1)), (5, .ref (la 2)), (6, .ref (la 3)), (7, .ref (la 4)), (8, .ref (la 5)), (9, .ref (la 6)), (10, .ref (la 7)), (11, .ref (la 9)), (12, .ref (la 11))]) hx hb dL_tells_698 hl (by decide) rfl (fun ls hl => ?_)
                      refine lv_iconst (v := 0) hx hb dL_tells_700 (by decide) ?_
                      refine lv_istore (lv' := [(18, .int 0), (17, .int 1), (16, .int (nI s_)), (15, .int (nI b)), (14, .int (nI t)), (13, .int (nI f)), (0, .ref x0), (1, .int act), (2, .int zv), (3, .ref (la 0)), (4, .ref (la 1)), (5, .ref (la 2)), (6, .ref (la 3)), (7, .ref (la 4)), (8, .ref (la 5)), (9, .ref (la 6)), (10, .ref (la 7)), (11, .ref (la 9)), (12, .ref (la 11))]) hx hb dL_tells_701 hl (by decide) rfl (fun ls hl => ?_)
                      refine w_loop (σ := Int32) (q4 L) 703 (fun i703 z H locs ls => z = lL_tells_703 L s_ i703 ∧ XI A B D cy g n0 la s S L H locs ∧ lv_has ls 21 [(18, .int (nI i703)), (17, .int z), (16, .int (nI s_)), (15, .int (nI b)), (14, .int (nI t)), (13, .int (nI f)), (0, .ref x0), (1, .int act), (2, .int zv), (3, .ref (la 0)), (4, .ref (la 1)), (5, .ref (la 2)), (6, .ref (la 3)), (7, .ref (la 4)), (8, .ref (la 5)), (9, .ref (la 6)), (10, .ref (la 7)), (11, .ref (la 9)), (12, .ref (la 11))]) ?_ 1 ⟨rfl, hI, lv_sub hl [0, 1, 2, 3, 4, 5, 6, 7, 8, 9, 10, 11, 12, 13, 14, 15, 16, 17, 18] rfl⟩
                      intro i703 z H locs ls ⟨hz703, hI, hl⟩ hi703 ih703
                      obtain ⟨x703_17, rfl⟩ : ∃ x, x = z := ⟨_, rfl⟩
                      refine lv_iload hx hb dL_tells_703 (lv_at hl 0 rfl) ?_
                      refine lv_aload hx hb dL_tells_705 (lv_at hl 18 rfl) ?_
                      refine lv_iconst (v := 4) hx hb dL_tells_707 (by decide) ?_
                      refine xr_ld hC hI 11 (by decide) (nx_in (by decide : (4 : Int32) = nI 4) (by decide) (by decide)) (v := (L 11 4)) (congrArg (L 11) (by decide : ix 4 = 4)) dL_tells_708 ?_
                      refine lv_icmp_ge (tgt := 776) hx hb dL_tells_709 (by decide) (fun c_18 => ?_) (fun c_18 => ?_)
                      · obtain rfl : i703 = q4 L := w_exit hV.n4 hi703 (by have := hV.b4; omega) c_18
                        obtain rfl : x703_17 = (lL_tells_703 L s_ (q4 L)) := by rw [← hz703]
                        refine lv_aload_n hx hb dL_tells_776 rfl (lv_at hl 9 rfl) ?_
                        refine lv_bipush (v := 8) hx hb dL_tells_777 (by decide) ?_
                        refine lv_iload hx hb dL_tells_779 (lv_at hl 2 rfl) ?_
                        refine lv_imul hx hb dL_tells_781 ?_
                        refine lv_bipush (v := 6) hx hb dL_tells_782 (by decide) ?_
                        refine lv_iadd hx hb dL_tells_784 ?_
                        refine xr_ld hC hI 0 (by decide) (show vp_in ((8 * (nI s_)) + 6) 64 from nx_in (nx_add (nx_mul (by decide : (8 : Int32) = nI 8) rfl) (by decide : (6 : Int32) = nI 6)) (by omega) (by decide)) (v := (L 0 (8 * s_ + 6))) (congrArg (L 0) (nx_ix (x := ((8 * (nI s_)) + 6)) (nx_add (nx_mul (by decide : (8 : Int32) = nI 8) rfl) (by decide : (6 : Int32) = nI 6)) (by omega))) dL_tells_785 ?_
                        refine lv_istore (lv' := [(18, .int (L 0 (8 * s_ + 6))), (17, .int (lL_tells_703 L s_ (q4 L))), (16, .int (nI s_)), (15, .int (nI b)), (14, .int (nI t)), (13, .int (nI f)), (0, .ref x0), (1, .int act), (2, .int zv), (3, .ref (la 0)), (4, .ref (la 1)), (5, .ref (la 2)), (6, .ref (la 3)), (7, .ref (la 4)), (8, .ref (la 5)), (9, .ref (la 6)), (10, .ref (la 7)), (11, .ref (la 9)), (12, .ref (la 11))]) hx hb dL_tells_786 hl (by decide) rfl (fun ls hl => ?_)
                        refine lv_aload_n hx hb dL_tells_788 rfl (lv_at hl 9 rfl) ?_
                        refine lv_bipush (v := 8) hx hb dL_tells_789 (by decide) ?_
                        refine lv_iload hx hb dL_tells_791 (lv_at hl 2 rfl) ?_
                        refine lv_imul hx hb dL_tells_793 ?_
                        refine lv_bipush (v := 6) hx hb dL_tells_794 (by decide) ?_
                        refine lv_iadd hx hb dL_tells_796 ?_
                        refine lv_iload hx hb dL_tells_797 (lv_at hl 1 rfl) ?_
                        refine lv_if_eq (tgt := 806) hx hb dL_tells_799 (by decide) (fun c_24 => ?_) (fun c_24 => ?_)
                        · have hG := hG.trans (if_pos c_24)
                          refine lv_iload hx hb dL_tells_806 (lv_at hl 0 rfl) ?_
                          refine xr_st hC hK hI 0 (by decide) (show vp_in ((8 * (nI s_)) + 6) 64 from nx_in (nx_add (nx_mul (by decide : (8 : Int32) = nI 8) rfl) (by decide : (6 : Int32) = nI 6)) (by omega) (by decide)) (n := (8 * s_ + 6)) (nx_ix (x := ((8 * (nI s_)) + 6)) (nx_add (nx_mul (by decide : (8 : Int32) = nI 8) rfl) (by decide : (6 : Int32) = nI 6)) (by omega)) dL_tells_808 (fun H locs hI => ?_)
                          refine lv_aload_n hx hb dL_tells_809 rfl (lv_at hl 6 rfl) ?_
                          refine lv_iconst (v := 1) hx hb dL_tells_810 (by decide) ?_
                          refine lv_iload hx hb dL_tells_811 (lv_at hl 2 rfl) ?_
                          refine lv_iconst (v := 0) hx hb dL_tells_813 (by decide) ?_
                          refine lv_iconst (v := 0) hx hb dL_tells_814 (by decide) ?_
                          have hok : ((xq7 S 1 (nI s_) 0 0).2.1 = 0 ∨ (xq7 S 1 (nI s_) 0 0).2.1 = 3) ∧ (if (xq7 S 1 (nI s_) 0 0).2.1 = 0 then (xq7 S 1 (nI s_) 0 0).1 else -1003) = (-1003) := XOK.c (by have h9 := hOK; rw [hG] at h9; exact h9) (by decide)
                          refine xr_cs (As := [.ref x0, .int 1, .int (nI s_), .int 0, .int 0]) (rest := []) 1 (nI s_) 0 0 hC hK hI (qC_admit l hC.2.1 A D cy g hK.1 S e0 mi n0 hK.2.2.2.1 hK.v hK.i x0 hK.2.2.2.2.2.2.2 (nI s_) 0 0 hok.1) (vx_cwSW 5 hts gL_tells_L_calls rfl rfl rfl (by decide +kernel) ⟨Nat.le_of_ble_eq_true rfl, Nat.le_of_ble_eq_true rfl⟩) rfl hl.1 rfl (Nat.le_of_ble_eq_true rfl) dL_tells_815 ⟨Nat.le_of_ble_eq_true rfl, Nat.le_of_ble_eq_true rfl⟩ (fun g H locs hK hI => ?_)
                          refine lv_iload hx hb dL_tells_818 (lv_at hl 1 rfl) ?_
                          refine lv_if_eq (tgt := 828) hx hb dL_tells_820 (by decide) (fun _ => ?_) (fun c => absurd c_24 c)
                          refine lv_sipush (v := (-1003)) hx hb dL_tells_828 (by decide) ?_
                          refine lv_icmp_ne (tgt := 838) hx hb dL_tells_831 (by decide) (fun c9 => absurd hok.2 c9) (fun _ => ?_)
                          refine lv_iconst (v := 1) hx hb dL_tells_834 (by decide) ?_
                          refine lv_goto (tgt := 839) hx hb dL_tells_835 (by decide) ?_
                          refine W.widen (k := 8) (n := 342) (Nat.le_of_ble_eq_true rfl) (Nat.le_of_ble_eq_true rfl) ?_
                          exact W.zret (v := 1) (ty := .boolean) hx hb hr rfl (fun t9 ht9 hW9 => ⟨⟨1, g, rfl, ⟨rfl, by rw [hG]; exact hK⟩, ⟨by rw [hG, ht9]; exact hI.1, by rw [hG, ht9]; exact hI.2.1⟩⟩, hI.2.2.1.F ht9⟩) hI.2.2.1.2.2 dL_tells_839
                        · have hG := hG.trans (if_neg c_24)
                          refine lv_iconst (v := 1) hx hb dL_tells_802 (by decide) ?_
                          refine lv_goto (tgt := 808) hx hb dL_tells_803 (by decide) ?_
                          refine xr_st hC hK hI 0 (by decide) (show vp_in ((8 * (nI s_)) + 6) 64 from nx_in (nx_add (nx_mul (by decide : (8 : Int32) = nI 8) rfl) (by decide : (6 : Int32) = nI 6)) (by omega) (by decide)) (n := (8 * s_ + 6)) (nx_ix (x := ((8 * (nI s_)) + 6)) (nx_add (nx_mul (by decide : (8 : Int32) = nI 8) rfl) (by decide : (6 : Int32) = nI 6)) (by omega)) dL_tells_808 (fun H locs hI => ?_)
                          refine lv_aload_n hx hb dL_tells_809 rfl (lv_at hl 6 rfl) ?_
                          refine lv_iconst (v := 1) hx hb dL_tells_810 (by decide) ?_
                          refine lv_iload hx hb dL_tells_811 (lv_at hl 2 rfl) ?_
                          refine lv_iconst (v := 0) hx hb dL_tells_813 (by decide) ?_
                          refine lv_iconst (v := 0) hx hb dL_tells_814 (by decide) ?_
                          have hok : ((xq7 S 1 (nI s_) 0 0).2.1 = 0 ∨ (xq7 S 1 (nI s_) 0 0).2.1 = 3) ∧ (if (xq7 S 1 (nI s_) 0 0).2.1 = 0 then (xq7 S 1 (nI s_) 0 0).1 else -1003) = (L 0 (8 * s_ + 6)) := XOK.c (by have h9 := hOK; rw [hG] at h9; exact h9) (by decide)
                          refine xr_cs (As := [.ref x0, .int 1, .int (nI s_), .int 0, .int 0]) (rest := []) 1 (nI s_) 0 0 hC hK hI (qC_admit l hC.2.1 A D cy g hK.1 S e0 mi n0 hK.2.2.2.1 hK.v hK.i x0 hK.2.2.2.2.2.2.2 (nI s_) 0 0 hok.1) (vx_cwSW 5 hts gL_tells_L_calls rfl rfl rfl (by decide +kernel) ⟨Nat.le_of_ble_eq_true rfl, Nat.le_of_ble_eq_true rfl⟩) rfl hl.1 rfl (Nat.le_of_ble_eq_true rfl) dL_tells_815 ⟨Nat.le_of_ble_eq_true rfl, Nat.le_of_ble_eq_true rfl⟩ (fun g H locs hK hI => ?_)
                          refine lv_iload hx hb dL_tells_818 (lv_at hl 1 rfl) ?_
                          refine lv_if_eq (tgt := 828) hx hb dL_tells_820 (by decide) (fun c => absurd c c_24) (fun _ => ?_)
                          refine lv_iload hx hb dL_tells_823 (lv_at hl 0 rfl) ?_
                          refine lv_goto (tgt := 831) hx hb dL_tells_825 (by decide) ?_
                          refine lv_icmp_ne (tgt := 838) hx hb dL_tells_831 (by decide) (fun c9 => absurd hok.2 c9) (fun _ => ?_)
                          refine lv_iconst (v := 1) hx hb dL_tells_834 (by decide) ?_
                          refine lv_goto (tgt := 839) hx hb dL_tells_835 (by decide) ?_
                          refine W.widen (k := 8) (n := 342) (Nat.le_of_ble_eq_true rfl) (Nat.le_of_ble_eq_true rfl) ?_
                          exact W.zret (v := 1) (ty := .boolean) hx hb hr rfl (fun t9 ht9 hW9 => ⟨⟨1, g, rfl, ⟨rfl, by rw [hG]; exact hK⟩, ⟨by rw [hG, ht9]; exact hI.1, by rw [hG, ht9]; exact hI.2.1⟩⟩, hI.2.2.1.F ht9⟩) hI.2.2.1.2.2 dL_tells_839
                      · have hlt703 : i703 < q4 L := w_in hV.n4 hi703 (by have := hV.b4; omega) c_18
                        have hB703 : iL_tells_703 L s_ i703 x703_17 = iL_tells_703 L s_ i703 x703_17 := rfl
                        refine lv_iload hx hb dL_tells_712 (lv_at hl 1 rfl) ?_
                        refine lv_if_eq (tgt := 767) hx hb dL_tells_714 (by decide) (fun c_20 => ?_) (fun c_20 => ?_)
                        · have hB703 := hB703.trans (if_pos c_20)
                          refine lv_iconst (v := 0) hx hb dL_tells_767 (by decide) ?_
                          refine lv_istore (lv' := [(17, .int 0), (18, .int (nI i703)), (16, .int (nI s_)), (15, .int (nI b)), (14, .int (nI t)), (13, .int (nI f)), (0, .ref x0), (1, .int act), (2, .int zv), (3, .ref (la 0)), (4, .ref (la 1)), (5, .ref (la 2)), (6, .ref (la 3)), (7, .ref (la 4)), (8, .ref (la 5)), (9, .ref (la 6)), (10, .ref (la 7)), (11, .ref (la 9)), (12, .ref (la 11))]) hx hb dL_tells_768 hl (by decide) rfl (fun ls hl => ?_)
                          refine lv_iinc (v := (nI (i703 + 1))) (lv' := [(18, .int (nI (i703 + 1))), (17, .int 0), (16, .int (nI s_)), (15, .int (nI b)), (14, .int (nI t)), (13, .int (nI f)), (0, .ref x0), (1, .int act), (2, .int zv), (3, .ref (la 0)), (4, .ref (la 1)), (5, .ref (la 2)), (6, .ref (la 3)), (7, .ref (la 4)), (8, .ref (la 5)), (9, .ref (la 6)), (10, .ref (la 7)), (11, .ref (la 9)), (12, .ref (la 11))]) hx hb dL_tells_770 hl (k := 1) rfl (nI_1 i703) (by decide) rfl (fun ls hl => ?_)
                          refine lv_goto (tgt := 703) hx hb dL_tells_773 (by decide) ?_
                          exact ih703 0 _ _ ls hlt703 ⟨(by show _ = iL_tells_703 L s_ i703 (lL_tells_703 L s_ i703); rw [← hz703]; exact hB703.symm), hI, lv_sub hl [0, 1, 2, 3, 4, 5, 6, 7, 8, 9, 10, 11, 12, 13, 14, 15, 16, 17, 18] rfl⟩
                        · have hB703 := hB703.trans (if_neg c_20)
                          refine lv_aload hx hb dL_tells_717 (lv_at hl 15 rfl) ?_
                          refine lv_bipush (v := 8) hx hb dL_tells_719 (by decide) ?_
                          refine lv_iload hx hb dL_tells_721 (lv_at hl 0 rfl) ?_
                          refine lv_imul hx hb dL_tells_723 ?_
                          refine lv_iconst (v := 3) hx hb dL_tells_724 (by decide) ?_
                          refine lv_iadd hx hb dL_tells_725 ?_
                          refine xr_ld hC hI 6 (by decide) (show vp_in ((8 * (nI i703)) + 3) 64 from nx_in (nx_add (nx_mul (by decide : (8 : Int32) = nI 8) rfl) (by decide : (3 : Int32) = nI 3)) (by omega) (by decide)) (v := (L 6 (8 * i703 + 3))) (congrArg (L 6) (nx_ix (x := ((8 * (nI i703)) + 3)) (nx_add (nx_mul (by decide : (8 : Int32) = nI 8) rfl) (by decide : (3 : Int32) = nI 3)) (by omega))) dL_tells_726 ?_
                          refine lv_iconst (v := 3) hx hb dL_tells_727 (by decide) ?_
                          refine lv_icmp_eq (tgt := 763) hx hb dL_tells_728 (by decide) (fun c_21 => ?_) (fun c_21 => ?_)
                          · have hB703 := hB703.trans (if_pos c_21)
                            refine lv_iconst (v := 1) hx hb dL_tells_763 (by decide) ?_
                            refine lv_goto (tgt := 768) hx hb dL_tells_764 (by decide) ?_
                            refine lv_istore (lv' := [(17, .int 1), (18, .int (nI i703)), (16, .int (nI s_)), (15, .int (nI b)), (14, .int (nI t)), (13, .int (nI f)), (0, .ref x0), (1, .int act), (2, .int zv), (3, .ref (la 0)), (4, .ref (la 1)), (5, .ref (la 2)), (6, .ref (la 3)), (7, .ref (la 4)), (8, .ref (la 5)), (9, .ref (la 6)), (10, .ref (la 7)), (11, .ref (la 9)), (12, .ref (la 11))]) hx hb dL_tells_768 hl (by decide) rfl (fun ls hl => ?_)
                            refine lv_iinc (v := (nI (i703 + 1))) (lv' := [(18, .int (nI (i703 + 1))), (17, .int 1), (16, .int (nI s_)), (15, .int (nI b)), (14, .int (nI t)), (13, .int (nI f)), (0, .ref x0), (1, .int act), (2, .int zv), (3, .ref (la 0)), (4, .ref (la 1)), (5, .ref (la 2)), (6, .ref (la 3)), (7, .ref (la 4)), (8, .ref (la 5)), (9, .ref (la 6)), (10, .ref (la 7)), (11, .ref (la 9)), (12, .ref (la 11))]) hx hb dL_tells_770 hl (k := 1) rfl (nI_1 i703) (by decide) rfl (fun ls hl => ?_)
                            refine lv_goto (tgt := 703) hx hb dL_tells_773 (by decide) ?_
                            exact ih703 1 _ _ ls hlt703 ⟨(by show _ = iL_tells_703 L s_ i703 (lL_tells_703 L s_ i703); rw [← hz703]; exact hB703.symm), hI, lv_sub hl [0, 1, 2, 3, 4, 5, 6, 7, 8, 9, 10, 11, 12, 13, 14, 15, 16, 17, 18] rfl⟩
                          · have hB703 := hB703.trans (if_neg c_21)
                            refine lv_aload hx hb dL_tells_731 (lv_at hl 15 rfl) ?_
                            refine lv_bipush (v := 8) hx hb dL_tells_733 (by decide) ?_
                            refine lv_iload hx hb dL_tells_735 (lv_at hl 0 rfl) ?_
                            refine lv_imul hx hb dL_tells_737 ?_
                            refine lv_iconst (v := 4) hx hb dL_tells_738 (by decide) ?_
                            refine lv_iadd hx hb dL_tells_739 ?_
                            refine xr_ld hC hI 6 (by decide) (show vp_in ((8 * (nI i703)) + 4) 64 from nx_in (nx_add (nx_mul (by decide : (8 : Int32) = nI 8) rfl) (by decide : (4 : Int32) = nI 4)) (by omega) (by decide)) (v := (L 6 (8 * i703 + 4))) (congrArg (L 6) (nx_ix (x := ((8 * (nI i703)) + 4)) (nx_add (nx_mul (by decide : (8 : Int32) = nI 8) rfl) (by decide : (4 : Int32) = nI 4)) (by omega))) dL_tells_740 ?_
                            refine lv_aload hx hb dL_tells_741 (lv_at hl 18 rfl) ?_
                            refine lv_iconst (v := 0) hx hb dL_tells_743 (by decide) ?_
                            refine xr_ld hC hI 11 (by decide) (nx_in (by decide : (0 : Int32) = nI 0) (by decide) (by decide)) (v := (L 11 0)) (congrArg (L 11) (by decide : ix 0 = 0)) dL_tells_744 ?_
                            refine lv_icmp_gt (tgt := 763) hx hb dL_tells_745 (by decide) (fun c_22 => ?_) (fun c_22 => ?_)
                            · have hB703 := hB703.trans (if_pos c_22)
                              refine lv_iconst (v := 1) hx hb dL_tells_763 (by decide) ?_
                              refine lv_goto (tgt := 768) hx hb dL_tells_764 (by decide) ?_
                              refine lv_istore (lv' := [(17, .int 1), (18, .int (nI i703)), (16, .int (nI s_)), (15, .int (nI b)), (14, .int (nI t)), (13, .int (nI f)), (0, .ref x0), (1, .int act), (2, .int zv), (3, .ref (la 0)), (4, .ref (la 1)), (5, .ref (la 2)), (6, .ref (la 3)), (7, .ref (la 4)), (8, .ref (la 5)), (9, .ref (la 6)), (10, .ref (la 7)), (11, .ref (la 9)), (12, .ref (la 11))]) hx hb dL_tells_768 hl (by decide) rfl (fun ls hl => ?_)
                              refine lv_iinc (v := (nI (i703 + 1))) (lv' := [(18, .int (nI (i703 + 1))), (17, .int 1), (16, .int (nI s_)), (15, .int (nI b)), (14, .int (nI t)), (13, .int (nI f)), (0, .ref x0), (1, .int act), (2, .int zv), (3, .ref (la 0)), (4, .ref (la 1)), (5, .ref (la 2)), (6, .ref (la 3)), (7, .ref (la 4)), (8, .ref (la 5)), (9, .ref (la 6)), (10, .ref (la 7)), (11, .ref (la 9)), (12, .ref (la 11))]) hx hb dL_tells_770 hl (k := 1) rfl (nI_1 i703) (by decide) rfl (fun ls hl => ?_)
                              refine lv_goto (tgt := 703) hx hb dL_tells_773 (by decide) ?_
                              exact ih703 1 _ _ ls hlt703 ⟨(by show _ = iL_tells_703 L s_ i703 (lL_tells_703 L s_ i703); rw [← hz703]; exact hB703.symm), hI, lv_sub hl [0, 1, 2, 3, 4, 5, 6, 7, 8, 9, 10, 11, 12, 13, 14, 15, 16, 17, 18] rfl⟩
                            · have hB703 := hB703.trans (if_neg c_22)
                              refine lv_iload hx hb dL_tells_748 (lv_at hl 0 rfl) ?_
                              refine lv_iload hx hb dL_tells_750 (lv_at hl 2 rfl) ?_
                              refine lv_aload_n hx hb dL_tells_752 rfl (lv_at hl 9 rfl) ?_
                              refine lv_aload hx hb dL_tells_753 (lv_at hl 15 rfl) ?_
                              refine lv_aload hx hb dL_tells_755 (lv_at hl 16 rfl) ?_
                              refine xr_call (As := [.int (nI i703), .int (nI s_), .ref (la 0), .ref (la 6), .ref (la 7)]) (rest := []) hC hI (qL_day l D cy la L hV i703 (by omega) rfl s_ (by omega) rfl) (va_cwS 5 hts gL_tells_L_day rfl rfl rfl (by decide +kernel) ⟨Nat.le_of_ble_eq_true rfl, Nat.le_of_ble_eq_true rfl⟩) rfl hl.1 rfl (Nat.le_of_ble_eq_true rfl) dL_tells_757 ⟨Nat.le_of_ble_eq_true rfl, Nat.le_of_ble_eq_true rfl⟩ (fun H locs hI => ?_)
                              refine lv_if_ge (tgt := 767) hx hb dL_tells_760 (by decide) (fun c_23 => ?_) (fun c_23 => ?_)
                              · have hB703 := hB703.trans (if_pos c_23)
                                refine lv_iconst (v := 0) hx hb dL_tells_767 (by decide) ?_
                                refine lv_istore (lv' := [(17, .int 0), (18, .int (nI i703)), (16, .int (nI s_)), (15, .int (nI b)), (14, .int (nI t)), (13, .int (nI f)), (0, .ref x0), (1, .int act), (2, .int zv), (3, .ref (la 0)), (4, .ref (la 1)), (5, .ref (la 2)), (6, .ref (la 3)), (7, .ref (la 4)), (8, .ref (la 5)), (9, .ref (la 6)), (10, .ref (la 7)), (11, .ref (la 9)), (12, .ref (la 11))]) hx hb dL_tells_768 hl (by decide) rfl (fun ls hl => ?_)
                                refine lv_iinc (v := (nI (i703 + 1))) (lv' := [(18, .int (nI (i703 + 1))), (17, .int 0), (16, .int (nI s_)), (15, .int (nI b)), (14, .int (nI t)), (13, .int (nI f)), (0, .ref x0), (1, .int act), (2, .int zv), (3, .ref (la 0)), (4, .ref (la 1)), (5, .ref (la 2)), (6, .ref (la 3)), (7, .ref (la 4)), (8, .ref (la 5)), (9, .ref (la 6)), (10, .ref (la 7)), (11, .ref (la 9)), (12, .ref (la 11))]) hx hb dL_tells_770 hl (k := 1) rfl (nI_1 i703) (by decide) rfl (fun ls hl => ?_)
                                refine lv_goto (tgt := 703) hx hb dL_tells_773 (by decide) ?_
                                exact ih703 0 _ _ ls hlt703 ⟨(by show _ = iL_tells_703 L s_ i703 (lL_tells_703 L s_ i703); rw [← hz703]; exact hB703.symm), hI, lv_sub hl [0, 1, 2, 3, 4, 5, 6, 7, 8, 9, 10, 11, 12, 13, 14, 15, 16, 17, 18] rfl⟩
                              · have hB703 := hB703.trans (if_neg c_23)
                                refine lv_iconst (v := 1) hx hb dL_tells_763 (by decide) ?_
                                refine lv_goto (tgt := 768) hx hb dL_tells_764 (by decide) ?_
                                refine lv_istore (lv' := [(17, .int 1), (18, .int (nI i703)), (16, .int (nI s_)), (15, .int (nI b)), (14, .int (nI t)), (13, .int (nI f)), (0, .ref x0), (1, .int act), (2, .int zv), (3, .ref (la 0)), (4, .ref (la 1)), (5, .ref (la 2)), (6, .ref (la 3)), (7, .ref (la 4)), (8, .ref (la 5)), (9, .ref (la 6)), (10, .ref (la 7)), (11, .ref (la 9)), (12, .ref (la 11))]) hx hb dL_tells_768 hl (by decide) rfl (fun ls hl => ?_)
                                refine lv_iinc (v := (nI (i703 + 1))) (lv' := [(18, .int (nI (i703 + 1))), (17, .int 1), (16, .int (nI s_)), (15, .int (nI b)), (14, .int (nI t)), (13, .int (nI f)), (0, .ref x0), (1, .int act), (2, .int zv), (3, .ref (la 0)), (4, .ref (la 1)), (5, .ref (la 2)), (6, .ref (la 3)), (7, .ref (la 4)), (8, .ref (la 5)), (9, .ref (la 6)), (10, .ref (la 7)), (11, .ref (la 9)), (12, .ref (la 11))]) hx hb dL_tells_770 hl (k := 1) rfl (nI_1 i703) (by decide) rfl (fun ls hl => ?_)
                                refine lv_goto (tgt := 703) hx hb dL_tells_773 (by decide) ?_
                                exact ih703 1 _ _ ls hlt703 ⟨(by show _ = iL_tells_703 L s_ i703 (lL_tells_703 L s_ i703); rw [← hz703]; exact hB703.symm), hI, lv_sub hl [0, 1, 2, 3, 4, 5, 6, 7, 8, 9, 10, 11, 12, 13, 14, 15, 16, 17, 18] rfl⟩
                  · have hG := hG.trans (if_pos c_10)
                    refine lv_aload_n hx hb dL_tells_623 rfl (lv_at hl 7 rfl) ?_
                    refine lv_bipush (v := 8) hx hb dL_tells_624 (by decide) ?_
                    refine lv_iload hx hb dL_tells_626 (lv_at hl 0 rfl) ?_
                    refine lv_imul hx hb dL_tells_628 ?_
                    refine lv_iconst (v := 5) hx hb dL_tells_629 (by decide) ?_
                    refine lv_iadd hx hb dL_tells_630 ?_
                    refine xr_ld hC hI 0 (by decide) (show vp_in ((8 * (nI s_)) + 5) 64 from nx_in (nx_add (nx_mul (by decide : (8 : Int32) = nI 8) rfl) (by decide : (5 : Int32) = nI 5)) (by omega) (by decide)) (v := (L 0 (8 * s_ + 5))) (congrArg (L 0) (nx_ix (x := ((8 * (nI s_)) + 5)) (nx_add (nx_mul (by decide : (8 : Int32) = nI 8) rfl) (by decide : (5 : Int32) = nI 5)) (by omega))) dL_tells_631 ?_
                    refine lv_if_le (tgt := 639) hx hb dL_tells_632 (by decide) (fun c_25 => ?_) (fun c_25 => ?_)
                    · have hG := hG.trans (if_pos c_25)
                      refine lv_iconst (v := 0) hx hb dL_tells_639 (by decide) ?_
                      refine lv_istore (lv' := [(17, .int 0), (16, .int (nI s_)), (15, .int (nI b)), (14, .int (nI t)), (13, .int (nI f)), (0, .ref x0), (1, .int act), (2, .int zv), (3, .ref (la 0)), (4, .ref (la 1)), (5, .ref (la 2)), (6, .ref (la 3)), (7, .ref (la 4)), (8, .ref (la 5)), (9, .ref (la 6)), (10, .ref (la 7)), (11, .ref (la 9)), (12, .ref (la 11))]) hx hb dL_tells_640 hl (by decide) rfl (fun ls hl => ?_)
                      refine lv_aload_n hx hb dL_tells_642 rfl (lv_at hl 8 rfl) ?_
                      refine lv_bipush (v := 8) hx hb dL_tells_643 (by decide) ?_
                      refine lv_iload hx hb dL_tells_645 (lv_at hl 1 rfl) ?_
                      refine lv_imul hx hb dL_tells_647 ?_
                      refine lv_iconst (v := 5) hx hb dL_tells_648 (by decide) ?_
                      refine lv_iadd hx hb dL_tells_649 ?_
                      refine lv_iload hx hb dL_tells_650 (lv_at hl 0 rfl) ?_
                      refine lv_if_eq (tgt := 667) hx hb dL_tells_652 (by decide) (fun _ => ?_) (fun c => absurd (by decide : (0 : Int32) = 0) c)
                      refine lv_aload hx hb dL_tells_667 (lv_at hl 17 rfl) ?_
                      refine lv_iconst (v := 0) hx hb dL_tells_669 (by decide) ?_
                      refine xr_ld hC hI 11 (by decide) (nx_in (by decide : (0 : Int32) = nI 0) (by decide) (by decide)) (v := (L 11 0)) (congrArg (L 11) (by decide : ix 0 = 0)) dL_tells_670 ?_
                      refine lv_iconst (v := 1) hx hb dL_tells_671 (by decide) ?_
                      refine lv_iadd hx hb dL_tells_672 ?_
                      refine xr_st hC hK hI 0 (by decide) (show vp_in ((8 * (nI s_)) + 5) 64 from nx_in (nx_add (nx_mul (by decide : (8 : Int32) = nI 8) rfl) (by decide : (5 : Int32) = nI 5)) (by omega) (by decide)) (n := (8 * s_ + 5)) (nx_ix (x := ((8 * (nI s_)) + 5)) (nx_add (nx_mul (by decide : (8 : Int32) = nI 8) rfl) (by decide : (5 : Int32) = nI 5)) (by omega)) dL_tells_673 (fun H locs hI => ?_)
                      refine lv_aload_n hx hb dL_tells_674 rfl (lv_at hl 5 rfl) ?_
                      refine lv_iload hx hb dL_tells_675 (lv_at hl 1 rfl) ?_
                      have hok : (xq7 S 18 (nI s_) 0 0).2.1 = 0 ∧ (xq7 S 18 (nI s_) 0 0).1 = 0 := XOK.d (by have h9 := hOK; rw [hG] at h9; exact h9) (by decide)
                      refine xr_q (As := [.int (nI s_)]) (rest := []) 18 (nI s_) 0 0 hC hK hI (qX7_know l hC.2.1 A D cy g hK.1 S e0 hK.v (nI s_)) (k7_know S (nI s_)) hok.1 (cwV 1 hts gL_tells_X7_know rfl rfl rfl (by decide +kernel) ⟨Nat.le_of_ble_eq_true rfl, Nat.le_of_ble_eq_true rfl⟩) rfl hl.1 rfl (Nat.le_of_ble_eq_true rfl) dL_tells_677 ⟨Nat.le_of_ble_eq_true rfl, Nat.le_of_ble_eq_true rfl⟩ (fun H locs hK hI => ?_)
                      refine lv_iload hx hb dL_tells_680 (lv_at hl 0 rfl) ?_
                      refine lv_icmp_ne (tgt := 689) hx hb dL_tells_682 (by decide) (fun c9 => absurd hok.2 c9) (fun _ => ?_)
                      refine lv_iconst (v := 1) hx hb dL_tells_685 (by decide) ?_
                      refine lv_goto (tgt := 690) hx hb dL_tells_686 (by decide) ?_
                      refine W.widen (k := 8) (n := 342) (Nat.le_of_ble_eq_true rfl) (Nat.le_of_ble_eq_true rfl) ?_
                      exact W.zret (v := 1) (ty := .boolean) hx hb hr rfl (fun t9 ht9 hW9 => ⟨⟨1, g, rfl, ⟨rfl, by rw [hG]; exact hK⟩, ⟨by rw [hG, ht9]; exact hI.1, by rw [hG, ht9]; exact hI.2.1⟩⟩, hI.2.2.1.F ht9⟩) hI.2.2.1.2.2 dL_tells_690
                    · have hG := hG.trans (if_neg c_25)
                      refine lv_iconst (v := 1) hx hb dL_tells_635 (by decide) ?_
                      refine lv_goto (tgt := 640) hx hb dL_tells_636 (by decide) ?_
                      refine lv_istore (lv' := [(17, .int 1), (16, .int (nI s_)), (15, .int (nI b)), (14, .int (nI t)), (13, .int (nI f)), (0, .ref x0), (1, .int act), (2, .int zv), (3, .ref (la 0)), (4, .ref (la 1)), (5, .ref (la 2)), (6, .ref (la 3)), (7, .ref (la 4)), (8, .ref (la 5)), (9, .ref (la 6)), (10, .ref (la 7)), (11, .ref (la 9)), (12, .ref (la 11))]) hx hb dL_tells_640 hl (by decide) rfl (fun ls hl => ?_)
                      refine lv_aload_n hx hb dL_tells_642 rfl (lv_at hl 8 rfl) ?_
                      refine lv_bipush (v := 8) hx hb dL_tells_643 (by decide) ?_
                      refine lv_iload hx hb dL_tells_645 (lv_at hl 1 rfl) ?_
                      refine lv_imul hx hb dL_tells_647 ?_
                      refine lv_iconst (v := 5) hx hb dL_tells_648 (by decide) ?_
                      refine lv_iadd hx hb dL_tells_649 ?_
                      refine lv_iload hx hb dL_tells_650 (lv_at hl 0 rfl) ?_
                      refine lv_if_eq (tgt := 667) hx hb dL_tells_652 (by decide) (fun c => absurd c (by decide : ¬ (1 : Int32) = 0)) (fun _ => ?_)
                      refine lv_aload_n hx hb dL_tells_655 rfl (lv_at hl 8 rfl) ?_
                      refine lv_bipush (v := 8) hx hb dL_tells_656 (by decide) ?_
                      refine lv_iload hx hb dL_tells_658 (lv_at hl 1 rfl) ?_
                      refine lv_imul hx hb dL_tells_660 ?_
                      refine lv_iconst (v := 5) hx hb dL_tells_661 (by decide) ?_
                      refine lv_iadd hx hb dL_tells_662 ?_
                      refine xr_ld hC hI 0 (by decide) (show vp_in ((8 * (nI s_)) + 5) 64 from nx_in (nx_add (nx_mul (by decide : (8 : Int32) = nI 8) rfl) (by decide : (5 : Int32) = nI 5)) (by omega) (by decide)) (v := (L 0 (8 * s_ + 5))) (congrArg (L 0) (nx_ix (x := ((8 * (nI s_)) + 5)) (nx_add (nx_mul (by decide : (8 : Int32) = nI 8) rfl) (by decide : (5 : Int32) = nI 5)) (by omega))) dL_tells_663 ?_
                      refine lv_goto (tgt := 673) hx hb dL_tells_664 (by decide) ?_
                      refine xr_st hC hK hI 0 (by decide) (show vp_in ((8 * (nI s_)) + 5) 64 from nx_in (nx_add (nx_mul (by decide : (8 : Int32) = nI 8) rfl) (by decide : (5 : Int32) = nI 5)) (by omega) (by decide)) (n := (8 * s_ + 5)) (nx_ix (x := ((8 * (nI s_)) + 5)) (nx_add (nx_mul (by decide : (8 : Int32) = nI 8) rfl) (by decide : (5 : Int32) = nI 5)) (by omega)) dL_tells_673 (fun H locs hI => ?_)
                      refine lv_aload_n hx hb dL_tells_674 rfl (lv_at hl 5 rfl) ?_
                      refine lv_iload hx hb dL_tells_675 (lv_at hl 1 rfl) ?_
                      have hok : (xq7 S 18 (nI s_) 0 0).2.1 = 0 ∧ (xq7 S 18 (nI s_) 0 0).1 = 1 := XOK.d (by have h9 := hOK; rw [hG] at h9; exact h9) (by decide)
                      refine xr_q (As := [.int (nI s_)]) (rest := []) 18 (nI s_) 0 0 hC hK hI (qX7_know l hC.2.1 A D cy g hK.1 S e0 hK.v (nI s_)) (k7_know S (nI s_)) hok.1 (cwV 1 hts gL_tells_X7_know rfl rfl rfl (by decide +kernel) ⟨Nat.le_of_ble_eq_true rfl, Nat.le_of_ble_eq_true rfl⟩) rfl hl.1 rfl (Nat.le_of_ble_eq_true rfl) dL_tells_677 ⟨Nat.le_of_ble_eq_true rfl, Nat.le_of_ble_eq_true rfl⟩ (fun H locs hK hI => ?_)
                      refine lv_iload hx hb dL_tells_680 (lv_at hl 0 rfl) ?_
                      refine lv_icmp_ne (tgt := 689) hx hb dL_tells_682 (by decide) (fun c9 => absurd hok.2 c9) (fun _ => ?_)
                      refine lv_iconst (v := 1) hx hb dL_tells_685 (by decide) ?_
                      refine lv_goto (tgt := 690) hx hb dL_tells_686 (by decide) ?_
                      refine W.widen (k := 8) (n := 342) (Nat.le_of_ble_eq_true rfl) (Nat.le_of_ble_eq_true rfl) ?_
                      exact W.zret (v := 1) (ty := .boolean) hx hb hr rfl (fun t9 ht9 hW9 => ⟨⟨1, g, rfl, ⟨rfl, by rw [hG]; exact hK⟩, ⟨by rw [hG, ht9]; exact hI.1, by rw [hG, ht9]; exact hI.2.1⟩⟩, hI.2.2.1.F ht9⟩) hI.2.2.1.2.2 dL_tells_690
                · have hG := hG.trans (if_pos c_9)
                  refine lv_aload hx hb dL_tells_555 (lv_at hl 11 rfl) ?_
                  refine lv_bipush (v := 8) hx hb dL_tells_557 (by decide) ?_
                  refine lv_iload hx hb dL_tells_559 (lv_at hl 2 rfl) ?_
                  refine lv_imul hx hb dL_tells_561 ?_
                  refine lv_iconst (v := 1) hx hb dL_tells_562 (by decide) ?_
                  refine lv_iadd hx hb dL_tells_563 ?_
                  refine xr_ld hC hI 4 (by decide) (show vp_in ((8 * (nI t)) + 1) 40 from nx_in (nx_add (nx_mul (by decide : (8 : Int32) = nI 8) rfl) (by decide : (1 : Int32) = nI 1)) (by omega) (by decide)) (v := (L 4 (8 * t + 1))) (congrArg (L 4) (nx_ix (x := ((8 * (nI t)) + 1)) (nx_add (nx_mul (by decide : (8 : Int32) = nI 8) rfl) (by decide : (1 : Int32) = nI 1)) (by omega))) dL_tells_564 ?_
                  refine lv_iload hx hb dL_tells_565 (lv_at hl 0 rfl) ?_
                  refine lv_ishr hx hb dL_tells_567 ?_
                  refine lv_iconst (v := 1) hx hb dL_tells_568 (by decide) ?_
                  refine lv_iand hx hb dL_tells_569 ?_
                  refine lv_iconst (v := 1) hx hb dL_tells_570 (by decide) ?_
                  refine lv_icmp_ne (tgt := 578) hx hb dL_tells_571 (by decide) (fun c_26 => ?_) (fun c_26 => ?_)
                  · have hG := hG.trans (if_neg c_26)
                    refine lv_iconst (v := 0) hx hb dL_tells_578 (by decide) ?_
                    refine lv_istore (lv' := [(17, .int 0), (16, .int (nI s_)), (15, .int (nI b)), (14, .int (nI t)), (13, .int (nI f)), (0, .ref x0), (1, .int act), (2, .int zv), (3, .ref (la 0)), (4, .ref (la 1)), (5, .ref (la 2)), (6, .ref (la 3)), (7, .ref (la 4)), (8, .ref (la 5)), (9, .ref (la 6)), (10, .ref (la 7)), (11, .ref (la 9)), (12, .ref (la 11))]) hx hb dL_tells_579 hl (by decide) rfl (fun ls hl => ?_)
                    refine lv_aload hx hb dL_tells_581 (lv_at hl 12 rfl) ?_
                    refine lv_bipush (v := 8) hx hb dL_tells_583 (by decide) ?_
                    refine lv_iload hx hb dL_tells_585 (lv_at hl 3 rfl) ?_
                    refine lv_imul hx hb dL_tells_587 ?_
                    refine lv_iconst (v := 1) hx hb dL_tells_588 (by decide) ?_
                    refine lv_iadd hx hb dL_tells_589 ?_
                    refine lv_dup2_11 hx hb dL_tells_590 rfl rfl ?_
                    refine xr_ld hC hI 4 (by decide) (show vp_in ((8 * (nI t)) + 1) 40 from nx_in (nx_add (nx_mul (by decide : (8 : Int32) = nI 8) rfl) (by decide : (1 : Int32) = nI 1)) (by omega) (by decide)) (v := (L 4 (8 * t + 1))) (congrArg (L 4) (nx_ix (x := ((8 * (nI t)) + 1)) (nx_add (nx_mul (by decide : (8 : Int32) = nI 8) rfl) (by decide : (1 : Int32) = nI 1)) (by omega))) dL_tells_591 ?_
                    refine lv_iconst (v := 1) hx hb dL_tells_592 (by decide) ?_
                    refine lv_iload hx hb dL_tells_593 (lv_at hl 1 rfl) ?_
                    refine lv_ishl hx hb dL_tells_595 ?_
                    refine lv_ior hx hb dL_tells_596 ?_
                    refine xr_st hC hK hI 4 (by decide) (show vp_in ((8 * (nI t)) + 1) 40 from nx_in (nx_add (nx_mul (by decide : (8 : Int32) = nI 8) rfl) (by decide : (1 : Int32) = nI 1)) (by omega) (by decide)) (n := (8 * t + 1)) (nx_ix (x := ((8 * (nI t)) + 1)) (nx_add (nx_mul (by decide : (8 : Int32) = nI 8) rfl) (by decide : (1 : Int32) = nI 1)) (by omega)) dL_tells_597 (fun H locs hI => ?_)
                    refine lv_aload_n hx hb dL_tells_598 rfl (lv_at hl 5 rfl) ?_
                    refine lv_iload hx hb dL_tells_599 (lv_at hl 3 rfl) ?_
                    refine lv_iload hx hb dL_tells_601 (lv_at hl 1 rfl) ?_
                    have hok : (xq7 S 17 (nI t) (nI s_) 0).2.1 = 0 ∧ (xq7 S 17 (nI t) (nI s_) 0).1 = 0 := XOK.d (by have h9 := hOK; rw [hG] at h9; exact h9) (by decide)
                    refine xr_q (As := [.int (nI t), .int (nI s_)]) (rest := []) 17 (nI t) (nI s_) 0 hC hK hI (qX7_plan l hC.2.1 A D cy g hK.1 S e0 hK.v (nI t) (nI s_)) (k7_plan S (nI t) (nI s_)) hok.1 (cwV 2 hts gL_tells_X7_plan rfl rfl rfl (by decide +kernel) ⟨Nat.le_of_ble_eq_true rfl, Nat.le_of_ble_eq_true rfl⟩) rfl hl.1 rfl (Nat.le_of_ble_eq_true rfl) dL_tells_603 ⟨Nat.le_of_ble_eq_true rfl, Nat.le_of_ble_eq_true rfl⟩ (fun H locs hK hI => ?_)
                    refine lv_iload hx hb dL_tells_606 (lv_at hl 0 rfl) ?_
                    refine lv_icmp_ne (tgt := 615) hx hb dL_tells_608 (by decide) (fun c9 => absurd hok.2 c9) (fun _ => ?_)
                    refine lv_iconst (v := 1) hx hb dL_tells_611 (by decide) ?_
                    refine lv_goto (tgt := 616) hx hb dL_tells_612 (by decide) ?_
                    refine W.widen (k := 8) (n := 342) (Nat.le_of_ble_eq_true rfl) (Nat.le_of_ble_eq_true rfl) ?_
                    exact W.zret (v := 1) (ty := .boolean) hx hb hr rfl (fun t9 ht9 hW9 => ⟨⟨1, g, rfl, ⟨rfl, by rw [hG]; exact hK⟩, ⟨by rw [hG, ht9]; exact hI.1, by rw [hG, ht9]; exact hI.2.1⟩⟩, hI.2.2.1.F ht9⟩) hI.2.2.1.2.2 dL_tells_616
                  · have hG := hG.trans (if_pos c_26)
                    refine lv_iconst (v := 1) hx hb dL_tells_574 (by decide) ?_
                    refine lv_goto (tgt := 579) hx hb dL_tells_575 (by decide) ?_
                    refine lv_istore (lv' := [(17, .int 1), (16, .int (nI s_)), (15, .int (nI b)), (14, .int (nI t)), (13, .int (nI f)), (0, .ref x0), (1, .int act), (2, .int zv), (3, .ref (la 0)), (4, .ref (la 1)), (5, .ref (la 2)), (6, .ref (la 3)), (7, .ref (la 4)), (8, .ref (la 5)), (9, .ref (la 6)), (10, .ref (la 7)), (11, .ref (la 9)), (12, .ref (la 11))]) hx hb dL_tells_579 hl (by decide) rfl (fun ls hl => ?_)
                    refine lv_aload hx hb dL_tells_581 (lv_at hl 12 rfl) ?_
                    refine lv_bipush (v := 8) hx hb dL_tells_583 (by decide) ?_
                    refine lv_iload hx hb dL_tells_585 (lv_at hl 3 rfl) ?_
                    refine lv_imul hx hb dL_tells_587 ?_
                    refine lv_iconst (v := 1) hx hb dL_tells_588 (by decide) ?_
                    refine lv_iadd hx hb dL_tells_589 ?_
                    refine lv_dup2_11 hx hb dL_tells_590 rfl rfl ?_
                    refine xr_ld hC hI 4 (by decide) (show vp_in ((8 * (nI t)) + 1) 40 from nx_in (nx_add (nx_mul (by decide : (8 : Int32) = nI 8) rfl) (by decide : (1 : Int32) = nI 1)) (by omega) (by decide)) (v := (L 4 (8 * t + 1))) (congrArg (L 4) (nx_ix (x := ((8 * (nI t)) + 1)) (nx_add (nx_mul (by decide : (8 : Int32) = nI 8) rfl) (by decide : (1 : Int32) = nI 1)) (by omega))) dL_tells_591 ?_
                    refine lv_iconst (v := 1) hx hb dL_tells_592 (by decide) ?_
                    refine lv_iload hx hb dL_tells_593 (lv_at hl 1 rfl) ?_
                    refine lv_ishl hx hb dL_tells_595 ?_
                    refine lv_ior hx hb dL_tells_596 ?_
                    refine xr_st hC hK hI 4 (by decide) (show vp_in ((8 * (nI t)) + 1) 40 from nx_in (nx_add (nx_mul (by decide : (8 : Int32) = nI 8) rfl) (by decide : (1 : Int32) = nI 1)) (by omega) (by decide)) (n := (8 * t + 1)) (nx_ix (x := ((8 * (nI t)) + 1)) (nx_add (nx_mul (by decide : (8 : Int32) = nI 8) rfl) (by decide : (1 : Int32) = nI 1)) (by omega)) dL_tells_597 (fun H locs hI => ?_)
                    refine lv_aload_n hx hb dL_tells_598 rfl (lv_at hl 5 rfl) ?_
                    refine lv_iload hx hb dL_tells_599 (lv_at hl 3 rfl) ?_
                    refine lv_iload hx hb dL_tells_601 (lv_at hl 1 rfl) ?_
                    have hok : (xq7 S 17 (nI t) (nI s_) 0).2.1 = 0 ∧ (xq7 S 17 (nI t) (nI s_) 0).1 = 1 := XOK.d (by have h9 := hOK; rw [hG] at h9; exact h9) (by decide)
                    refine xr_q (As := [.int (nI t), .int (nI s_)]) (rest := []) 17 (nI t) (nI s_) 0 hC hK hI (qX7_plan l hC.2.1 A D cy g hK.1 S e0 hK.v (nI t) (nI s_)) (k7_plan S (nI t) (nI s_)) hok.1 (cwV 2 hts gL_tells_X7_plan rfl rfl rfl (by decide +kernel) ⟨Nat.le_of_ble_eq_true rfl, Nat.le_of_ble_eq_true rfl⟩) rfl hl.1 rfl (Nat.le_of_ble_eq_true rfl) dL_tells_603 ⟨Nat.le_of_ble_eq_true rfl, Nat.le_of_ble_eq_true rfl⟩ (fun H locs hK hI => ?_)
                    refine lv_iload hx hb dL_tells_606 (lv_at hl 0 rfl) ?_
                    refine lv_icmp_ne (tgt := 615) hx hb dL_tells_608 (by decide) (fun c9 => absurd hok.2 c9) (fun _ => ?_)
                    refine lv_iconst (v := 1) hx hb dL_tells_611 (by decide) ?_
                    refine lv_goto (tgt := 616) hx hb dL_tells_612 (by decide) ?_
                    refine W.widen (k := 8) (n := 342) (Nat.le_of_ble_eq_true rfl) (Nat.le_of_ble_eq_true rfl) ?_
                    exact W.zret (v := 1) (ty := .boolean) hx hb hr rfl (fun t9 ht9 hW9 => ⟨⟨1, g, rfl, ⟨rfl, by rw [hG]; exact hK⟩, ⟨by rw [hG, ht9]; exact hI.1, by rw [hG, ht9]; exact hI.2.1⟩⟩, hI.2.2.1.F ht9⟩) hI.2.2.1.2.2 dL_tells_616
              · have hG := hG.trans (if_pos c_8)
                refine lv_aload hx hb dL_tells_468 (lv_at hl 10 rfl) ?_
                refine lv_iload hx hb dL_tells_470 (lv_at hl 1 rfl) ?_
                refine lv_aload hx hb dL_tells_472 (lv_at hl 10 rfl) ?_
                refine lv_iload hx hb dL_tells_474 (lv_at hl 1 rfl) ?_
                refine xr_ld hC hI 3 (by decide) (show vp_in (nI b) 8 from nx_in rfl (by omega) (by decide)) (v := (L 3 b)) (congrArg (L 3) (nx_ix (x := (nI b)) rfl (by omega))) dL_tells_476 ?_
                refine lv_if_ne (tgt := 489) hx hb dL_tells_477 (by decide) (fun c_27 => ?_) (fun c_27 => ?_)
                · have hG := hG.trans (if_neg c_27)
                  refine lv_aload hx hb dL_tells_489 (lv_at hl 10 rfl) ?_
                  refine lv_iload hx hb dL_tells_491 (lv_at hl 1 rfl) ?_
                  refine xr_ld hC hI 3 (by decide) (show vp_in (nI b) 8 from nx_in rfl (by omega) (by decide)) (v := (L 3 b)) (congrArg (L 3) (nx_ix (x := (nI b)) rfl (by omega))) dL_tells_493 ?_
                  refine xr_st hC hK hI 3 (by decide) (show vp_in (nI b) 8 from nx_in rfl (by omega) (by decide)) (n := b) (nx_ix (x := (nI b)) rfl (by omega)) dL_tells_494 (fun H locs hI => ?_)
                  refine lv_iconst (v := 0) hx hb dL_tells_495 (by decide) ?_
                  refine lv_istore (lv' := [(17, .int 0), (16, .int (nI s_)), (15, .int (nI b)), (14, .int (nI t)), (13, .int (nI f)), (0, .ref x0), (1, .int act), (2, .int zv), (3, .ref (la 0)), (4, .ref (la 1)), (5, .ref (la 2)), (6, .ref (la 3)), (7, .ref (la 4)), (8, .ref (la 5)), (9, .ref (la 6)), (10, .ref (la 7)), (11, .ref (la 9)), (12, .ref (la 11))]) hx hb dL_tells_496 hl (by decide) rfl (fun ls hl => ?_)
                  refine lv_iconst (v := 0) hx hb dL_tells_498 (by decide) ?_
                  refine lv_istore (lv' := [(18, .int 0), (17, .int 0), (16, .int (nI s_)), (15, .int (nI b)), (14, .int (nI t)), (13, .int (nI f)), (0, .ref x0), (1, .int act), (2, .int zv), (3, .ref (la 0)), (4, .ref (la 1)), (5, .ref (la 2)), (6, .ref (la 3)), (7, .ref (la 4)), (8, .ref (la 5)), (9, .ref (la 6)), (10, .ref (la 7)), (11, .ref (la 9)), (12, .ref (la 11))]) hx hb dL_tells_499 hl (by decide) rfl (fun ls hl => ?_)
                  refine w_loop (σ := Int32) 8 501 (fun i501 z H locs ls => z = lL_tells_501 L b i501 ∧ XI A B D cy g n0 la s S (up L 3 b (L 3 b)) H locs ∧ lv_has ls 21 [(18, .int (nI i501)), (17, .int z), (16, .int (nI s_)), (15, .int (nI b)), (14, .int (nI t)), (13, .int (nI f)), (0, .ref x0), (1, .int act), (2, .int zv), (3, .ref (la 0)), (4, .ref (la 1)), (5, .ref (la 2)), (6, .ref (la 3)), (7, .ref (la 4)), (8, .ref (la 5)), (9, .ref (la 6)), (10, .ref (la 7)), (11, .ref (la 9)), (12, .ref (la 11))]) ?_ 0 ⟨rfl, hI, lv_sub hl [0, 1, 2, 3, 4, 5, 6, 7, 8, 9, 10, 11, 12, 13, 14, 15, 16, 17, 18] rfl⟩
                  intro i501 z H locs ls ⟨hz501, hI, hl⟩ hi501 ih501
                  obtain ⟨x501_17, rfl⟩ : ∃ x, x = z := ⟨_, rfl⟩
                  refine lv_iload hx hb dL_tells_501 (lv_at hl 0 rfl) ?_
                  refine lv_bipush (v := 8) hx hb dL_tells_503 (by decide) ?_
                  refine lv_icmp_ge (tgt := 532) hx hb dL_tells_505 (by decide) (fun c_28 => ?_) (fun c_28 => ?_)
                  · obtain rfl : i501 = 8 := w_exit (by decide : (8 : Int32) = nI 8) hi501 (by decide) c_28
                    obtain rfl : x501_17 = (lL_tells_501 L b 8) := by rw [← hz501]
                    refine lv_aload_n hx hb dL_tells_532 rfl (lv_at hl 6 rfl) ?_
                    refine lv_iload hx hb dL_tells_533 (lv_at hl 3 rfl) ?_
                    have hok : (xq7 S 16 (nI b) 0 0).2.1 = 0 ∧ (xq7 S 16 (nI b) 0 0).1 = (lL_tells_501 L b 8) := XOK.d (by have h9 := hOK; rw [hG] at h9; exact h9) (by decide)
                    refine xr_q (As := [.int (nI b)]) (rest := []) 16 (nI b) 0 0 hC hK hI (qX7_publish l hC.2.1 A D cy g hK.1 S e0 hK.v (nI b)) (k7_publish S (nI b)) hok.1 (cwV 1 hts gL_tells_X7_publish rfl rfl rfl (by decide +kernel) ⟨Nat.le_of_ble_eq_true rfl, Nat.le_of_ble_eq_true rfl⟩) rfl hl.1 rfl (Nat.le_of_ble_eq_true rfl) dL_tells_535 ⟨Nat.le_of_ble_eq_true rfl, Nat.le_of_ble_eq_true rfl⟩ (fun H locs hK hI => ?_)
                    refine lv_iload hx hb dL_tells_538 (lv_at hl 1 rfl) ?_
                    refine lv_icmp_ne (tgt := 547) hx hb dL_tells_540 (by decide) (fun c9 => absurd hok.2 c9) (fun _ => ?_)
                    refine lv_iconst (v := 1) hx hb dL_tells_543 (by decide) ?_
                    refine lv_goto (tgt := 548) hx hb dL_tells_544 (by decide) ?_
                    refine W.widen (k := 8) (n := 342) (Nat.le_of_ble_eq_true rfl) (Nat.le_of_ble_eq_true rfl) ?_
                    exact W.zret (v := 1) (ty := .boolean) hx hb hr rfl (fun t9 ht9 hW9 => ⟨⟨1, g, rfl, ⟨rfl, by rw [hG]; exact hK⟩, ⟨by rw [hG, ht9]; exact hI.1, by rw [hG, ht9]; exact hI.2.1⟩⟩, hI.2.2.1.F ht9⟩) hI.2.2.1.2.2 dL_tells_548
                  · have hlt501 : i501 < 8 := w_in (by decide : (8 : Int32) = nI 8) hi501 (by decide) c_28
                    have hB501 : iL_tells_501 L b i501 x501_17 = iL_tells_501 L b i501 x501_17 := rfl
                    refine lv_iload hx hb dL_tells_508 (lv_at hl 1 rfl) ?_
                    refine lv_aload hx hb dL_tells_510 (lv_at hl 12 rfl) ?_
                    refine lv_iload hx hb dL_tells_512 (lv_at hl 0 rfl) ?_
                    refine xr_ld hC hI 3 (by decide) (show vp_in (nI i501) 8 from nx_in rfl (by omega) (by decide)) (v := ((up L 3 b (L 3 b)) 3 i501)) (congrArg ((up L 3 b (L 3 b)) 3) (nx_ix (x := (nI i501)) rfl (by omega))) dL_tells_514 ?_
                    refine lv_if_le (tgt := 522) hx hb dL_tells_515 (by decide) (fun c_29 => ?_) (fun c_29 => ?_)
                    · have hB501 := hB501.trans (if_pos c_29)
                      refine lv_iconst (v := 0) hx hb dL_tells_522 (by decide) ?_
                      refine lv_iadd hx hb dL_tells_523 ?_
                      refine lv_istore (lv' := [(17, .int (x501_17 + 0)), (18, .int (nI i501)), (16, .int (nI s_)), (15, .int (nI b)), (14, .int (nI t)), (13, .int (nI f)), (0, .ref x0), (1, .int act), (2, .int zv), (3, .ref (la 0)), (4, .ref (la 1)), (5, .ref (la 2)), (6, .ref (la 3)), (7, .ref (la 4)), (8, .ref (la 5)), (9, .ref (la 6)), (10, .ref (la 7)), (11, .ref (la 9)), (12, .ref (la 11))]) hx hb dL_tells_524 hl (by decide) rfl (fun ls hl => ?_)
                      refine lv_iinc (v := (nI (i501 + 1))) (lv' := [(18, .int (nI (i501 + 1))), (17, .int (x501_17 + 0)), (16, .int (nI s_)), (15, .int (nI b)), (14, .int (nI t)), (13, .int (nI f)), (0, .ref x0), (1, .int act), (2, .int zv), (3, .ref (la 0)), (4, .ref (la 1)), (5, .ref (la 2)), (6, .ref (la 3)), (7, .ref (la 4)), (8, .ref (la 5)), (9, .ref (la 6)), (10, .ref (la 7)), (11, .ref (la 9)), (12, .ref (la 11))]) hx hb dL_tells_526 hl (k := 1) rfl (nI_1 i501) (by decide) rfl (fun ls hl => ?_)
                      refine lv_goto (tgt := 501) hx hb dL_tells_529 (by decide) ?_
                      exact ih501 (x501_17 + 0) _ _ ls hlt501 ⟨(by show _ = iL_tells_501 L b i501 (lL_tells_501 L b i501); rw [← hz501]; exact hB501.symm), hI, lv_sub hl [0, 1, 2, 3, 4, 5, 6, 7, 8, 9, 10, 11, 12, 13, 14, 15, 16, 17, 18] rfl⟩
                    · have hB501 := hB501.trans (if_neg c_29)
                      refine lv_iconst (v := 1) hx hb dL_tells_518 (by decide) ?_
                      refine lv_goto (tgt := 523) hx hb dL_tells_519 (by decide) ?_
                      refine lv_iadd hx hb dL_tells_523 ?_
                      refine lv_istore (lv' := [(17, .int (x501_17 + 1)), (18, .int (nI i501)), (16, .int (nI s_)), (15, .int (nI b)), (14, .int (nI t)), (13, .int (nI f)), (0, .ref x0), (1, .int act), (2, .int zv), (3, .ref (la 0)), (4, .ref (la 1)), (5, .ref (la 2)), (6, .ref (la 3)), (7, .ref (la 4)), (8, .ref (la 5)), (9, .ref (la 6)), (10, .ref (la 7)), (11, .ref (la 9)), (12, .ref (la 11))]) hx hb dL_tells_524 hl (by decide) rfl (fun ls hl => ?_)
                      refine lv_iinc (v := (nI (i501 + 1))) (lv' := [(18, .int (nI (i501 + 1))), (17, .int (x501_17 + 1)), (16, .int (nI s_)), (15, .int (nI b)), (14, .int (nI t)), (13, .int (nI f)), (0, .ref x0), (1, .int act), (2, .int zv), (3, .ref (la 0)), (4, .ref (la 1)), (5, .ref (la 2)), (6, .ref (la 3)), (7, .ref (la 4)), (8, .ref (la 5)), (9, .ref (la 6)), (10, .ref (la 7)), (11, .ref (la 9)), (12, .ref (la 11))]) hx hb dL_tells_526 hl (k := 1) rfl (nI_1 i501) (by decide) rfl (fun ls hl => ?_)
                      refine lv_goto (tgt := 501) hx hb dL_tells_529 (by decide) ?_
                      exact ih501 (x501_17 + 1) _ _ ls hlt501 ⟨(by show _ = iL_tells_501 L b i501 (lL_tells_501 L b i501); rw [← hz501]; exact hB501.symm), hI, lv_sub hl [0, 1, 2, 3, 4, 5, 6, 7, 8, 9, 10, 11, 12, 13, 14, 15, 16, 17, 18] rfl⟩
                · have hG := hG.trans (if_pos c_27)
                  refine lv_aload hx hb dL_tells_480 (lv_at hl 16 rfl) ?_
                  refine lv_iconst (v := 0) hx hb dL_tells_482 (by decide) ?_
                  refine xr_ld hC hI 11 (by decide) (nx_in (by decide : (0 : Int32) = nI 0) (by decide) (by decide)) (v := (L 11 0)) (congrArg (L 11) (by decide : ix 0 = 0)) dL_tells_483 ?_
                  refine lv_iconst (v := 1) hx hb dL_tells_484 (by decide) ?_
                  refine lv_iadd hx hb dL_tells_485 ?_
                  refine lv_goto (tgt := 494) hx hb dL_tells_486 (by decide) ?_
                  refine xr_st hC hK hI 3 (by decide) (show vp_in (nI b) 8 from nx_in rfl (by omega) (by decide)) (n := b) (nx_ix (x := (nI b)) rfl (by omega)) dL_tells_494 (fun H locs hI => ?_)
                  refine lv_iconst (v := 0) hx hb dL_tells_495 (by decide) ?_
                  refine lv_istore (lv' := [(17, .int 0), (16, .int (nI s_)), (15, .int (nI b)), (14, .int (nI t)), (13, .int (nI f)), (0, .ref x0), (1, .int act), (2, .int zv), (3, .ref (la 0)), (4, .ref (la 1)), (5, .ref (la 2)), (6, .ref (la 3)), (7, .ref (la 4)), (8, .ref (la 5)), (9, .ref (la 6)), (10, .ref (la 7)), (11, .ref (la 9)), (12, .ref (la 11))]) hx hb dL_tells_496 hl (by decide) rfl (fun ls hl => ?_)
                  refine lv_iconst (v := 0) hx hb dL_tells_498 (by decide) ?_
                  refine lv_istore (lv' := [(18, .int 0), (17, .int 0), (16, .int (nI s_)), (15, .int (nI b)), (14, .int (nI t)), (13, .int (nI f)), (0, .ref x0), (1, .int act), (2, .int zv), (3, .ref (la 0)), (4, .ref (la 1)), (5, .ref (la 2)), (6, .ref (la 3)), (7, .ref (la 4)), (8, .ref (la 5)), (9, .ref (la 6)), (10, .ref (la 7)), (11, .ref (la 9)), (12, .ref (la 11))]) hx hb dL_tells_499 hl (by decide) rfl (fun ls hl => ?_)
                  refine w_loop (σ := Int32) 8 501 (fun i501 z H locs ls => z = lL_tells_501_v2 L b i501 ∧ XI A B D cy g n0 la s S (up L 3 b ((L 11 0) + 1)) H locs ∧ lv_has ls 21 [(18, .int (nI i501)), (17, .int z), (16, .int (nI s_)), (15, .int (nI b)), (14, .int (nI t)), (13, .int (nI f)), (0, .ref x0), (1, .int act), (2, .int zv), (3, .ref (la 0)), (4, .ref (la 1)), (5, .ref (la 2)), (6, .ref (la 3)), (7, .ref (la 4)), (8, .ref (la 5)), (9, .ref (la 6)), (10, .ref (la 7)), (11, .ref (la 9)), (12, .ref (la 11))]) ?_ 0 ⟨rfl, hI, lv_sub hl [0, 1, 2, 3, 4, 5, 6, 7, 8, 9, 10, 11, 12, 13, 14, 15, 16, 17, 18] rfl⟩
                  intro i501 z H locs ls ⟨hz501, hI, hl⟩ hi501 ih501
                  obtain ⟨x501_17, rfl⟩ : ∃ x, x = z := ⟨_, rfl⟩
                  refine lv_iload hx hb dL_tells_501 (lv_at hl 0 rfl) ?_
                  refine lv_bipush (v := 8) hx hb dL_tells_503 (by decide) ?_
                  refine lv_icmp_ge (tgt := 532) hx hb dL_tells_505 (by decide) (fun c_30 => ?_) (fun c_30 => ?_)
                  · obtain rfl : i501 = 8 := w_exit (by decide : (8 : Int32) = nI 8) hi501 (by decide) c_30
                    obtain rfl : x501_17 = (lL_tells_501_v2 L b 8) := by rw [← hz501]
                    refine lv_aload_n hx hb dL_tells_532 rfl (lv_at hl 6 rfl) ?_
                    refine lv_iload hx hb dL_tells_533 (lv_at hl 3 rfl) ?_
                    have hok : (xq7 S 16 (nI b) 0 0).2.1 = 0 ∧ (xq7 S 16 (nI b) 0 0).1 = (lL_tells_501_v2 L b 8) := XOK.d (by have h9 := hOK; rw [hG] at h9; exact h9) (by decide)
                    refine xr_q (As := [.int (nI b)]) (rest := []) 16 (nI b) 0 0 hC hK hI (qX7_publish l hC.2.1 A D cy g hK.1 S e0 hK.v (nI b)) (k7_publish S (nI b)) hok.1 (cwV 1 hts gL_tells_X7_publish rfl rfl rfl (by decide +kernel) ⟨Nat.le_of_ble_eq_true rfl, Nat.le_of_ble_eq_true rfl⟩) rfl hl.1 rfl (Nat.le_of_ble_eq_true rfl) dL_tells_535 ⟨Nat.le_of_ble_eq_true rfl, Nat.le_of_ble_eq_true rfl⟩ (fun H locs hK hI => ?_)
                    refine lv_iload hx hb dL_tells_538 (lv_at hl 1 rfl) ?_
                    refine lv_icmp_ne (tgt := 547) hx hb dL_tells_540 (by decide) (fun c9 => absurd hok.2 c9) (fun _ => ?_)
                    refine lv_iconst (v := 1) hx hb dL_tells_543 (by decide) ?_
                    refine lv_goto (tgt := 548) hx hb dL_tells_544 (by decide) ?_
                    refine W.widen (k := 8) (n := 342) (Nat.le_of_ble_eq_true rfl) (Nat.le_of_ble_eq_true rfl) ?_
                    exact W.zret (v := 1) (ty := .boolean) hx hb hr rfl (fun t9 ht9 hW9 => ⟨⟨1, g, rfl, ⟨rfl, by rw [hG]; exact hK⟩, ⟨by rw [hG, ht9]; exact hI.1, by rw [hG, ht9]; exact hI.2.1⟩⟩, hI.2.2.1.F ht9⟩) hI.2.2.1.2.2 dL_tells_548
                  · have hlt501 : i501 < 8 := w_in (by decide : (8 : Int32) = nI 8) hi501 (by decide) c_30
                    have hB501 : iL_tells_501_v2 L b i501 x501_17 = iL_tells_501_v2 L b i501 x501_17 := rfl
                    refine lv_iload hx hb dL_tells_508 (lv_at hl 1 rfl) ?_
                    refine lv_aload hx hb dL_tells_510 (lv_at hl 12 rfl) ?_
                    refine lv_iload hx hb dL_tells_512 (lv_at hl 0 rfl) ?_
                    refine xr_ld hC hI 3 (by decide) (show vp_in (nI i501) 8 from nx_in rfl (by omega) (by decide)) (v := ((up L 3 b ((L 11 0) + 1)) 3 i501)) (congrArg ((up L 3 b ((L 11 0) + 1)) 3) (nx_ix (x := (nI i501)) rfl (by omega))) dL_tells_514 ?_
                    refine lv_if_le (tgt := 522) hx hb dL_tells_515 (by decide) (fun c_31 => ?_) (fun c_31 => ?_)
                    · have hB501 := hB501.trans (if_pos c_31)
                      refine lv_iconst (v := 0) hx hb dL_tells_522 (by decide) ?_
                      refine lv_iadd hx hb dL_tells_523 ?_
                      refine lv_istore (lv' := [(17, .int (x501_17 + 0)), (18, .int (nI i501)), (16, .int (nI s_)), (15, .int (nI b)), (14, .int (nI t)), (13, .int (nI f)), (0, .ref x0), (1, .int act), (2, .int zv), (3, .ref (la 0)), (4, .ref (la 1)), (5, .ref (la 2)), (6, .ref (la 3)), (7, .ref (la 4)), (8, .ref (la 5)), (9, .ref (la 6)), (10, .ref (la 7)), (11, .ref (la 9)), (12, .ref (la 11))]) hx hb dL_tells_524 hl (by decide) rfl (fun ls hl => ?_)
                      refine lv_iinc (v := (nI (i501 + 1))) (lv' := [(18, .int (nI (i501 + 1))), (17, .int (x501_17 + 0)), (16, .int (nI s_)), (15, .int (nI b)), (14, .int (nI t)), (13, .int (nI f)), (0, .ref x0), (1, .int act), (2, .int zv), (3, .ref (la 0)), (4, .ref (la 1)), (5, .ref (la 2)), (6, .ref (la 3)), (7, .ref (la 4)), (8, .ref (la 5)), (9, .ref (la 6)), (10, .ref (la 7)), (11, .ref (la 9)), (12, .ref (la 11))]) hx hb dL_tells_526 hl (k := 1) rfl (nI_1 i501) (by decide) rfl (fun ls hl => ?_)
                      refine lv_goto (tgt := 501) hx hb dL_tells_529 (by decide) ?_
                      exact ih501 (x501_17 + 0) _ _ ls hlt501 ⟨(by show _ = iL_tells_501_v2 L b i501 (lL_tells_501_v2 L b i501); rw [← hz501]; exact hB501.symm), hI, lv_sub hl [0, 1, 2, 3, 4, 5, 6, 7, 8, 9, 10, 11, 12, 13, 14, 15, 16, 17, 18] rfl⟩
                    · have hB501 := hB501.trans (if_neg c_31)
                      refine lv_iconst (v := 1) hx hb dL_tells_518 (by decide) ?_
                      refine lv_goto (tgt := 523) hx hb dL_tells_519 (by decide) ?_
                      refine lv_iadd hx hb dL_tells_523 ?_
                      refine lv_istore (lv' := [(17, .int (x501_17 + 1)), (18, .int (nI i501)), (16, .int (nI s_)), (15, .int (nI b)), (14, .int (nI t)), (13, .int (nI f)), (0, .ref x0), (1, .int act), (2, .int zv), (3, .ref (la 0)), (4, .ref (la 1)), (5, .ref (la 2)), (6, .ref (la 3)), (7, .ref (la 4)), (8, .ref (la 5)), (9, .ref (la 6)), (10, .ref (la 7)), (11, .ref (la 9)), (12, .ref (la 11))]) hx hb dL_tells_524 hl (by decide) rfl (fun ls hl => ?_)
                      refine lv_iinc (v := (nI (i501 + 1))) (lv' := [(18, .int (nI (i501 + 1))), (17, .int (x501_17 + 1)), (16, .int (nI s_)), (15, .int (nI b)), (14, .int (nI t)), (13, .int (nI f)), (0, .ref x0), (1, .int act), (2, .int zv), (3, .ref (la 0)), (4, .ref (la 1)), (5, .ref (la 2)), (6, .ref (la 3)), (7, .ref (la 4)), (8, .ref (la 5)), (9, .ref (la 6)), (10, .ref (la 7)), (11, .ref (la 9)), (12, .ref (la 11))]) hx hb dL_tells_526 hl (k := 1) rfl (nI_1 i501) (by decide) rfl (fun ls hl => ?_)
                      refine lv_goto (tgt := 501) hx hb dL_tells_529 (by decide) ?_
                      exact ih501 (x501_17 + 1) _ _ ls hlt501 ⟨(by show _ = iL_tells_501_v2 L b i501 (lL_tells_501_v2 L b i501); rw [← hz501]; exact hB501.symm), hI, lv_sub hl [0, 1, 2, 3, 4, 5, 6, 7, 8, 9, 10, 11, 12, 13, 14, 15, 16, 17, 18] rfl⟩
            · have hG := hG.trans (if_pos c_7)
              refine lv_aload hx hb dL_tells_420 (lv_at hl 11 rfl) ?_
              refine lv_bipush (v := 8) hx hb dL_tells_422 (by decide) ?_
              refine lv_iload hx hb dL_tells_424 (lv_at hl 2 rfl) ?_
              refine lv_imul hx hb dL_tells_426 ?_
              refine lv_dup2_11 hx hb dL_tells_427 rfl rfl ?_
              refine xr_ld hC hI 4 (by decide) (show vp_in (8 * (nI t)) 40 from nx_in (nx_mul (by decide : (8 : Int32) = nI 8) rfl) (by omega) (by decide)) (v := (L 4 (8 * t))) (congrArg (L 4) (nx_ix (x := (8 * (nI t))) (nx_mul (by decide : (8 : Int32) = nI 8) rfl) (by omega))) dL_tells_428 ?_
              refine lv_iconst (v := 1) hx hb dL_tells_429 (by decide) ?_
              refine lv_iload hx hb dL_tells_430 (lv_at hl 1 rfl) ?_
              refine lv_ishl hx hb dL_tells_432 ?_
              refine lv_ior hx hb dL_tells_433 ?_
              refine xr_st hC hK hI 4 (by decide) (show vp_in (8 * (nI t)) 40 from nx_in (nx_mul (by decide : (8 : Int32) = nI 8) rfl) (by omega) (by decide)) (n := (8 * t)) (nx_ix (x := (8 * (nI t))) (nx_mul (by decide : (8 : Int32) = nI 8) rfl) (by omega)) dL_tells_434 (fun H locs hI => ?_)
              refine lv_aload_n hx hb dL_tells_435 rfl (lv_at hl 4 rfl) ?_
              refine lv_iload hx hb dL_tells_436 (lv_at hl 2 rfl) ?_
              refine lv_iload hx hb dL_tells_438 (lv_at hl 1 rfl) ?_
              have hok : (xq7 S 15 (nI t) (nI b) 0).2.1 = 0 ∧ (xq7 S 15 (nI t) (nI b) 0).1 = (fL_ones ((L 4 (8 * t)) ||| (1 <<< ((nI b) &&& 31)))) := XOK.d (by have h9 := hOK; rw [hG] at h9; exact h9) (by decide)
              refine xr_q (As := [.int (nI t), .int (nI b)]) (rest := []) 15 (nI t) (nI b) 0 hC hK hI (qX7_learn l hC.2.1 A D cy g hK.1 S e0 hK.v (nI t) (nI b)) (k7_learn S (nI t) (nI b)) hok.1 (cwV 2 hts gL_tells_X7_learn rfl rfl rfl (by decide +kernel) ⟨Nat.le_of_ble_eq_true rfl, Nat.le_of_ble_eq_true rfl⟩) rfl hl.1 rfl (Nat.le_of_ble_eq_true rfl) dL_tells_440 ⟨Nat.le_of_ble_eq_true rfl, Nat.le_of_ble_eq_true rfl⟩ (fun H locs hK hI => ?_)
              refine lv_aload hx hb dL_tells_443 (lv_at hl 11 rfl) ?_
              refine lv_bipush (v := 8) hx hb dL_tells_445 (by decide) ?_
              refine lv_iload hx hb dL_tells_447 (lv_at hl 2 rfl) ?_
              refine lv_imul hx hb dL_tells_449 ?_
              refine xr_ld hC hI 4 (by decide) (show vp_in (8 * (nI t)) 40 from nx_in (nx_mul (by decide : (8 : Int32) = nI 8) rfl) (by omega) (by decide)) (v := ((L 4 (8 * t)) ||| (1 <<< ((nI b) &&& 31)))) ((congrArg ((up L 4 (8 * t) ((L 4 (8 * t)) ||| (1 <<< ((nI b) &&& 31)))) 4) (nx_ix (x := (8 * (nI t))) (nx_mul (by decide : (8 : Int32) = nI 8) rfl) (by omega))).trans (up_at _ _ _ _)) dL_tells_450 ?_
              refine xr_callS (As := [.int ((L 4 (8 * t)) ||| (1 <<< ((nI b) &&& 31)))]) (rest := [.int ((xq7 S 15 (nI t) (nI b) 0).1)]) hC hI (qL_ones l ((L 4 (8 * t)) ||| (1 <<< ((nI b) &&& 31)))) (va_cwS 1 hts gL_tells_L_ones rfl rfl rfl (by decide +kernel) ⟨Nat.le_of_ble_eq_true rfl, Nat.le_of_ble_eq_true rfl⟩) rfl hl.1 rfl (Nat.le_of_ble_eq_true rfl) dL_tells_451 ⟨Nat.le_of_ble_eq_true rfl, Nat.le_of_ble_eq_true rfl⟩ (fun H locs hI => ?_)
              refine lv_icmp_ne (tgt := 461) hx hb dL_tells_454 (by decide) (fun c9 => absurd hok.2 c9) (fun _ => ?_)
              refine lv_iconst (v := 1) hx hb dL_tells_457 (by decide) ?_
              refine lv_goto (tgt := 462) hx hb dL_tells_458 (by decide) ?_
              refine W.widen (k := 8) (n := 342) (Nat.le_of_ble_eq_true rfl) (Nat.le_of_ble_eq_true rfl) ?_
              exact W.zret (v := 1) (ty := .boolean) hx hb hr rfl (fun t9 ht9 hW9 => ⟨⟨1, g, rfl, ⟨rfl, by rw [hG]; exact hK⟩, ⟨by rw [hG, ht9]; exact hI.1, by rw [hG, ht9]; exact hI.2.1⟩⟩, hI.2.2.1.F ht9⟩) hI.2.2.1.2.2 dL_tells_462
          · have hG := hG.trans (if_pos c_6)
            refine lv_aload_n hx hb dL_tells_343 rfl (lv_at hl 7 rfl) ?_
            refine lv_bipush (v := 8) hx hb dL_tells_344 (by decide) ?_
            refine lv_iload hx hb dL_tells_346 (lv_at hl 0 rfl) ?_
            refine lv_imul hx hb dL_tells_348 ?_
            refine lv_iconst (v := 3) hx hb dL_tells_349 (by decide) ?_
            refine lv_iadd hx hb dL_tells_350 ?_
            refine lv_iconst (v := 1) hx hb dL_tells_351 (by decide) ?_
            refine lv_iload_n hx hb dL_tells_352 rfl (lv_at hl 6 rfl) ?_
            refine lv_iconst (v := 4) hx hb dL_tells_353 (by decide) ?_
            refine lv_ishr hx hb dL_tells_354 ?_
            refine lv_bipush (v := 20) hx hb dL_tells_355 (by decide) ?_
            refine xr_callS (As := [.int (zv >>> ((4 : Int32) &&& 31)), .int 20]) (rest := [.int 1, .int ((8 * (nI s_)) + 3), .ref (la 0)]) hC hI (qL_low l (zv >>> ((4 : Int32) &&& 31)) 20 (by decide)) (va_cwS 2 hts gL_tells_L_low rfl rfl rfl (by decide +kernel) ⟨Nat.le_of_ble_eq_true rfl, Nat.le_of_ble_eq_true rfl⟩) rfl hl.1 rfl (Nat.le_of_ble_eq_true rfl) dL_tells_357 ⟨Nat.le_of_ble_eq_true rfl, Nat.le_of_ble_eq_true rfl⟩ (fun H locs hI => ?_)
            refine lv_iadd hx hb dL_tells_360 ?_
            refine xr_st hC hK hI 0 (by decide) (show vp_in ((8 * (nI s_)) + 3) 64 from nx_in (nx_add (nx_mul (by decide : (8 : Int32) = nI 8) rfl) (by decide : (3 : Int32) = nI 3)) (by omega) (by decide)) (n := (8 * s_ + 3)) (nx_ix (x := ((8 * (nI s_)) + 3)) (nx_add (nx_mul (by decide : (8 : Int32) = nI 8) rfl) (by decide : (3 : Int32) = nI 3)) (by omega)) dL_tells_361 (fun H locs hI => ?_)
            refine lv_aload_n hx hb dL_tells_362 rfl (lv_at hl 7 rfl) ?_
            refine lv_bipush (v := 8) hx hb dL_tells_363 (by decide) ?_
            refine lv_iload hx hb dL_tells_365 (lv_at hl 0 rfl) ?_
            refine lv_imul hx hb dL_tells_367 ?_
            refine lv_iconst (v := 4) hx hb dL_tells_368 (by decide) ?_
            refine lv_iadd hx hb dL_tells_369 ?_
            refine lv_iload_n hx hb dL_tells_370 rfl (lv_at hl 6 rfl) ?_
            refine lv_bipush (v := 6) hx hb dL_tells_371 (by decide) ?_
            refine lv_ishr hx hb dL_tells_373 ?_
            refine lv_aload_n hx hb dL_tells_374 rfl (lv_at hl 7 rfl) ?_
            refine lv_bipush (v := 8) hx hb dL_tells_375 (by decide) ?_
            refine lv_iload hx hb dL_tells_377 (lv_at hl 0 rfl) ?_
            refine lv_imul hx hb dL_tells_379 ?_
            refine lv_iconst (v := 3) hx hb dL_tells_380 (by decide) ?_
            refine lv_iadd hx hb dL_tells_381 ?_
            refine xr_ld hC hI 0 (by decide) (show vp_in ((8 * (nI s_)) + 3) 64 from nx_in (nx_add (nx_mul (by decide : (8 : Int32) = nI 8) rfl) (by decide : (3 : Int32) = nI 3)) (by omega) (by decide)) (v := (1 + (fL_low (zv >>> ((4 : Int32) &&& 31)) 20))) ((congrArg ((up L 0 (8 * s_ + 3) (1 + (fL_low (zv >>> ((4 : Int32) &&& 31)) 20))) 0) (nx_ix (x := ((8 * (nI s_)) + 3)) (nx_add (nx_mul (by decide : (8 : Int32) = nI 8) rfl) (by decide : (3 : Int32) = nI 3)) (by omega))).trans (up_at _ _ _ _)) dL_tells_382 ?_
            refine lv_iconst (v := 1) hx hb dL_tells_383 (by decide) ?_
            refine lv_iadd hx hb dL_tells_384 ?_
            refine xr_callS (As := [.int (zv >>> ((6 : Int32) &&& 31)), .int ((1 + (fL_low (zv >>> ((4 : Int32) &&& 31)) 20)) + 1)]) (rest := [.int ((8 * (nI s_)) + 4), .ref (la 0)]) hC hI (qL_low l (zv >>> ((6 : Int32) &&& 31)) ((1 + (fL_low (zv >>> ((4 : Int32) &&& 31)) 20)) + 1) (low2_ne _)) (va_cwS 2 hts gL_tells_L_low rfl rfl rfl (by decide +kernel) ⟨Nat.le_of_ble_eq_true rfl, Nat.le_of_ble_eq_true rfl⟩) rfl hl.1 rfl (Nat.le_of_ble_eq_true rfl) dL_tells_385 ⟨Nat.le_of_ble_eq_true rfl, Nat.le_of_ble_eq_true rfl⟩ (fun H locs hI => ?_)
            refine xr_st hC hK hI 0 (by decide) (show vp_in ((8 * (nI s_)) + 4) 64 from nx_in (nx_add (nx_mul (by decide : (8 : Int32) = nI 8) rfl) (by decide : (4 : Int32) = nI 4)) (by omega) (by decide)) (n := (8 * s_ + 4)) (nx_ix (x := ((8 * (nI s_)) + 4)) (nx_add (nx_mul (by decide : (8 : Int32) = nI 8) rfl) (by decide : (4 : Int32) = nI 4)) (by omega)) dL_tells_388 (fun H locs hI => ?_)
            refine lv_aload_n hx hb dL_tells_389 rfl (lv_at hl 4 rfl) ?_
            refine lv_iload hx hb dL_tells_390 (lv_at hl 0 rfl) ?_
            refine lv_aload_n hx hb dL_tells_392 rfl (lv_at hl 7 rfl) ?_
            refine lv_bipush (v := 8) hx hb dL_tells_393 (by decide) ?_
            refine lv_iload hx hb dL_tells_395 (lv_at hl 0 rfl) ?_
            refine lv_imul hx hb dL_tells_397 ?_
            refine lv_iconst (v := 3) hx hb dL_tells_398 (by decide) ?_
            refine lv_iadd hx hb dL_tells_399 ?_
            refine xr_ld hC hI 0 (by decide) (show vp_in ((8 * (nI s_)) + 3) 64 from nx_in (nx_add (nx_mul (by decide : (8 : Int32) = nI 8) rfl) (by decide : (3 : Int32) = nI 3)) (by omega) (by decide)) (v := ((up (up L 0 (8 * s_ + 3) (1 + (fL_low (zv >>> ((4 : Int32) &&& 31)) 20))) 0 (8 * s_ + 4) (fL_low (zv >>> ((6 : Int32) &&& 31)) ((1 + (fL_low (zv >>> ((4 : Int32) &&& 31)) 20)) + 1))) 0 (8 * s_ + 3))) (congrArg ((up (up L 0 (8 * s_ + 3) (1 + (fL_low (zv >>> ((4 : Int32) &&& 31)) 20))) 0 (8 * s_ + 4) (fL_low (zv >>> ((6 : Int32) &&& 31)) ((1 + (fL_low (zv >>> ((4 : Int32) &&& 31)) 20)) + 1))) 0) (nx_ix (x := ((8 * (nI s_)) + 3)) (nx_add (nx_mul (by decide : (8 : Int32) = nI 8) rfl) (by decide : (3 : Int32) = nI 3)) (by omega))) dL_tells_400 ?_
            refine lv_aload_n hx hb dL_tells_401 rfl (lv_at hl 7 rfl) ?_
            refine lv_bipush (v := 8) hx hb dL_tells_402 (by decide) ?_
            refine lv_iload hx hb dL_tells_404 (lv_at hl 0 rfl) ?_
            refine lv_imul hx hb dL_tells_406 ?_
            refine lv_iconst (v := 4) hx hb dL_tells_407 (by decide) ?_
            refine lv_iadd hx hb dL_tells_408 ?_
            refine xr_ld hC hI 0 (by decide) (show vp_in ((8 * (nI s_)) + 4) 64 from nx_in (nx_add (nx_mul (by decide : (8 : Int32) = nI 8) rfl) (by decide : (4 : Int32) = nI 4)) (by omega) (by decide)) (v := (fL_low (zv >>> ((6 : Int32) &&& 31)) ((1 + (fL_low (zv >>> ((4 : Int32) &&& 31)) 20)) + 1))) ((congrArg ((up (up L 0 (8 * s_ + 3) (1 + (fL_low (zv >>> ((4 : Int32) &&& 31)) 20))) 0 (8 * s_ + 4) (fL_low (zv >>> ((6 : Int32) &&& 31)) ((1 + (fL_low (zv >>> ((4 : Int32) &&& 31)) 20)) + 1))) 0) (nx_ix (x := ((8 * (nI s_)) + 4)) (nx_add (nx_mul (by decide : (8 : Int32) = nI 8) rfl) (by decide : (4 : Int32) = nI 4)) (by omega))).trans (up_at _ _ _ _)) dL_tells_409 ?_
            have hok : (xq7 S 14 (nI s_) ((up (up L 0 (8 * s_ + 3) (1 + (fL_low (zv >>> ((4 : Int32) &&& 31)) 20))) 0 (8 * s_ + 4) (fL_low (zv >>> ((6 : Int32) &&& 31)) ((1 + (fL_low (zv >>> ((4 : Int32) &&& 31)) 20)) + 1))) 0 (8 * s_ + 3)) (fL_low (zv >>> ((6 : Int32) &&& 31)) ((1 + (fL_low (zv >>> ((4 : Int32) &&& 31)) 20)) + 1))).2.1 = 0 ∧ (xq7 S 14 (nI s_) ((up (up L 0 (8 * s_ + 3) (1 + (fL_low (zv >>> ((4 : Int32) &&& 31)) 20))) 0 (8 * s_ + 4) (fL_low (zv >>> ((6 : Int32) &&& 31)) ((1 + (fL_low (zv >>> ((4 : Int32) &&& 31)) 20)) + 1))) 0 (8 * s_ + 3)) (fL_low (zv >>> ((6 : Int32) &&& 31)) ((1 + (fL_low (zv >>> ((4 : Int32) &&& 31)) 20)) + 1))).1 = 0 := XOK.d (by have h9 := hOK; rw [hG] at h9; exact h9) (by decide)
            refine xr_qv (As := [.int (nI s_), .int ((up (up L 0 (8 * s_ + 3) (1 + (fL_low (zv >>> ((4 : Int32) &&& 31)) 20))) 0 (8 * s_ + 4) (fL_low (zv >>> ((6 : Int32) &&& 31)) ((1 + (fL_low (zv >>> ((4 : Int32) &&& 31)) 20)) + 1))) 0 (8 * s_ + 3)), .int (fL_low (zv >>> ((6 : Int32) &&& 31)) ((1 + (fL_low (zv >>> ((4 : Int32) &&& 31)) 20)) + 1))]) (rest := []) 14 (nI s_) ((up (up L 0 (8 * s_ + 3) (1 + (fL_low (zv >>> ((4 : Int32) &&& 31)) 20))) 0 (8 * s_ + 4) (fL_low (zv >>> ((6 : Int32) &&& 31)) ((1 + (fL_low (zv >>> ((4 : Int32) &&& 31)) 20)) + 1))) 0 (8 * s_ + 3)) (fL_low (zv >>> ((6 : Int32) &&& 31)) ((1 + (fL_low (zv >>> ((4 : Int32) &&& 31)) 20)) + 1)) hC hK hI (qX7_sample l hC.2.1 A D cy g hK.1 S e0 hK.v (nI s_) ((up (up L 0 (8 * s_ + 3) (1 + (fL_low (zv >>> ((4 : Int32) &&& 31)) 20))) 0 (8 * s_ + 4) (fL_low (zv >>> ((6 : Int32) &&& 31)) ((1 + (fL_low (zv >>> ((4 : Int32) &&& 31)) 20)) + 1))) 0 (8 * s_ + 3)) (fL_low (zv >>> ((6 : Int32) &&& 31)) ((1 + (fL_low (zv >>> ((4 : Int32) &&& 31)) 20)) + 1))) (k7_sample S (nI s_) ((up (up L 0 (8 * s_ + 3) (1 + (fL_low (zv >>> ((4 : Int32) &&& 31)) 20))) 0 (8 * s_ + 4) (fL_low (zv >>> ((6 : Int32) &&& 31)) ((1 + (fL_low (zv >>> ((4 : Int32) &&& 31)) 20)) + 1))) 0 (8 * s_ + 3)) (fL_low (zv >>> ((6 : Int32) &&& 31)) ((1 + (fL_low (zv >>> ((4 : Int32) &&& 31)) 20)) + 1))) hok.1 (cwV 3 hts gL_tells_X7_sample rfl rfl rfl (by decide +kernel) ⟨Nat.le_of_ble_eq_true rfl, Nat.le_of_ble_eq_true rfl⟩) rfl hl.1 rfl (Nat.le_of_ble_eq_true rfl) dL_tells_410 ⟨Nat.le_of_ble_eq_true rfl, Nat.le_of_ble_eq_true rfl⟩ (fun H locs hK hI => ?_)
            refine lv_iconst (v := 1) hx hb dL_tells_413 (by decide) ?_
            refine W.widen (k := 8) (n := 342) (Nat.le_of_ble_eq_true rfl) (Nat.le_of_ble_eq_true rfl) ?_
            exact W.zret (v := 1) (ty := .boolean) hx hb hr rfl (fun t9 ht9 hW9 => ⟨⟨1, g, rfl, ⟨rfl, by rw [hG]; exact hK⟩, ⟨by rw [hG, ht9]; exact hI.1, by rw [hG, ht9]; exact hI.2.1⟩⟩, hI.2.2.1.F ht9⟩) hI.2.2.1.2.2 dL_tells_414
        · have hG := hG.trans (if_pos c_5)
          refine lv_aload hx hb dL_tells_237 (lv_at hl 16 rfl) ?_
          refine lv_iconst (v := 2) hx hb dL_tells_239 (by decide) ?_
          refine xr_ld hC hI 11 (by decide) (nx_in (by decide : (2 : Int32) = nI 2) (by decide) (by decide)) (v := (L 11 2)) (congrArg (L 11) (by decide : ix 2 = 2)) dL_tells_240 ?_
          refine lv_bipush (v := 40) hx hb dL_tells_241 (by decide) ?_
          refine lv_icmp_ge (tgt := 250) hx hb dL_tells_243 (by decide) (fun c_32 => ?_) (fun c_32 => ?_)
          · have hG := hG.trans (if_pos c_32)
            refine lv_iconst (v := 0) hx hb dL_tells_250 (by decide) ?_
            refine lv_istore (lv' := [(17, .int 0), (16, .int (nI s_)), (15, .int (nI b)), (14, .int (nI t)), (13, .int (nI f)), (0, .ref x0), (1, .int act), (2, .int zv), (3, .ref (la 0)), (4, .ref (la 1)), (5, .ref (la 2)), (6, .ref (la 3)), (7, .ref (la 4)), (8, .ref (la 5)), (9, .ref (la 6)), (10, .ref (la 7)), (11, .ref (la 9)), (12, .ref (la 11))]) hx hb dL_tells_251 hl (by decide) rfl (fun ls hl => ?_)
            refine lv_iconst (v := 1) hx hb dL_tells_253 (by decide) ?_
            refine lv_iload_n hx hb dL_tells_254 rfl (lv_at hl 7 rfl) ?_
            refine lv_iconst (v := 5) hx hb dL_tells_255 (by decide) ?_
            refine lv_ishr hx hb dL_tells_256 ?_
            refine lv_sipush (v := 9999) hx hb dL_tells_257 (by decide) ?_
            refine xr_callS (As := [.int (zv >>> ((5 : Int32) &&& 31)), .int 9999]) (rest := [.int 1]) hC hI (qL_low l (zv >>> ((5 : Int32) &&& 31)) 9999 (by decide)) (va_cwS 2 hts gL_tells_L_low rfl rfl rfl (by decide +kernel) ⟨Nat.le_of_ble_eq_true rfl, Nat.le_of_ble_eq_true rfl⟩) rfl hl.1 rfl (Nat.le_of_ble_eq_true rfl) dL_tells_260 ⟨Nat.le_of_ble_eq_true rfl, Nat.le_of_ble_eq_true rfl⟩ (fun H locs hI => ?_)
            refine lv_iadd hx hb dL_tells_263 ?_
            refine lv_istore (lv' := [(18, .int (1 + (fL_low (zv >>> ((5 : Int32) &&& 31)) 9999))), (17, .int 0), (16, .int (nI s_)), (15, .int (nI b)), (14, .int (nI t)), (13, .int (nI f)), (0, .ref x0), (1, .int act), (2, .int zv), (3, .ref (la 0)), (4, .ref (la 1)), (5, .ref (la 2)), (6, .ref (la 3)), (7, .ref (la 4)), (8, .ref (la 5)), (9, .ref (la 6)), (10, .ref (la 7)), (11, .ref (la 9)), (12, .ref (la 11))]) hx hb dL_tells_264 hl (by decide) rfl (fun ls hl => ?_)
            refine lv_iload hx hb dL_tells_266 (lv_at hl 1 rfl) ?_
            refine lv_if_eq (tgt := 302) hx hb dL_tells_268 (by decide) (fun _ => ?_) (fun c => absurd (by decide : (0 : Int32) = 0) c)
            refine lv_aload_n hx hb dL_tells_302 rfl (lv_at hl 6 rfl) ?_
            refine lv_iconst (v := 0) hx hb dL_tells_303 (by decide) ?_
            refine lv_iload hx hb dL_tells_304 (lv_at hl 2 rfl) ?_
            refine lv_iload hx hb dL_tells_306 (lv_at hl 0 rfl) ?_
            refine lv_iconst (v := 0) hx hb dL_tells_308 (by decide) ?_
            have hok : ((xq7 S 0 (nI s_) (1 + (fL_low (zv >>> ((5 : Int32) &&& 31)) 9999)) 0).2.1 = 0 ∨ (xq7 S 0 (nI s_) (1 + (fL_low (zv >>> ((5 : Int32) &&& 31)) 9999)) 0).2.1 = 3) ∧ (if (xq7 S 0 (nI s_) (1 + (fL_low (zv >>> ((5 : Int32) &&& 31)) 9999)) 0).2.1 = 0 then (xq7 S 0 (nI s_) (1 + (fL_low (zv >>> ((5 : Int32) &&& 31)) 9999)) 0).1 else -1003) = (-1003) := XOK.c (by have h9 := hOK; rw [hG] at h9; exact h9) (by decide)
            refine xr_cs (As := [.ref x0, .int 0, .int (nI s_), .int (1 + (fL_low (zv >>> ((5 : Int32) &&& 31)) 9999)), .int 0]) (rest := []) 0 (nI s_) (1 + (fL_low (zv >>> ((5 : Int32) &&& 31)) 9999)) 0 hC hK hI (qC_claim l hC.2.1 A D cy g hK.1 S e0 mi n0 hK.2.2.2.1 hK.v hK.i x0 hK.2.2.2.2.2.2.2 (nI s_) (1 + (fL_low (zv >>> ((5 : Int32) &&& 31)) 9999)) 0 hok.1) (vx_cwSW 5 hts gL_tells_L_calls rfl rfl rfl (by decide +kernel) ⟨Nat.le_of_ble_eq_true rfl, Nat.le_of_ble_eq_true rfl⟩) rfl hl.1 rfl (Nat.le_of_ble_eq_true rfl) dL_tells_309 ⟨Nat.le_of_ble_eq_true rfl, Nat.le_of_ble_eq_true rfl⟩ (fun g H locs hK hI => ?_)
            refine lv_iload hx hb dL_tells_312 (lv_at hl 1 rfl) ?_
            refine lv_if_eq (tgt := 326) hx hb dL_tells_314 (by decide) (fun _ => ?_) (fun c => absurd (by decide : (0 : Int32) = 0) c)
            refine lv_sipush (v := (-1003)) hx hb dL_tells_326 (by decide) ?_
            refine lv_icmp_ne (tgt := 336) hx hb dL_tells_329 (by decide) (fun c9 => absurd hok.2 c9) (fun _ => ?_)
            refine lv_iconst (v := 1) hx hb dL_tells_332 (by decide) ?_
            refine lv_goto (tgt := 337) hx hb dL_tells_333 (by decide) ?_
            refine W.widen (k := 8) (n := 342) (Nat.le_of_ble_eq_true rfl) (Nat.le_of_ble_eq_true rfl) ?_
            exact W.zret (v := 1) (ty := .boolean) hx hb hr rfl (fun t9 ht9 hW9 => ⟨⟨1, g, rfl, ⟨rfl, by rw [hG]; exact hK⟩, ⟨by rw [hG, ht9]; exact hI.1, by rw [hG, ht9]; exact hI.2.1⟩⟩, hI.2.2.1.F ht9⟩) hI.2.2.1.2.2 dL_tells_337
          · have hG := hG.trans (if_neg c_32)
            refine lv_iconst (v := 1) hx hb dL_tells_246 (by decide) ?_
            refine lv_goto (tgt := 251) hx hb dL_tells_247 (by decide) ?_
            refine lv_istore (lv' := [(17, .int 1), (16, .int (nI s_)), (15, .int (nI b)), (14, .int (nI t)), (13, .int (nI f)), (0, .ref x0), (1, .int act), (2, .int zv), (3, .ref (la 0)), (4, .ref (la 1)), (5, .ref (la 2)), (6, .ref (la 3)), (7, .ref (la 4)), (8, .ref (la 5)), (9, .ref (la 6)), (10, .ref (la 7)), (11, .ref (la 9)), (12, .ref (la 11))]) hx hb dL_tells_251 hl (by decide) rfl (fun ls hl => ?_)
            refine lv_iconst (v := 1) hx hb dL_tells_253 (by decide) ?_
            refine lv_iload_n hx hb dL_tells_254 rfl (lv_at hl 7 rfl) ?_
            refine lv_iconst (v := 5) hx hb dL_tells_255 (by decide) ?_
            refine lv_ishr hx hb dL_tells_256 ?_
            refine lv_sipush (v := 9999) hx hb dL_tells_257 (by decide) ?_
            refine xr_callS (As := [.int (zv >>> ((5 : Int32) &&& 31)), .int 9999]) (rest := [.int 1]) hC hI (qL_low l (zv >>> ((5 : Int32) &&& 31)) 9999 (by decide)) (va_cwS 2 hts gL_tells_L_low rfl rfl rfl (by decide +kernel) ⟨Nat.le_of_ble_eq_true rfl, Nat.le_of_ble_eq_true rfl⟩) rfl hl.1 rfl (Nat.le_of_ble_eq_true rfl) dL_tells_260 ⟨Nat.le_of_ble_eq_true rfl, Nat.le_of_ble_eq_true rfl⟩ (fun H locs hI => ?_)
            refine lv_iadd hx hb dL_tells_263 ?_
            refine lv_istore (lv' := [(18, .int (1 + (fL_low (zv >>> ((5 : Int32) &&& 31)) 9999))), (17, .int 1), (16, .int (nI s_)), (15, .int (nI b)), (14, .int (nI t)), (13, .int (nI f)), (0, .ref x0), (1, .int act), (2, .int zv), (3, .ref (la 0)), (4, .ref (la 1)), (5, .ref (la 2)), (6, .ref (la 3)), (7, .ref (la 4)), (8, .ref (la 5)), (9, .ref (la 6)), (10, .ref (la 7)), (11, .ref (la 9)), (12, .ref (la 11))]) hx hb dL_tells_264 hl (by decide) rfl (fun ls hl => ?_)
            refine lv_iload hx hb dL_tells_266 (lv_at hl 1 rfl) ?_
            refine lv_if_eq (tgt := 302) hx hb dL_tells_268 (by decide) (fun c => absurd c (by decide : ¬ (1 : Int32) = 0)) (fun _ => ?_)
            refine lv_aload hx hb dL_tells_271 (lv_at hl 10 rfl) ?_
            refine lv_aload hx hb dL_tells_273 (lv_at hl 18 rfl) ?_
            refine lv_iconst (v := 2) hx hb dL_tells_275 (by decide) ?_
            refine xr_ld hC hI 11 (by decide) (nx_in (by decide : (2 : Int32) = nI 2) (by decide) (by decide)) (v := (L 11 2)) (congrArg (L 11) (by decide : ix 2 = 2)) dL_tells_276 ?_
            refine lv_iload hx hb dL_tells_277 (lv_at hl 2 rfl) ?_
            refine lv_bipush (v := 8) hx hb dL_tells_279 (by decide) ?_
            refine lv_iload hx hb dL_tells_281 (lv_at hl 0 rfl) ?_
            refine lv_imul hx hb dL_tells_283 ?_
            refine lv_iadd hx hb dL_tells_284 ?_
            refine lv_ldc hx hb hown k_76 dL_tells_285 ?_
            refine lv_aload hx hb dL_tells_287 (lv_at hl 18 rfl) ?_
            refine lv_iconst (v := 0) hx hb dL_tells_289 (by decide) ?_
            refine xr_ld hC hI 11 (by decide) (nx_in (by decide : (0 : Int32) = nI 0) (by decide) (by decide)) (v := (L 11 0)) (congrArg (L 11) (by decide : ix 0 = 0)) dL_tells_290 ?_
            refine lv_imul hx hb dL_tells_291 ?_
            refine lv_iadd hx hb dL_tells_292 ?_
            refine xr_st hC hK hI 1 (by decide) (show vp_in (L 11 2) 40 from nx_in hV.n2 (by have h90 := lt_40 hV.n2 hV.b2 (by assumption); omega) (by decide)) (n := (q2 L)) (nx_ix (x := (L 11 2)) hV.n2 (by have h90 := lt_40 hV.n2 hV.b2 (by assumption); omega)) dL_tells_293 (fun H locs hI => ?_)
            refine lv_aload hx hb dL_tells_294 (lv_at hl 18 rfl) ?_
            refine lv_iconst (v := 2) hx hb dL_tells_296 (by decide) ?_
            refine lv_dup2_11 hx hb dL_tells_297 rfl rfl ?_
            refine xr_ld hC hI 11 (by decide) (nx_in (by decide : (2 : Int32) = nI 2) (by decide) (by decide)) (v := (L 11 2)) ((congrArg ((up L 1 (q2 L) (((nI s_) + (8 * (1 + (fL_low (zv >>> ((5 : Int32) &&& 31)) 9999)))) + (131072 * (L 11 0)))) 11) (by decide : ix 2 = 2)).trans (congrFun (up_ne (by decide)) _)) dL_tells_298 ?_
            refine lv_iconst (v := 1) hx hb dL_tells_299 (by decide) ?_
            refine lv_iadd hx hb dL_tells_300 ?_
            refine xr_st hC hK hI 11 (by decide) (nx_in (by decide : (2 : Int32) = nI 2) (by decide) (by decide)) (n := 2) (by decide : ix 2 = 2) dL_tells_301 (fun H locs hI => ?_)
            refine lv_aload_n hx hb dL_tells_302 rfl (lv_at hl 6 rfl) ?_
            refine lv_iconst (v := 0) hx hb dL_tells_303 (by decide) ?_
            refine lv_iload hx hb dL_tells_304 (lv_at hl 2 rfl) ?_
            refine lv_iload hx hb dL_tells_306 (lv_at hl 0 rfl) ?_
            refine lv_iconst (v := 0) hx hb dL_tells_308 (by decide) ?_
            have hok : ((xq7 S 0 (nI s_) (1 + (fL_low (zv >>> ((5 : Int32) &&& 31)) 9999)) 0).2.1 = 0 ∨ (xq7 S 0 (nI s_) (1 + (fL_low (zv >>> ((5 : Int32) &&& 31)) 9999)) 0).2.1 = 3) ∧ (if (xq7 S 0 (nI s_) (1 + (fL_low (zv >>> ((5 : Int32) &&& 31)) 9999)) 0).2.1 = 0 then (xq7 S 0 (nI s_) (1 + (fL_low (zv >>> ((5 : Int32) &&& 31)) 9999)) 0).1 else -1003) = (((L 11 2) + 1) - 1) := XOK.c (by have h9 := hOK; rw [hG] at h9; exact h9) (by decide)
            refine xr_cs (As := [.ref x0, .int 0, .int (nI s_), .int (1 + (fL_low (zv >>> ((5 : Int32) &&& 31)) 9999)), .int 0]) (rest := []) 0 (nI s_) (1 + (fL_low (zv >>> ((5 : Int32) &&& 31)) 9999)) 0 hC hK hI (qC_claim l hC.2.1 A D cy g hK.1 S e0 mi n0 hK.2.2.2.1 hK.v hK.i x0 hK.2.2.2.2.2.2.2 (nI s_) (1 + (fL_low (zv >>> ((5 : Int32) &&& 31)) 9999)) 0 hok.1) (vx_cwSW 5 hts gL_tells_L_calls rfl rfl rfl (by decide +kernel) ⟨Nat.le_of_ble_eq_true rfl, Nat.le_of_ble_eq_true rfl⟩) rfl hl.1 rfl (Nat.le_of_ble_eq_true rfl) dL_tells_309 ⟨Nat.le_of_ble_eq_true rfl, Nat.le_of_ble_eq_true rfl⟩ (fun g H locs hK hI => ?_)
            refine lv_iload hx hb dL_tells_312 (lv_at hl 1 rfl) ?_
            refine lv_if_eq (tgt := 326) hx hb dL_tells_314 (by decide) (fun c => absurd c (by decide : ¬ (1 : Int32) = 0)) (fun _ => ?_)
            refine lv_aload hx hb dL_tells_317 (lv_at hl 18 rfl) ?_
            refine lv_iconst (v := 2) hx hb dL_tells_319 (by decide) ?_
            refine xr_ld hC hI 11 (by decide) (nx_in (by decide : (2 : Int32) = nI 2) (by decide) (by decide)) (v := ((L 11 2) + 1)) ((congrArg ((up (up L 1 (q2 L) (((nI s_) + (8 * (1 + (fL_low (zv >>> ((5 : Int32) &&& 31)) 9999)))) + (131072 * (L 11 0)))) 11 2 ((L 11 2) + 1)) 11) (by decide : ix 2 = 2)).trans (up_at _ _ _ _)) dL_tells_320 ?_
            refine lv_iconst (v := 1) hx hb dL_tells_321 (by decide) ?_
            refine lv_isub hx hb dL_tells_322 ?_
            refine lv_goto (tgt := 329) hx hb dL_tells_323 (by decide) ?_
            refine lv_icmp_ne (tgt := 336) hx hb dL_tells_329 (by decide) (fun c9 => absurd hok.2 c9) (fun _ => ?_)
            refine lv_iconst (v := 1) hx hb dL_tells_332 (by decide) ?_
            refine lv_goto (tgt := 337) hx hb dL_tells_333 (by decide) ?_
            refine W.widen (k := 8) (n := 342) (Nat.le_of_ble_eq_true rfl) (Nat.le_of_ble_eq_true rfl) ?_
            exact W.zret (v := 1) (ty := .boolean) hx hb hr rfl (fun t9 ht9 hW9 => ⟨⟨1, g, rfl, ⟨rfl, by rw [hG]; exact hK⟩, ⟨by rw [hG, ht9]; exact hI.1, by rw [hG, ht9]; exact hI.2.1⟩⟩, hI.2.2.1.F ht9⟩) hI.2.2.1.2.2 dL_tells_337
      · have hG := hG.trans (if_pos c_4)
        refine lv_aload hx hb dL_tells_105 (lv_at hl 15 rfl) ?_
        refine lv_iconst (v := 1) hx hb dL_tells_107 (by decide) ?_
        refine xr_ld hC hI 11 (by decide) (nx_in (by decide : (1 : Int32) = nI 1) (by decide) (by decide)) (v := (L 11 1)) (congrArg (L 11) (by decide : ix 1 = 1)) dL_tells_108 ?_
        refine lv_bipush (v := 8) hx hb dL_tells_109 (by decide) ?_
        refine lv_icmp_ne (tgt := 116) hx hb dL_tells_111 (by decide) (fun c_33 => ?_) (fun c_33 => ?_)
        · have hG := hG.trans (if_neg c_33)
          refine lv_aload hx hb dL_tells_116 (lv_at hl 15 rfl) ?_
          refine lv_iconst (v := 1) hx hb dL_tells_118 (by decide) ?_
          refine xr_ld hC hI 11 (by decide) (nx_in (by decide : (1 : Int32) = nI 1) (by decide) (by decide)) (v := (L 11 1)) (congrArg (L 11) (by decide : ix 1 = 1)) dL_tells_119 ?_
          refine lv_istore (lv' := [(16, .int (L 11 1)), (15, .int (nI b)), (14, .int (nI t)), (13, .int (nI f)), (0, .ref x0), (1, .int act), (2, .int zv), (3, .ref (la 0)), (4, .ref (la 1)), (5, .ref (la 2)), (6, .ref (la 3)), (7, .ref (la 4)), (8, .ref (la 5)), (9, .ref (la 6)), (10, .ref (la 7)), (11, .ref (la 9)), (12, .ref (la 11))]) hx hb dL_tells_120 hl (by decide) rfl (fun ls hl => ?_)
          refine lv_aload hx hb dL_tells_122 (lv_at hl 16 rfl) ?_
          refine lv_iconst (v := 1) hx hb dL_tells_124 (by decide) ?_
          refine lv_dup2_11 hx hb dL_tells_125 rfl rfl ?_
          refine xr_ld hC hI 11 (by decide) (nx_in (by decide : (1 : Int32) = nI 1) (by decide) (by decide)) (v := (L 11 1)) (congrArg (L 11) (by decide : ix 1 = 1)) dL_tells_126 ?_
          refine lv_iconst (v := 1) hx hb dL_tells_127 (by decide) ?_
          refine lv_iadd hx hb dL_tells_128 ?_
          refine xr_st hC hK hI 11 (by decide) (nx_in (by decide : (1 : Int32) = nI 1) (by decide) (by decide)) (n := 1) (by decide : ix 1 = 1) dL_tells_129 (fun H locs hI => ?_)
          refine lv_aload_n hx hb dL_tells_130 rfl (lv_at hl 7 rfl) ?_
          refine lv_bipush (v := 8) hx hb dL_tells_131 (by decide) ?_
          refine lv_iload hx hb dL_tells_133 (lv_at hl 0 rfl) ?_
          refine lv_imul hx hb dL_tells_135 ?_
          refine lv_iload hx hb dL_tells_136 (lv_at hl 3 rfl) ?_
          refine xr_st hC hK hI 0 (by decide) (show vp_in (8 * (L 11 1)) 64 from nx_in (nx_mul (by decide : (8 : Int32) = nI 8) hV.n1) (by have h90 := ne_8 hV.n1 hV.b1 (by assumption); omega) (by decide)) (n := (8 * (q1 L))) (nx_ix (x := (8 * (L 11 1))) (nx_mul (by decide : (8 : Int32) = nI 8) hV.n1) (by have h90 := ne_8 hV.n1 hV.b1 (by assumption); omega)) dL_tells_138 (fun H locs hI => ?_)
          refine lv_aload_n hx hb dL_tells_139 rfl (lv_at hl 7 rfl) ?_
          refine lv_bipush (v := 8) hx hb dL_tells_140 (by decide) ?_
          refine lv_iload hx hb dL_tells_142 (lv_at hl 0 rfl) ?_
          refine lv_imul hx hb dL_tells_144 ?_
          refine lv_iconst (v := 1) hx hb dL_tells_145 (by decide) ?_
          refine lv_iadd hx hb dL_tells_146 ?_
          refine lv_iconst (v := 1) hx hb dL_tells_147 (by decide) ?_
          refine lv_iload_n hx hb dL_tells_148 rfl (lv_at hl 6 rfl) ?_
          refine lv_iconst (v := 3) hx hb dL_tells_149 (by decide) ?_
          refine lv_ishr hx hb dL_tells_150 ?_
          refine lv_sipush (v := 255) hx hb dL_tells_151 (by decide) ?_
          refine xr_callS (As := [.int (zv >>> ((3 : Int32) &&& 31)), .int 255]) (rest := [.int 1, .int ((8 * (L 11 1)) + 1), .ref (la 0)]) hC hI (qL_low l (zv >>> ((3 : Int32) &&& 31)) 255 (by decide)) (va_cwS 2 hts gL_tells_L_low rfl rfl rfl (by decide +kernel) ⟨Nat.le_of_ble_eq_true rfl, Nat.le_of_ble_eq_true rfl⟩) rfl hl.1 rfl (Nat.le_of_ble_eq_true rfl) dL_tells_154 ⟨Nat.le_of_ble_eq_true rfl, Nat.le_of_ble_eq_true rfl⟩ (fun H locs hI => ?_)
          refine lv_iadd hx hb dL_tells_157 ?_
          refine xr_st hC hK hI 0 (by decide) (show vp_in ((8 * (L 11 1)) + 1) 64 from nx_in (nx_add (nx_mul (by decide : (8 : Int32) = nI 8) hV.n1) (by decide : (1 : Int32) = nI 1)) (by have h90 := ne_8 hV.n1 hV.b1 (by assumption); omega) (by decide)) (n := (8 * (q1 L) + 1)) (nx_ix (x := ((8 * (L 11 1)) + 1)) (nx_add (nx_mul (by decide : (8 : Int32) = nI 8) hV.n1) (by decide : (1 : Int32) = nI 1)) (by have h90 := ne_8 hV.n1 hV.b1 (by assumption); omega)) dL_tells_158 (fun H locs hI => ?_)
          refine lv_aload_n hx hb dL_tells_159 rfl (lv_at hl 7 rfl) ?_
          refine lv_bipush (v := 8) hx hb dL_tells_160 (by decide) ?_
          refine lv_iload hx hb dL_tells_162 (lv_at hl 0 rfl) ?_
          refine lv_imul hx hb dL_tells_164 ?_
          refine lv_iconst (v := 2) hx hb dL_tells_165 (by decide) ?_
          refine lv_iadd hx hb dL_tells_166 ?_
          refine lv_iload_n hx hb dL_tells_167 rfl (lv_at hl 6 rfl) ?_
          refine lv_iconst (v := 5) hx hb dL_tells_168 (by decide) ?_
          refine lv_ishr hx hb dL_tells_169 ?_
          refine lv_iconst (v := 3) hx hb dL_tells_170 (by decide) ?_
          refine xr_callS (As := [.int (zv >>> ((5 : Int32) &&& 31)), .int 3]) (rest := [.int ((8 * (L 11 1)) + 2), .ref (la 0)]) hC hI (qL_low l (zv >>> ((5 : Int32) &&& 31)) 3 (by decide)) (va_cwS 2 hts gL_tells_L_low rfl rfl rfl (by decide +kernel) ⟨Nat.le_of_ble_eq_true rfl, Nat.le_of_ble_eq_true rfl⟩) rfl hl.1 rfl (Nat.le_of_ble_eq_true rfl) dL_tells_171 ⟨Nat.le_of_ble_eq_true rfl, Nat.le_of_ble_eq_true rfl⟩ (fun H locs hI => ?_)
          refine xr_st hC hK hI 0 (by decide) (show vp_in ((8 * (L 11 1)) + 2) 64 from nx_in (nx_add (nx_mul (by decide : (8 : Int32) = nI 8) hV.n1) (by decide : (2 : Int32) = nI 2)) (by have h90 := ne_8 hV.n1 hV.b1 (by assumption); omega) (by decide)) (n := (8 * (q1 L) + 2)) (nx_ix (x := ((8 * (L 11 1)) + 2)) (nx_add (nx_mul (by decide : (8 : Int32) = nI 8) hV.n1) (by decide : (2 : Int32) = nI 2)) (by have h90 := ne_8 hV.n1 hV.b1 (by assumption); omega)) dL_tells_174 (fun H locs hI => ?_)
          refine lv_aload_n hx hb dL_tells_175 rfl (lv_at hl 7 rfl) ?_
          refine lv_bipush (v := 8) hx hb dL_tells_176 (by decide) ?_
          refine lv_iload hx hb dL_tells_178 (lv_at hl 0 rfl) ?_
          refine lv_imul hx hb dL_tells_180 ?_
          refine lv_iconst (v := 3) hx hb dL_tells_181 (by decide) ?_
          refine lv_iadd hx hb dL_tells_182 ?_
          refine lv_iconst (v := 1) hx hb dL_tells_183 (by decide) ?_
          refine xr_st hC hK hI 0 (by decide) (show vp_in ((8 * (L 11 1)) + 3) 64 from nx_in (nx_add (nx_mul (by decide : (8 : Int32) = nI 8) hV.n1) (by decide : (3 : Int32) = nI 3)) (by have h90 := ne_8 hV.n1 hV.b1 (by assumption); omega) (by decide)) (n := (8 * (q1 L) + 3)) (nx_ix (x := ((8 * (L 11 1)) + 3)) (nx_add (nx_mul (by decide : (8 : Int32) = nI 8) hV.n1) (by decide : (3 : Int32) = nI 3)) (by have h90 := ne_8 hV.n1 hV.b1 (by assumption); omega)) dL_tells_184 (fun H locs hI => ?_)
          refine lv_aload_n hx hb dL_tells_185 rfl (lv_at hl 4 rfl) ?_
          refine lv_iload hx hb dL_tells_186 (lv_at hl 3 rfl) ?_
          refine lv_aload_n hx hb dL_tells_188 rfl (lv_at hl 7 rfl) ?_
          refine lv_bipush (v := 8) hx hb dL_tells_189 (by decide) ?_
          refine lv_iload hx hb dL_tells_191 (lv_at hl 0 rfl) ?_
          refine lv_imul hx hb dL_tells_193 ?_
          refine lv_iconst (v := 1) hx hb dL_tells_194 (by decide) ?_
          refine lv_iadd hx hb dL_tells_195 ?_
          refine xr_ld hC hI 0 (by decide) (show vp_in ((8 * (L 11 1)) + 1) 64 from nx_in (nx_add (nx_mul (by decide : (8 : Int32) = nI 8) hV.n1) (by decide : (1 : Int32) = nI 1)) (by have h90 := ne_8 hV.n1 hV.b1 (by assumption); omega) (by decide)) (v := ((up (up (up (up (up L 11 1 ((L 11 1) + 1)) 0 (8 * (q1 L)) (nI f)) 0 (8 * (q1 L) + 1) (1 + (fL_low (zv >>> ((3 : Int32) &&& 31)) 255))) 0 (8 * (q1 L) + 2) (fL_low (zv >>> ((5 : Int32) &&& 31)) 3)) 0 (8 * (q1 L) + 3) 1) 0 (8 * (q1 L) + 1))) (congrArg ((up (up (up (up (up L 11 1 ((L 11 1) + 1)) 0 (8 * (q1 L)) (nI f)) 0 (8 * (q1 L) + 1) (1 + (fL_low (zv >>> ((3 : Int32) &&& 31)) 255))) 0 (8 * (q1 L) + 2) (fL_low (zv >>> ((5 : Int32) &&& 31)) 3)) 0 (8 * (q1 L) + 3) 1) 0) (nx_ix (x := ((8 * (L 11 1)) + 1)) (nx_add (nx_mul (by decide : (8 : Int32) = nI 8) hV.n1) (by decide : (1 : Int32) = nI 1)) (by have h90 := ne_8 hV.n1 hV.b1 (by assumption); omega))) dL_tells_196 ?_
          refine lv_aload_n hx hb dL_tells_197 rfl (lv_at hl 7 rfl) ?_
          refine lv_bipush (v := 8) hx hb dL_tells_198 (by decide) ?_
          refine lv_iload hx hb dL_tells_200 (lv_at hl 0 rfl) ?_
          refine lv_imul hx hb dL_tells_202 ?_
          refine lv_iconst (v := 2) hx hb dL_tells_203 (by decide) ?_
          refine lv_iadd hx hb dL_tells_204 ?_
          refine xr_ld hC hI 0 (by decide) (show vp_in ((8 * (L 11 1)) + 2) 64 from nx_in (nx_add (nx_mul (by decide : (8 : Int32) = nI 8) hV.n1) (by decide : (2 : Int32) = nI 2)) (by have h90 := ne_8 hV.n1 hV.b1 (by assumption); omega) (by decide)) (v := ((up (up (up (up (up L 11 1 ((L 11 1) + 1)) 0 (8 * (q1 L)) (nI f)) 0 (8 * (q1 L) + 1) (1 + (fL_low (zv >>> ((3 : Int32) &&& 31)) 255))) 0 (8 * (q1 L) + 2) (fL_low (zv >>> ((5 : Int32) &&& 31)) 3)) 0 (8 * (q1 L) + 3) 1) 0 (8 * (q1 L) + 2))) (congrArg ((up (up (up (up (up L 11 1 ((L 11 1) + 1)) 0 (8 * (q1 L)) (nI f)) 0 (8 * (q1 L) + 1) (1 + (fL_low (zv >>> ((3 : Int32) &&& 31)) 255))) 0 (8 * (q1 L) + 2) (fL_low (zv >>> ((5 : Int32) &&& 31)) 3)) 0 (8 * (q1 L) + 3) 1) 0) (nx_ix (x := ((8 * (L 11 1)) + 2)) (nx_add (nx_mul (by decide : (8 : Int32) = nI 8) hV.n1) (by decide : (2 : Int32) = nI 2)) (by have h90 := ne_8 hV.n1 hV.b1 (by assumption); omega))) dL_tells_205 ?_
          have hok : (xq7 S 13 (nI f) ((up (up (up (up (up L 11 1 ((L 11 1) + 1)) 0 (8 * (q1 L)) (nI f)) 0 (8 * (q1 L) + 1) (1 + (fL_low (zv >>> ((3 : Int32) &&& 31)) 255))) 0 (8 * (q1 L) + 2) (fL_low (zv >>> ((5 : Int32) &&& 31)) 3)) 0 (8 * (q1 L) + 3) 1) 0 (8 * (q1 L) + 1)) ((up (up (up (up (up L 11 1 ((L 11 1) + 1)) 0 (8 * (q1 L)) (nI f)) 0 (8 * (q1 L) + 1) (1 + (fL_low (zv >>> ((3 : Int32) &&& 31)) 255))) 0 (8 * (q1 L) + 2) (fL_low (zv >>> ((5 : Int32) &&& 31)) 3)) 0 (8 * (q1 L) + 3) 1) 0 (8 * (q1 L) + 2))).2.1 = 0 ∧ (xq7 S 13 (nI f) ((up (up (up (up (up L 11 1 ((L 11 1) + 1)) 0 (8 * (q1 L)) (nI f)) 0 (8 * (q1 L) + 1) (1 + (fL_low (zv >>> ((3 : Int32) &&& 31)) 255))) 0 (8 * (q1 L) + 2) (fL_low (zv >>> ((5 : Int32) &&& 31)) 3)) 0 (8 * (q1 L) + 3) 1) 0 (8 * (q1 L) + 1)) ((up (up (up (up (up L 11 1 ((L 11 1) + 1)) 0 (8 * (q1 L)) (nI f)) 0 (8 * (q1 L) + 1) (1 + (fL_low (zv >>> ((3 : Int32) &&& 31)) 255))) 0 (8 * (q1 L) + 2) (fL_low (zv >>> ((5 : Int32) &&& 31)) 3)) 0 (8 * (q1 L) + 3) 1) 0 (8 * (q1 L) + 2))).1 = (L 11 1) := XOK.d (by have h9 := hOK; rw [hG] at h9; exact h9) (by decide)
          refine xr_mk (As := [.int (nI f), .int ((up (up (up (up (up L 11 1 ((L 11 1) + 1)) 0 (8 * (q1 L)) (nI f)) 0 (8 * (q1 L) + 1) (1 + (fL_low (zv >>> ((3 : Int32) &&& 31)) 255))) 0 (8 * (q1 L) + 2) (fL_low (zv >>> ((5 : Int32) &&& 31)) 3)) 0 (8 * (q1 L) + 3) 1) 0 (8 * (q1 L) + 1)), .int ((up (up (up (up (up L 11 1 ((L 11 1) + 1)) 0 (8 * (q1 L)) (nI f)) 0 (8 * (q1 L) + 1) (1 + (fL_low (zv >>> ((3 : Int32) &&& 31)) 255))) 0 (8 * (q1 L) + 2) (fL_low (zv >>> ((5 : Int32) &&& 31)) 3)) 0 (8 * (q1 L) + 3) 1) 0 (8 * (q1 L) + 2))]) (rest := []) 13 (nI f) ((up (up (up (up (up L 11 1 ((L 11 1) + 1)) 0 (8 * (q1 L)) (nI f)) 0 (8 * (q1 L) + 1) (1 + (fL_low (zv >>> ((3 : Int32) &&& 31)) 255))) 0 (8 * (q1 L) + 2) (fL_low (zv >>> ((5 : Int32) &&& 31)) 3)) 0 (8 * (q1 L) + 3) 1) 0 (8 * (q1 L) + 1)) ((up (up (up (up (up L 11 1 ((L 11 1) + 1)) 0 (8 * (q1 L)) (nI f)) 0 (8 * (q1 L) + 1) (1 + (fL_low (zv >>> ((3 : Int32) &&& 31)) 255))) 0 (8 * (q1 L) + 2) (fL_low (zv >>> ((5 : Int32) &&& 31)) 3)) 0 (8 * (q1 L) + 3) 1) 0 (8 * (q1 L) + 2)) hC hK hI (qX7_scheme l hC.2.1 A D cy g hK.1 S e0 mi n0 hK.2.2.2.1 hK.v hK.i.z (nI f) ((up (up (up (up (up L 11 1 ((L 11 1) + 1)) 0 (8 * (q1 L)) (nI f)) 0 (8 * (q1 L) + 1) (1 + (fL_low (zv >>> ((3 : Int32) &&& 31)) 255))) 0 (8 * (q1 L) + 2) (fL_low (zv >>> ((5 : Int32) &&& 31)) 3)) 0 (8 * (q1 L) + 3) 1) 0 (8 * (q1 L) + 1)) ((up (up (up (up (up L 11 1 ((L 11 1) + 1)) 0 (8 * (q1 L)) (nI f)) 0 (8 * (q1 L) + 1) (1 + (fL_low (zv >>> ((3 : Int32) &&& 31)) 255))) 0 (8 * (q1 L) + 2) (fL_low (zv >>> ((5 : Int32) &&& 31)) 3)) 0 (8 * (q1 L) + 3) 1) 0 (8 * (q1 L) + 2))) hok.1 (cwV 3 hts gL_tells_X7_scheme rfl rfl rfl (by decide +kernel) ⟨Nat.le_of_ble_eq_true rfl, Nat.le_of_ble_eq_true rfl⟩) rfl hl.1 rfl (Nat.le_of_ble_eq_true rfl) dL_tells_206 ⟨Nat.le_of_ble_eq_true rfl, Nat.le_of_ble_eq_true rfl⟩ (fun g H locs hK hI => ?_)
          refine lv_iload hx hb dL_tells_209 (lv_at hl 0 rfl) ?_
          refine lv_icmp_ne (tgt := 218) hx hb dL_tells_211 (by decide) (fun c9 => absurd hok.2 c9) (fun _ => ?_)
          refine lv_iconst (v := 1) hx hb dL_tells_214 (by decide) ?_
          refine lv_goto (tgt := 219) hx hb dL_tells_215 (by decide) ?_
          refine W.widen (k := 8) (n := 342) (Nat.le_of_ble_eq_true rfl) (Nat.le_of_ble_eq_true rfl) ?_
          exact W.zret (v := 1) (ty := .boolean) hx hb hr rfl (fun t9 ht9 hW9 => ⟨⟨1, g, rfl, ⟨rfl, by rw [hG]; exact hK⟩, ⟨by rw [hG, ht9]; exact hI.1, by rw [hG, ht9]; exact hI.2.1⟩⟩, hI.2.2.1.F ht9⟩) hI.2.2.1.2.2 dL_tells_219
        · have hG := hG.trans (if_pos c_33)
          refine lv_iconst (v := 1) hx hb dL_tells_114 (by decide) ?_
          refine W.widen (k := 8) (n := 342) (Nat.le_of_ble_eq_true rfl) (Nat.le_of_ble_eq_true rfl) ?_
          exact W.zret (v := 1) (ty := .boolean) hx hb hr rfl (fun t9 ht9 hW9 => ⟨⟨1, g, rfl, ⟨rfl, by rw [hG]; show XK _ _ _ _ _ _ _ (XS S (99, 0, 0, 0)); rw [XS_99]; exact hK⟩, ⟨by rw [hG, ht9]; show CH _ _ _ (XS S (99, 0, 0, 0)) _; rw [XS_99]; exact hI.1, by rw [hG, ht9]; exact hI.2.1⟩⟩, hI.2.2.1.F ht9⟩) hI.2.2.1.2.2 dL_tells_115
  · have hG := hG.trans (if_pos c_1)
    refine lv_iconst (v := 1) hx hb dL_tells_30 (by decide) ?_
    refine lv_iload_n hx hb dL_tells_31 rfl (lv_at hl 5 rfl) ?_
    refine lv_iconst (v := 3) hx hb dL_tells_32 (by decide) ?_
    refine lv_ishr hx hb dL_tells_33 ?_
    refine lv_sipush (v := 3000) hx hb dL_tells_34 (by decide) ?_
    refine xr_callS (As := [.int (zv >>> ((3 : Int32) &&& 31)), .int 3000]) (rest := [.int 1]) hC hI (qL_low l (zv >>> ((3 : Int32) &&& 31)) 3000 (by decide)) (va_cwS 2 hts gL_tells_L_low rfl rfl rfl (by decide +kernel) ⟨Nat.le_of_ble_eq_true rfl, Nat.le_of_ble_eq_true rfl⟩) rfl hl.1 rfl (Nat.le_of_ble_eq_true rfl) dL_tells_37 ⟨Nat.le_of_ble_eq_true rfl, Nat.le_of_ble_eq_true rfl⟩ (fun H locs hI => ?_)
    refine lv_iadd hx hb dL_tells_40 ?_
    refine lv_istore (lv' := [(16, .int (1 + (fL_low (zv >>> ((3 : Int32) &&& 31)) 3000))), (15, .int (nI b)), (14, .int (nI t)), (13, .int (nI f)), (0, .ref x0), (1, .int act), (2, .int zv), (3, .ref (la 0)), (4, .ref (la 1)), (5, .ref (la 2)), (6, .ref (la 3)), (7, .ref (la 4)), (8, .ref (la 5)), (9, .ref (la 6)), (10, .ref (la 7)), (11, .ref (la 9)), (12, .ref (la 11))]) hx hb dL_tells_41 hl (by decide) rfl (fun ls hl => ?_)
    refine lv_aload hx hb dL_tells_43 (lv_at hl 15 rfl) ?_
    refine lv_iconst (v := 4) hx hb dL_tells_45 (by decide) ?_
    refine lv_iload hx hb dL_tells_46 (lv_at hl 3 rfl) ?_
    refine lv_imul hx hb dL_tells_48 ?_
    refine lv_dup2_11 hx hb dL_tells_49 rfl rfl ?_
    refine xr_ld hC hI 9 (by decide) (show vp_in (4 * (nI f)) 12 from nx_in (nx_mul (by decide : (4 : Int32) = nI 4) rfl) (by omega) (by decide)) (v := (L 9 (4 * f))) (congrArg (L 9) (nx_ix (x := (4 * (nI f))) (nx_mul (by decide : (4 : Int32) = nI 4) rfl) (by omega))) dL_tells_50 ?_
    refine lv_iload hx hb dL_tells_51 (lv_at hl 0 rfl) ?_
    refine lv_iadd hx hb dL_tells_53 ?_
    refine xr_st hC hK hI 9 (by decide) (show vp_in (4 * (nI f)) 12 from nx_in (nx_mul (by decide : (4 : Int32) = nI 4) rfl) (by omega) (by decide)) (n := (4 * f)) (nx_ix (x := (4 * (nI f))) (nx_mul (by decide : (4 : Int32) = nI 4) rfl) (by omega)) dL_tells_54 (fun H locs hI => ?_)
    refine lv_aload hx hb dL_tells_55 (lv_at hl 15 rfl) ?_
    refine lv_iconst (v := 4) hx hb dL_tells_57 (by decide) ?_
    refine lv_iload hx hb dL_tells_58 (lv_at hl 3 rfl) ?_
    refine lv_imul hx hb dL_tells_60 ?_
    refine lv_iconst (v := 1) hx hb dL_tells_61 (by decide) ?_
    refine lv_iadd hx hb dL_tells_62 ?_
    refine lv_dup2_11 hx hb dL_tells_63 rfl rfl ?_
    refine xr_ld hC hI 9 (by decide) (show vp_in ((4 * (nI f)) + 1) 12 from nx_in (nx_add (nx_mul (by decide : (4 : Int32) = nI 4) rfl) (by decide : (1 : Int32) = nI 1)) (by omega) (by decide)) (v := ((up L 9 (4 * f) ((L 9 (4 * f)) + (1 + (fL_low (zv >>> ((3 : Int32) &&& 31)) 3000)))) 9 (4 * f + 1))) (congrArg ((up L 9 (4 * f) ((L 9 (4 * f)) + (1 + (fL_low (zv >>> ((3 : Int32) &&& 31)) 3000)))) 9) (nx_ix (x := ((4 * (nI f)) + 1)) (nx_add (nx_mul (by decide : (4 : Int32) = nI 4) rfl) (by decide : (1 : Int32) = nI 1)) (by omega))) dL_tells_64 ?_
    refine lv_iload hx hb dL_tells_65 (lv_at hl 0 rfl) ?_
    refine lv_iadd hx hb dL_tells_67 ?_
    refine xr_st hC hK hI 9 (by decide) (show vp_in ((4 * (nI f)) + 1) 12 from nx_in (nx_add (nx_mul (by decide : (4 : Int32) = nI 4) rfl) (by decide : (1 : Int32) = nI 1)) (by omega) (by decide)) (n := (4 * f + 1)) (nx_ix (x := ((4 * (nI f)) + 1)) (nx_add (nx_mul (by decide : (4 : Int32) = nI 4) rfl) (by decide : (1 : Int32) = nI 1)) (by omega)) dL_tells_68 (fun H locs hI => ?_)
    refine lv_aload_n hx hb dL_tells_69 rfl (lv_at hl 4 rfl) ?_
    refine lv_iload hx hb dL_tells_70 (lv_at hl 3 rfl) ?_
    refine lv_iload hx hb dL_tells_72 (lv_at hl 0 rfl) ?_
    have hok : (xq7 S 12 (nI f) (1 + (fL_low (zv >>> ((3 : Int32) &&& 31)) 3000)) 0).2.1 = 0 ∧ (xq7 S 12 (nI f) (1 + (fL_low (zv >>> ((3 : Int32) &&& 31)) 3000)) 0).1 = ((up (up L 9 (4 * f) ((L 9 (4 * f)) + (1 + (fL_low (zv >>> ((3 : Int32) &&& 31)) 3000)))) 9 (4 * f + 1) (((up L 9 (4 * f) ((L 9 (4 * f)) + (1 + (fL_low (zv >>> ((3 : Int32) &&& 31)) 3000)))) 9 (4 * f + 1)) + (1 + (fL_low (zv >>> ((3 : Int32) &&& 31)) 3000)))) 9 (4 * f)) := XOK.d (by have h9 := hOK; rw [hG] at h9; exact h9) (by decide)
    refine xr_q (As := [.int (nI f), .int (1 + (fL_low (zv >>> ((3 : Int32) &&& 31)) 3000))]) (rest := []) 12 (nI f) (1 + (fL_low (zv >>> ((3 : Int32) &&& 31)) 3000)) 0 hC hK hI (qX7_fund l hC.2.1 A D cy g hK.1 S e0 hK.v (nI f) (1 + (fL_low (zv >>> ((3 : Int32) &&& 31)) 3000))) (k7_fund S (nI f) (1 + (fL_low (zv >>> ((3 : Int32) &&& 31)) 3000))) hok.1 (cwV 2 hts gL_tells_X7_fund rfl rfl rfl (by decide +kernel) ⟨Nat.le_of_ble_eq_true rfl, Nat.le_of_ble_eq_true rfl⟩) rfl hl.1 rfl (Nat.le_of_ble_eq_true rfl) dL_tells_74 ⟨Nat.le_of_ble_eq_true rfl, Nat.le_of_ble_eq_true rfl⟩ (fun H locs hK hI => ?_)
    refine lv_aload hx hb dL_tells_77 (lv_at hl 15 rfl) ?_
    refine lv_iconst (v := 4) hx hb dL_tells_79 (by decide) ?_
    refine lv_iload hx hb dL_tells_80 (lv_at hl 3 rfl) ?_
    refine lv_imul hx hb dL_tells_82 ?_
    refine xr_ld hC hI 9 (by decide) (show vp_in (4 * (nI f)) 12 from nx_in (nx_mul (by decide : (4 : Int32) = nI 4) rfl) (by omega) (by decide)) (v := ((up (up L 9 (4 * f) ((L 9 (4 * f)) + (1 + (fL_low (zv >>> ((3 : Int32) &&& 31)) 3000)))) 9 (4 * f + 1) (((up L 9 (4 * f) ((L 9 (4 * f)) + (1 + (fL_low (zv >>> ((3 : Int32) &&& 31)) 3000)))) 9 (4 * f + 1)) + (1 + (fL_low (zv >>> ((3 : Int32) &&& 31)) 3000)))) 9 (4 * f))) (congrArg ((up (up L 9 (4 * f) ((L 9 (4 * f)) + (1 + (fL_low (zv >>> ((3 : Int32) &&& 31)) 3000)))) 9 (4 * f + 1) (((up L 9 (4 * f) ((L 9 (4 * f)) + (1 + (fL_low (zv >>> ((3 : Int32) &&& 31)) 3000)))) 9 (4 * f + 1)) + (1 + (fL_low (zv >>> ((3 : Int32) &&& 31)) 3000)))) 9) (nx_ix (x := (4 * (nI f))) (nx_mul (by decide : (4 : Int32) = nI 4) rfl) (by omega))) dL_tells_83 ?_
    refine lv_icmp_ne (tgt := 91) hx hb dL_tells_84 (by decide) (fun c9 => absurd hok.2 c9) (fun _ => ?_)
    refine lv_iconst (v := 1) hx hb dL_tells_87 (by decide) ?_
    refine lv_goto (tgt := 92) hx hb dL_tells_88 (by decide) ?_
    refine W.widen (k := 8) (n := 342) (Nat.le_of_ble_eq_true rfl) (Nat.le_of_ble_eq_true rfl) ?_
    exact W.zret (v := 1) (ty := .boolean) hx hb hr rfl (fun t9 ht9 hW9 => ⟨⟨1, g, rfl, ⟨rfl, by rw [hG]; exact hK⟩, ⟨by rw [hG, ht9]; exact hI.1, by rw [hG, ht9]; exact hI.2.1⟩⟩, hI.2.2.1.F ht9⟩) hI.2.2.1.2.2 dL_tells_92
