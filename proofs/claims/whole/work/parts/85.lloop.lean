/-! the law's loop (its heads stand in the skeleton) -/
def R_law : String := "RelatorsBenchLaw"
def lw_P (b : Addr) (xs : List Int32) (args : Array Value) (s : State) : Prop := args = #[.ref b] ∧ s.IntsAt b xs ∧ xs.length ≤ 2048 ∧ (Jvm.Cond.and given_1 narrow_1).before args s = true
def lw_Q (_ : Array Value) (s : State) (o : Outcome) (t : State) : Prop := o = .returned (some (.int 1)) ∧ Framed s o t [] 601024 7293033
def lw_Z (below : List Frame) (a : Array Value) (s : State) : State → Prop := fun t => ∃ o, t.status = .running ∧ Ended t below o ∧ lw_Q a s o t
/-- the law's own end, with 1 on the stack, nothing written that was there before, its room as the claim has it -/
theorem lw_ret {p : Program} {l : Launch} {e : Env} {s : State} {m : MethodId} {below : List Frame} {meth : Method} {c : Code} {b : Nat} (hx : p.tables.exec = Jvm.exec) (hb : c.code = code) (hr : meth.sig.returnType = ret) (hlocks : meth.locks = false) {pc : Nat} {H : Heap} {ls : Array Slot} (hdg : decode code pc = .ok (.ireturn, 1)) : W p l e room_1 s m #[Value.ref b] below meth c H [] 601024 7293033 (lw_Z below #[Value.ref b] s) (F0 m pc ls [.int 1]) := by
  intro T hT X
  obtain ⟨fs, hret, hrun, hended, hW, hframe⟩ := X.leave (v := some (.int 1)) (hlocks := hlocks) (fun h => by rw [hr] at h; cases h)
  have hmeth' : T.vm.method? m = some meth := X.method'
  refine ⟨T.setFrames fs, ?_, .returned (some (.int 1)), hrun, hended, rfl, ⟨_, rfl⟩, hW, hframe⟩
  jvm_step X.here [X.here.top, hx, hb, hdg, hmeth', hr, ret, narrow_b1]
  (try refine ⟨rfl, ?_⟩); (try refine ⟨rfl, ?_⟩)
  first | (intro acts; rw [hret _ acts rfl rfl rfl]) | rw [hret _ _ rfl rfl rfl]
  exact Steps.refl _
/-- what holds at the law's entry: the machine, the code, the tables' words (any of lw_tbl by 'hts w (by decide +kernel)'), the script of L ints xs at the cell b, what the Statement gives of the start (any of its parts by flat_of_before) -/
def lw_At (p : Program) (s : State) (m : MethodId) (meth : Method) (c : Code) (b L : Nat) (xs : Nat → Int32) : Prop :=
  p.tables.exec = Jvm.exec ∧ c.code = code ∧ meth.sig.returnType = ret ∧ c.maxLocals = 7 ∧ s.vm.findClass R_law = some m.cls ∧ (∀ w ∈ lw_tbl, w.before #[Value.ref b] s = true) ∧ va_X b L xs s s.heap ∧ b < s.heap.size ∧ meth.locks = false ∧ (Jvm.Cond.and given_1 narrow_1).before #[Value.ref b] s = true
theorem lc_end {p : Program} {l : Launch} {e : Env} {s : State} {m : MethodId} {below : List Frame} {meth : Method} {c : Code} {b cells slots : Nat} {H : Heap} {locs : List Loc} {ls : Array Slot} (hx : p.tables.exec = Jvm.exec) (hb : c.code = cL_law) (hr : meth.sig.returnType = ret) (hlocks : meth.locks = false) (hS : va_S (fun q => s.heap.size ≤ q) s.heap H locs) (hc : cells ≤ 601024) (hs : slots ≤ 7293033) : W p l e room_1 s m #[Value.ref b] below meth c H locs cells slots (lw_Z below #[Value.ref b] s) (F0 m 2389 ls []) := by
  refine lv_iconst (v := 1) hx hb dL_law_2389 (by decide) ?_
  refine va_forget (fun q hq => hS.2.2 q hq) ?_
  refine W.widen (k := 601024) (n := 7293033) hc hs ?_
  exact lw_ret hx hb hr hlocks dL_law_2390
theorem lc_sub4 {L : Nat} (h : L ≤ 2048) : (Int32.ofNat L - 4).toInt = (L : Int) - 4 := pk_sub_toInt (a := L) (b := 4) (by omega) (by omega)
theorem lc_lt {L i : Nat} (h : L ≤ 2048 ∧ 4 * i < 2 ^ 31) (c : ¬ Int32.ofNat L - 4 < nI (4 * i)) : 4 * i + 3 < L := by
  rw [Int32.lt_iff_toInt_lt, lc_sub4 h.1, nI_toInt h.2] at c
  omega
theorem lc_four (i : Nat) : nI (4 * i) + 4 = nI (4 * (i + 1)) := by
  rw [show (4 : Int32) = nI 4 by decide, nI_add, show 4 * (i + 1) = 4 * i + 4 by omega]
set_option maxHeartbeats 8000000 in
set_option maxRecDepth 100000 in
theorem lc_loop {p : Program} {l : Launch} {e : Env} {s : State} {m : MethodId} {below : List Frame} {meth : Method} {c : Code} {D : va_G} {cy : Nat → ClassId} {o oa e0 mi b L x0 : Nat} {ad : Nat → Nat} {xs : Nat → Int32} (C : LC p l s m c D cy o ad oa e0 mi b L xs) (hr : meth.sig.returnType = ret) (hlocks : meth.locks = false) : ∀ (n i : Nat), L ≤ 4 * i + 4 * n → i ≤ 512 → ∀ (cells slots : Nat), cells ≤ 100 + 6 * i → slots ≤ 1300 + 326 * i → ∀ (H : Heap) (locs : List Loc) (ls : Array Slot), LW s D cy o ad oa e0 x0 H locs → lv_has ls 7 [(0, .ref b), (1, .ref x0), (2, .ref o), (3, .ref oa), (4, .int (nI (4 * i)))] → W p l e room_1 s m #[Value.ref b] below meth c H locs cells slots (lw_Z below #[Value.ref b] s) (F0 m 23 ls []) := by
  have hC := C.1
  have hx := hC.1.1
  have hb := hC.1.2.1
  obtain ⟨hX1, hX2, hX3⟩ := C.2.1
  intro n
  induction n with
  | zero =>
    intro i hn hi5 cells slots hcl hsl H locs ls hW hl
    refine lv_iload hx hb dL_law_23 (lv_at hl 4 rfl) ?_
    refine lv_aload_n hx hb dL_law_25 rfl (lv_at hl 0 rfl) ?_
    refine va_slen hx hb hX1 hX2 (Nat.not_le.mpr hX2) hW.1 dL_law_26 ?_
    refine lv_iconst (v := 4) hx hb dL_law_27 (by decide) ?_
    refine lv_isub hx hb dL_law_28 ?_
    refine lv_icmp_gt (tgt := 2389) hx hb dL_law_29 (by decide) (fun _ => ?_) (fun c1 => ?_)
    · exact lc_end hx hb hr hlocks hW.1 (by omega) (by omega)
    · exact absurd (lc_lt ⟨hX3, by omega⟩ c1) (by omega)
  | succ n ih =>
    intro i hn hi5 cells slots hcl hsl H locs ls hW hl
    refine lv_iload hx hb dL_law_23 (lv_at hl 4 rfl) ?_
    refine lv_aload_n hx hb dL_law_25 rfl (lv_at hl 0 rfl) ?_
    refine va_slen hx hb hX1 hX2 (Nat.not_le.mpr hX2) hW.1 dL_law_26 ?_
    refine lv_iconst (v := 4) hx hb dL_law_27 (by decide) ?_
    refine lv_isub hx hb dL_law_28 ?_
    refine lv_icmp_gt (tgt := 2389) hx hb dL_law_29 (by decide) (fun c1 => ?_) (fun c1 => ?_)
    · exact lc_end hx hb hr hlocks hW.1 (by omega) (by omega)
    · have hi : 4 * i + 3 < L := lc_lt ⟨hX3, by omega⟩ c1
      refine lv_aload_n hx hb dL_law_32 rfl (lv_at hl 0 rfl) ?_
      refine lv_iload hx hb dL_law_33 (lv_at hl 4 rfl) ?_
      refine va_sld hx hb hX1 hX2 (Nat.not_le.mpr hX2) hW.1 (vp_in_nI (by omega) (by omega)) dL_law_35 ?_
      refine lv_bipush (v := 63) hx hb dL_law_36 (by decide) ?_
      refine lv_iand hx hb dL_law_38 ?_
      refine lv_topi (fun y _ => ?_)
      have hc : cells + 6 ≤ 601024 := by omega
      have hs : slots + 326 ≤ 7293033 := by omega
      have kk : ∀ (H1 : Heap) (locs1 : List Loc) (ls1 : Array Slot), LW s D cy o ad oa e0 x0 H1 locs1 → lv_has ls1 7 [(0, .ref b), (1, .ref x0), (2, .ref o), (3, .ref oa), (4, .int (nI (4 * i)))] → W p l e room_1 s m #[Value.ref b] below meth c H1 locs1 (cells + 6) (slots + 326) (lw_Z below #[Value.ref b] s) (F0 m 2383 ls1 []) := by
        intro H1 locs1 ls1 hW1 hl1
        refine lv_iinc (v := nI (4 * (i + 1))) (lv' := [(4, .int (nI (4 * (i + 1)))), (0, .ref b), (1, .ref x0), (2, .ref o), (3, .ref oa)]) hx hb dL_law_2383 hl1 (k := 4) rfl (lc_four i) (by decide) rfl (fun ls2 hl2 => ?_)
        refine lv_goto (tgt := 23) hx hb dL_law_2386 (by decide) ?_
        exact ih (i + 1) (by omega) (by omega) (cells + 6) (slots + 326) (by omega) (by omega) H1 locs1 ls2 hW1 (lv_sub hl2 [1, 2, 3, 4, 0] rfl)
      by_cases g0 : y = nI 0
      · subst g0
        refine lv_tableIn (off := 145) (tgt := 184) hx hb dL_law_39 (by decide) (by decide) (by decide) (by decide) ?_
        exact lc_fund C hi hW hl hc hs kk
      by_cases g1 : y = nI 1
      · subst g1
        refine lv_tableIn (off := 213) (tgt := 252) hx hb dL_law_39 (by decide) (by decide) (by decide) (by decide) ?_
        exact lc_scheme C hi hW hl hc hs kk
      by_cases g2 : y = nI 2
      · subst g2
        refine lv_tableIn (off := 293) (tgt := 332) hx hb dL_law_39 (by decide) (by decide) (by decide) (by decide) ?_
        exact lc_claim C hi hW hl hc hs kk
      by_cases g3 : y = nI 3
      · subst g3
        refine lv_tableIn (off := 361) (tgt := 400) hx hb dL_law_39 (by decide) (by decide) (by decide) (by decide) ?_
        exact lc_sample C hi hW hl hc hs kk
      by_cases g4 : y = nI 4
      · subst g4
        refine lv_tableIn (off := 421) (tgt := 460) hx hb dL_law_39 (by decide) (by decide) (by decide) (by decide) ?_
        exact lc_learn C hi hW hl hc hs kk
      by_cases g5 : y = nI 5
      · subst g5
        refine lv_tableIn (off := 489) (tgt := 528) hx hb dL_law_39 (by decide) (by decide) (by decide) (by decide) ?_
        exact lc_publish C hi hW hl hc hs kk
      by_cases g6 : y = nI 6
      · subst g6
        refine lv_tableIn (off := 545) (tgt := 584) hx hb dL_law_39 (by decide) (by decide) (by decide) (by decide) ?_
        exact lc_plan C hi hW hl hc hs kk
      by_cases g7 : y = nI 7
      · subst g7
        refine lv_tableIn (off := 620) (tgt := 659) hx hb dL_law_39 (by decide) (by decide) (by decide) (by decide) ?_
        exact lc_know C hi hW hl hc hs kk
      by_cases g8 : y = nI 8
      · subst g8
        refine lv_tableIn (off := 683) (tgt := 722) hx hb dL_law_39 (by decide) (by decide) (by decide) (by decide) ?_
        exact lc_admit C hi hW hl hc hs kk
      by_cases g9 : y = nI 9
      · subst g9
        refine lv_tableIn (off := 746) (tgt := 785) hx hb dL_law_39 (by decide) (by decide) (by decide) (by decide) ?_
        exact lc_deal C hi hW hl hc hs kk
      by_cases g10 : y = nI 10
      · subst g10
        refine lv_tableIn (off := 826) (tgt := 865) hx hb dL_law_39 (by decide) (by decide) (by decide) (by decide) ?_
        exact lc_file C hi hW hl hc hs kk
      by_cases g11 : y = nI 11
      · subst g11
        refine lv_tableIn (off := 906) (tgt := 945) hx hb dL_law_39 (by decide) (by decide) (by decide) (by decide) ?_
        exact lc_amend C hi hW hl hc hs kk
      by_cases g12 : y = nI 12
      · subst g12
        refine lv_tableIn (off := 974) (tgt := 1013) hx hb dL_law_39 (by decide) (by decide) (by decide) (by decide) ?_
        exact lc_extend C hi hW hl hc hs kk
      by_cases g13 : y = nI 13
      · subst g13
        refine lv_tableIn (off := 1030) (tgt := 1069) hx hb dL_law_39 (by decide) (by decide) (by decide) (by decide) ?_
        exact lc_choose C hi hW hl hc hs kk
      by_cases g14 : y = nI 14
      · subst g14
        refine lv_tableIn (off := 1098) (tgt := 1137) hx hb dL_law_39 (by decide) (by decide) (by decide) (by decide) ?_
        exact lc_help C hi hW hl hc hs kk
      by_cases g15 : y = nI 15
      · subst g15
        refine lv_tableIn (off := 1166) (tgt := 1205) hx hb dL_law_39 (by decide) (by decide) (by decide) (by decide) ?_
        exact lc_judge C hi hW hl hc hs kk
      by_cases g16 : y = nI 16
      · subst g16
        refine lv_tableIn (off := 1222) (tgt := 1261) hx hb dL_law_39 (by decide) (by decide) (by decide) (by decide) ?_
        exact lc_settle C hi hW hl hc hs kk
      by_cases g17 : y = nI 17
      · subst g17
        refine lv_tableIn (off := 1290) (tgt := 1329) hx hb dL_law_39 (by decide) (by decide) (by decide) (by decide) ?_
        exact lc_work C hi hW hl hc hs kk
      by_cases g18 : y = nI 18
      · subst g18
        refine lv_tableIn (off := 1370) (tgt := 1409) hx hb dL_law_39 (by decide) (by decide) (by decide) (by decide) ?_
        exact lc_tell C hi hW hl hc hs kk
      by_cases g19 : y = nI 19
      · subst g19
        refine lv_tableIn (off := 1438) (tgt := 1477) hx hb dL_law_39 (by decide) (by decide) (by decide) (by decide) ?_
        exact lc_fire C hi hW hl hc hs kk
      by_cases g20 : y = nI 20
      · subst g20
        refine lv_tableIn (off := 1513) (tgt := 1552) hx hb dL_law_39 (by decide) (by decide) (by decide) (by decide) ?_
        exact lc_award C hi hW hl hc hs kk
      by_cases g21 : y = nI 21
      · subst g21
        refine lv_tableIn (off := 1581) (tgt := 1620) hx hb dL_law_39 (by decide) (by decide) (by decide) (by decide) ?_
        exact lc_pass C hi hW hl hc hs kk
      by_cases g22 : y = nI 22
      · subst g22
        refine lv_tableIn (off := 1637) (tgt := 1676) hx hb dL_law_39 (by decide) (by decide) (by decide) (by decide) ?_
        exact lc_covers C hi hW hl hc hs kk
      by_cases g23 : y = nI 23
      · subst g23
        refine lv_tableIn (off := 1705) (tgt := 1744) hx hb dL_law_39 (by decide) (by decide) (by decide) (by decide) ?_
        exact lc_bars C hi hW hl hc hs kk
      by_cases g24 : y = nI 24
      · subst g24
        refine lv_tableIn (off := 1773) (tgt := 1812) hx hb dL_law_39 (by decide) (by decide) (by decide) (by decide) ?_
        exact lc_first C hi hW hl hc hs kk
      by_cases g25 : y = nI 25
      · subst g25
        refine lv_tableIn (off := 1829) (tgt := 1868) hx hb dL_law_39 (by decide) (by decide) (by decide) (by decide) ?_
        exact lc_firstAnew C hi hW hl hc hs kk
      by_cases g26 : y = nI 26
      · subst g26
        refine lv_tableIn (off := 1885) (tgt := 1924) hx hb dL_law_39 (by decide) (by decide) (by decide) (by decide) ?_
        exact lc_due C hi hW hl hc hs kk
      by_cases g27 : y = nI 27
      · subst g27
        refine lv_tableIn (off := 1941) (tgt := 1980) hx hb dL_law_39 (by decide) (by decide) (by decide) (by decide) ?_
        exact lc_sees C hi hW hl hc hs kk
      by_cases g28 : y = nI 28
      · subst g28
        refine lv_tableIn (off := 2016) (tgt := 2055) hx hb dL_law_39 (by decide) (by decide) (by decide) (by decide) ?_
        exact lc_ofSuit C hi hW hl hc hs kk
      by_cases g29 : y = nI 29
      · subst g29
        refine lv_tableIn (off := 2084) (tgt := 2123) hx hb dL_law_39 (by decide) (by decide) (by decide) (by decide) ?_
        exact lc_ofClaim C hi hW hl hc hs kk
      by_cases g30 : y = nI 30
      · subst g30
        refine lv_tableIn (off := 2152) (tgt := 2191) hx hb dL_law_39 (by decide) (by decide) (by decide) (by decide) ?_
        exact lc_got C hi hW hl hc hs kk
      by_cases g31 : y = nI 31
      · subst g31
        refine lv_tableIn (off := 2220) (tgt := 2259) hx hb dL_law_39 (by decide) (by decide) (by decide) (by decide) ?_
        exact lc_ofFirm C hi hW hl hc hs kk
      by_cases g32 : y = nI 32
      · subst g32
        refine lv_tableIn (off := 2288) (tgt := 2327) hx hb dL_law_39 (by decide) (by decide) (by decide) (by decide) ?_
        exact lc_all C hi hW hl hc hs kk
      refine lv_tableOut (tgt := 2383) hx hb dL_law_39 (w_sw 32 (fun j hj => ?_)) (by decide) ?_
      · have hj2 : j < 33 := by omega
        match j, hj2 with
        | 0, _ => exact g0
        | 1, _ => exact g1
        | 2, _ => exact g2
        | 3, _ => exact g3
        | 4, _ => exact g4
        | 5, _ => exact g5
        | 6, _ => exact g6
        | 7, _ => exact g7
        | 8, _ => exact g8
        | 9, _ => exact g9
        | 10, _ => exact g10
        | 11, _ => exact g11
        | 12, _ => exact g12
        | 13, _ => exact g13
        | 14, _ => exact g14
        | 15, _ => exact g15
        | 16, _ => exact g16
        | 17, _ => exact g17
        | 18, _ => exact g18
        | 19, _ => exact g19
        | 20, _ => exact g20
        | 21, _ => exact g21
        | 22, _ => exact g22
        | 23, _ => exact g23
        | 24, _ => exact g24
        | 25, _ => exact g25
        | 26, _ => exact g26
        | 27, _ => exact g27
        | 28, _ => exact g28
        | 29, _ => exact g29
        | 30, _ => exact g30
        | 31, _ => exact g31
        | 32, _ => exact g32
        | q + 33, h => omega
      · exact W.widen (k := cells + 6) (n := slots + 326) (by omega) (by omega) (kk H locs ls hW hl)
