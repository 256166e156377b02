/-! what the launch gives the law at its entry -/
def lw0 : List Cond := [.arrayOver (.object "RelatorsBench$Firm"), .arrayOver (.object "RelatorsBench$Teller"), .arrayOver (.object "java/lang/Object"), .declares ⟨"java/lang/Object", "getClass", "()Ljava/lang/Class;"⟩, .laysStatic "java/util/ArrayList" "DEFAULTCAPACITY_EMPTY_ELEMENTDATA" "[Ljava/lang/Object;", .initialized "java/util/ArrayList", .laysStatic Bundle.tN "UNASSIGNED_STACK" Bundle.steD, .laysStatic Bundle.tN "SUPPRESSED_SENTINEL" Bundle.listD, .initialized Bundle.tN, .methodLinkNest RX7 58 yX6_init RX7, .stringRef RX7 322 "there is none of this number", .stringRef RX7 326 "an argument is out of range", .stringRef RX7 331 "this can't be done now", .stringRef RX7 281 "nothing such is told of a suit", .stringRef RX7 302 "nothing such is told of a claim", .stringRef RX7 310 "nothing such is got by a teller", .stringRef RX7 315 "nothing such is told of a firm", .stringRef RX7 320 "nothing such is told of the whole"]
theorem lw0_in : ∀ w ∈ lw0, w ∈ lw_tbl := by decide +kernel
theorem jwl_in : ∀ w ∈ jwl, w ∈ lw_tbl := by decide +kernel
theorem jol_in : ∀ w ∈ jol, w ∈ lw_tbl := by decide +kernel
theorem kc_obj {args : Array Value} {s : State} {C : String} (h : (Cond.arrayOver (.object C)).before args s = true) : ∃ cA : ClassId, ArrOfT s cA (.object C) ∧ va_RA s cA (.object C) := by
  obtain ⟨comp, c, k, hcomp, hidx, hk, hkind, hname⟩ := Cond.arrayOver_spec h
  exact ⟨c, fun N z => ⟨(fun k h => by cases h), k, hk, comp, hkind⟩, k, comp, hk, hkind, hcomp, hname⟩
theorem kc_int {args : Array Value} {s : State} (h : (Cond.arrayClass .int).before args s = true) : ∃ cA : ClassId, ArrOfT s cA .int ∧ va_RA s cA .int := by
  obtain ⟨cA, kA, comp, hfind, hk, hkind⟩ := Cond.arrayClass_spec h
  exact ⟨cA, fun N z => ⟨(fun k h => by cases h), kA, hk, comp, hkind⟩, hfind⟩
theorem kc_long {args : Array Value} {s : State} (h : (Cond.arrayClass .long).before args s = true) : ∃ cA : ClassId, ArrOfT s cA .long ∧ va_RA s cA .long := by
  obtain ⟨cA, kA, comp, hfind, hk, hkind⟩ := Cond.arrayClass_spec h
  exact ⟨cA, fun N z => ⟨(fun k h => by cases h), kA, hk, comp, hkind⟩, hfind⟩
theorem st_KK {args : Array Value} {s : State} (hts : ∀ w ∈ lw_tbl, w.before args s = true) : ∃ (D : va_G) (cy : Nat → ClassId), KK D cy s := by
  obtain ⟨c0, iS0, hKn0⟩ := u_known (C := RJx4a65c) (T := TJx4a65c) (N := 3) (n := 3) hts inJx4a65c (hts _ (wsL_law_in0_r1 _ (List.mem_of_getElem? (i := 17) rfl)))
  obtain ⟨c1, iS1, hKn1⟩ := u_known (C := RX0) (T := TX0) (N := 4) (n := 4) hts inX0 (hts _ (wsL_law_in0_r4 _ (List.mem_of_getElem? (i := 23) rfl)))
  obtain ⟨c2, iS2, hKn2⟩ := u_known (C := RX1) (T := TX1) (N := 4) (n := 4) hts inX1 (hts _ (wsL_law_in0_r11 _ (List.mem_of_getElem? (i := 14) rfl)))
  obtain ⟨c3, iS3, hKn3⟩ := u_known (C := RX2) (T := TX2) (N := 7) (n := 7) hts inX2 (hts _ (wsL_law_in0_r2 _ (List.mem_of_getElem? (i := 4) rfl)))
  obtain ⟨c4, iS4, hKn4⟩ := u_known (C := RX3) (T := TX3) (N := 2) (n := 2) hts inX3 (hts _ (wsL_law_in0_r13 _ (List.mem_of_getElem? (i := 7) rfl)))
  obtain ⟨c5, iS5, hKn5⟩ := u_known (C := RX4) (T := TX4) (N := 9) (n := 9) hts inX4 (hts _ (wsL_law_in0_r21 _ (List.mem_of_getElem? (i := 11) rfl)))
  obtain ⟨c6, iS6, hKn6⟩ := u_known (C := RX5) (T := TX5) (N := 15) (n := 15) hts inX5 (hts _ (wsL_law_in0_r12 _ (List.mem_of_getElem? (i := 10) rfl)))
  obtain ⟨c7, iS7, hKn7⟩ := u_known (C := RX6) (T := TX6) (N := 7) (n := 7) hts inX6 (hts _ (wsL_law_in0_r2 _ (List.mem_of_getElem? (i := 6) rfl)))
  obtain ⟨c8, iS8, hKn8⟩ := u_known (C := RX7) (T := TX7) (N := 12) (n := 12) hts inX7 (hts _ (wsL_law_in0_r1 _ (List.mem_of_getElem? (i := 1) rfl)))
  obtain ⟨a0, hA0⟩ := kc_int (hts _ (wsL_law_in0_r1 _ (List.mem_of_getElem? (i := 3) rfl)))
  obtain ⟨a2, hA2⟩ := kc_obj (hts _ (lw0_in _ (List.mem_of_getElem? (i := 0) rfl)))
  obtain ⟨a3, hA3⟩ := kc_obj (hts _ (lw0_in _ (List.mem_of_getElem? (i := 1) rfl)))
  obtain ⟨a4, hA4⟩ := kc_obj (hts _ (lw0_in _ (List.mem_of_getElem? (i := 2) rfl)))
  refine ⟨(fun k => if k = 0 then c0 else if k = 1 then c1 else if k = 2 then c2 else if k = 3 then c3 else if k = 4 then c4 else if k = 5 then c5 else if k = 6 then c6 else if k = 7 then c7 else c8, fun k => if k = 0 then iS0 else if k = 1 then iS1 else if k = 2 then iS2 else if k = 3 then iS3 else if k = 4 then iS4 else if k = 5 then iS5 else if k = 6 then iS6 else if k = 7 then iS7 else iS8), fun k => if k = 0 then a0 else if k = 1 then a0 else if k = 2 then a2 else if k = 3 then a3 else if k = 4 then a4 else a0, ?_, ?_⟩
  · intro k q hq
    match k, hq with
    | 0, hq => cases hq; exact hKn0
    | 1, hq => cases hq; exact hKn1
    | 2, hq => cases hq; exact hKn2
    | 3, hq => cases hq; exact hKn3
    | 4, hq => cases hq; exact hKn4
    | 5, hq => cases hq; exact hKn5
    | 6, hq => cases hq; exact hKn6
    | 7, hq => cases hq; exact hKn7
    | 8, hq => cases hq; exact hKn8
    | k + 9, hq => simp [vwCl] at hq
  · intro k q hq
    match k, hq with
    | 0, hq => cases hq; exact hA0
    | 1, hq => cases hq; exact hA0
    | 2, hq => cases hq; exact hA2
    | 3, hq => cases hq; exact hA3
    | 4, hq => cases hq; exact hA4
    | 5, hq => cases hq; exact hA0
    | k + 6, hq => simp [tysOf] at hq
set_option maxRecDepth 20000 in
theorem st_JT {args : Array Value} {s : State} (hts : ∀ w ∈ lw_tbl, w.before args s = true) (hgv : (Jvm.Cond.and given_1 narrow_1).before args s = true) : JT (fun q => s.heap.size ≤ q) s s.heap := by
  have hs := flat_of_before _ hgv
  refine ⟨vx_Zqof (hts _ (lw0_in _ (List.mem_of_getElem? (i := 6) rfl))) (hts _ (lw0_in _ (List.mem_of_getElem? (i := 8) rfl))) (hs _ (by decide +kernel)) (fun a h9 => Nat.not_le.mpr h9), vx_Zqof (hts _ (lw0_in _ (List.mem_of_getElem? (i := 7) rfl))) (hts _ (lw0_in _ (List.mem_of_getElem? (i := 8) rfl))) (hs _ (by decide +kernel)) (fun a h9 => Nat.not_le.mpr h9), ?_, fun w hw => va_Nw.of (jwl_tab w hw) (hts w (jwl_in w hw))⟩
  have str : ∀ k tx, Cond.stringRef RX7 k tx ∈ lw0 → (Cond.exactly (.string RX7 k) "java/lang/String").before args s = true → ∃ sa, vk_R RX7 k tx sa s := fun k tx h1 h2 => by
    obtain ⟨a, c, cell, kk, q1, _⟩ := Cond.exactly_spec h2
    exact ⟨a, vk_R.of (hts _ (lw0_in _ h1)) q1⟩
  exact List.forall_mem_cons.mpr ⟨str _ _ (List.mem_of_getElem? (i := 10) rfl) (hs _ (by decide +kernel)), List.forall_mem_cons.mpr ⟨str _ _ (List.mem_of_getElem? (i := 11) rfl) (hs _ (by decide +kernel)), List.forall_mem_cons.mpr ⟨str _ _ (List.mem_of_getElem? (i := 12) rfl) (hs _ (by decide +kernel)), List.forall_mem_cons.mpr ⟨str _ _ (List.mem_of_getElem? (i := 13) rfl) (hs _ (by decide +kernel)), List.forall_mem_cons.mpr ⟨str _ _ (List.mem_of_getElem? (i := 14) rfl) (hs _ (by decide +kernel)), List.forall_mem_cons.mpr ⟨str _ _ (List.mem_of_getElem? (i := 15) rfl) (hs _ (by decide +kernel)), List.forall_mem_cons.mpr ⟨str _ _ (List.mem_of_getElem? (i := 16) rfl) (hs _ (by decide +kernel)), List.forall_mem_cons.mpr ⟨str _ _ (List.mem_of_getElem? (i := 17) rfl) (hs _ (by decide +kernel)), fun _ h => absurd h List.not_mem_nil⟩⟩⟩⟩⟩⟩⟩⟩
set_option maxRecDepth 20000 in
theorem st_JX {args : Array Value} {s : State} (hts : ∀ w ∈ lw_tbl, w.before args s = true) (hgv : (Jvm.Cond.and given_1 narrow_1).before args s = true) {D : va_G} {cy : Nat → ClassId} (hK : KK D cy s) : ∃ e0 mi : Nat, JX (fun q => s.heap.size ≤ q) D cy e0 mi s s.heap := by
  have hs := flat_of_before _ hgv
  have ha : (Cond.arrayOf (.static "java/util/ArrayList" "DEFAULTCAPACITY_EMPTY_ELEMENTDATA" "[Ljava/lang/Object;") (.object "java/lang/Object")).before args s = true := hs _ (by decide +kernel)
  have hl : (Cond.eq (.length (.static "java/util/ArrayList" "DEFAULTCAPACITY_EMPTY_ELEMENTDATA" "[Ljava/lang/Object;")) (.int 0)).before args s = true := hs _ (by decide +kernel)
  have hm : (Cond.isRef (.mirror "[Ljava/lang/Object;")).before args s = true := hs _ (by decide +kernel)
  obtain ⟨mi, hMi⟩ := va_Mi.of hm
  obtain ⟨e0, ht, hT⟩ := va_Tof (f := fun _ => .null) (N := 0) (A := (fun q : Nat => s.heap.size ≤ q)) (by decide) ha (va_eqt hl) (fun j hj => absurd hj (Nat.not_lt_zero j)) (fun a h9 => Nat.not_le.mpr h9)
  exact ⟨e0, mi, hK, va_AO.of (hts _ (lw0_in _ (List.mem_of_getElem? (i := 2) rfl))), hMi, va_Dc.of (hts _ (lw0_in _ (List.mem_of_getElem? (i := 3) rfl))), va_Zref (hts _ (lw0_in _ (List.mem_of_getElem? (i := 4) rfl))) (hts _ (lw0_in _ (List.mem_of_getElem? (i := 5) rfl))) ht (fun a h9 => Nat.not_le.mpr h9), hT⟩
set_option maxRecDepth 20000 in
theorem st_JO {args : Array Value} {s : State} (hts : ∀ w ∈ lw_tbl, w.before args s = true) (hgv : (Jvm.Cond.and given_1 narrow_1).before args s = true) : JO s ∧ JF s ∧ va_Nw (.methodLinkNest RX7 58 yX6_init RX7) s := by
  have hs := flat_of_before _ hgv
  exact ⟨fun w hw => va_Nw.of (jol_tab w hw) (hts w (jol_in w hw)), ⟨va_AO.of (hts _ (lw0_in _ (List.mem_of_getElem? (i := 0) rfl))), va_AO.of (hts _ (lw0_in _ (List.mem_of_getElem? (i := 1) rfl)))⟩, va_Nw.of rfl (hts _ (lw0_in _ (List.mem_of_getElem? (i := 9) rfl)))⟩
