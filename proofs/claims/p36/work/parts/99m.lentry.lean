/-! the law from its entry -/
theorem NI_blind {D : va_G} {cy : Nat → ClassId} {e0 mi q sz : Nat} {fs : List Value} {av : List Value} : FrameBlind (va_Pc av (fun U => U.heap.size = sz ∧ at1 D q (.inr (8, fs)) U.heap ∧ JX (fun z => z = q ∨ sz ≤ z) D cy e0 mi U U.heap ∧ JO U ∧ JF U ∧ va_Nw (.methodLinkNest RX7 58 yX6_init RX7) U)) := fun x U g mk h => ⟨h.1, h.2.1, h.2.2.1, JX.blind h.2.2.2.1, JO.blind h.2.2.2.2.1, JF.moved (u := U) (U := U.calling g mk x) (Vm.Alike.refl U.vm) h.2.2.2.2.2.1, va_Nw.same rfl (u := U) (U := U.calling g mk x) rfl h.2.2.2.2.2.2⟩
theorem fs7 : ∀ j, j < 12 → defaultValue (tyX7 j) = vp_V [.null, .null, .null, .null, .null, .null, .null, .null, .int 0, .int 0, .int 0, .int 0] j := by
  intro j hj
  match j, hj with
  | 0, _ => rfl
  | 1, _ => rfl
  | 2, _ => rfl
  | 3, _ => rfl
  | 4, _ => rfl
  | 5, _ => rfl
  | 6, _ => rfl
  | 7, _ => rfl
  | 8, _ => rfl
  | 9, _ => rfl
  | 10, _ => rfl
  | 11, _ => rfl
  | q + 12, h => omega
def XN (A : Nat → Prop) (D : va_G) (cy : Nat → ClassId) (g : CWt) (la : Nat → Nat) (base N : Nat) (s : State) (H : Heap) (locs : List Loc) : Prop := CH D cy g S0 H ∧ LH N D cy la (fun _ _ => 0) H ∧ va_S A s.heap H locs ∧ H.size = base + N
theorem lw_new {p : Program} {l : Launch} {e : Env} {R : Room} {s : State} {m : MethodId} {args : Array Value} {below : List Frame} {meth : Method} {c : Code} {H : Heap} {locs : List Loc} {cells slots : Nat} {Q : State → Prop} {cc : ByteArray} {pc nL : Nat} {ls : Array Slot} {rest : List Value} {D : va_G} {cy : Nat → ClassId} {la : Nat → Nat} {A : Nat → Prop} {Ts : List Cond} {g : CWt} {base N : Nat} (hC : CC p s m args c cc nL RL D cy Ts) (harr : (Cond.arrayClass .int).before args s = true) (hI : XN A D cy g la base N s H locs) (hla : la N = base + N) {n : Int32} {k : Nat} (hn : n = nI k) (hk : k = lLen N) (hk2 : k < 2 ^ 20) (hcells : cells + 1 ≤ R.cells) (hslots : slots + k ≤ R.slots) (hdg : decode cc pc = .ok (.newarray .int, 2))
    (kk : ∀ (H1 : Heap), XN A D cy g la base (N + 1) s H1 locs → W p l e R s m args below meth c H1 locs (cells + 1) (slots + k) Q (F0 m (pc + 2) ls (.ref (la N) :: rest))) : W p l e R s m args below meth c H locs cells slots Q (F0 m pc ls (.int n :: rest)) := by
  subst hn
  obtain ⟨h1, h2, h3, h4⟩ := hI
  refine va_newaK hC.1.1 hC.1.2.1 (atype := .int) harr (g := F0 m pc ls (.int (nI k) :: rest)) (N := k) rfl hdg rfl (fun q => vp_in_nI (n := k) (N := k + 1) (Nat.lt_succ_self k) (by omega) (Or.inl q)) (nI_clamp (by omega)) (by show k * 4 ≤ _; omega) hcells hslots rfl (fun H1 cA e1 z1 o1 hAr hNm => ?_)
  have hc4 := (hC.2.2 0 _ rfl).2
  obtain rfl : cA = cy 0 := Option.some.inj (hNm.symm.trans hc4)
  rw [h4, ← hla] at e1
  rw [h4, ← hla]
  refine kk H1 ⟨h1.keep o1, fun k' hk' => ?_, S_new h3 z1 o1, by omega⟩
  by_cases hkk : k' = N
  · subst hkk
    rw [← hk]
    exact e1
  · exact at_keep (h2 k' (by omega)) o1
set_option maxHeartbeats 8000000 in
set_option maxRecDepth 100000 in
theorem whole_start {p : Program} {e : Env} {s : State} {m : MethodId} {below : List Frame} {meth : Method} {c : Code} (l : Launch) (hflags : l.flags = flags0) {b L : Nat} {xs : Nat → Int32} (hL : L ≤ 260) (C0 : lw_At p s m meth c b L xs) : W p l e room_1 s m #[Value.ref b] below meth c s.heap [] 0 0 (lw_Z below #[Value.ref b] s) (entryFrame m ([Value.ref b] : List Value).toArray 21) := by
  obtain ⟨hx, hb, hr, hml, hown, hts, hX, hbl, hlocks, hgv⟩ := C0
  have hb : c.code = cL_law := hb
  have hfl : l.stackTraces = false := by
    unfold Launch.stackTraces
    rw [hflags]
    decide
  obtain ⟨D, cy, hK⟩ := st_KK hts
  have hJ := st_JT hts hgv
  obtain ⟨e0, mi, hJX⟩ := st_JX hts hgv hK
  obtain ⟨hJO, hJF, hNw⟩ := st_JO hts hgv
  have htsL : ∀ w ∈ wsL_law, w.before #[Value.ref b] s = true := fun w h => hts w (wsL_law_in w h)
  have hC : CC p s m #[Value.ref b] c cL_law 21 RL D cy wsL_law := ⟨⟨hx, hb, hml, hown, htsL⟩, hK⟩
  have hS : va_S (fun q => s.heap.size ≤ q) s.heap s.heap [] := va_S.rf
  have hl := lv_entry ([.ref b]) (n := 21) (Nat.le_of_ble_eq_true rfl)
  rw [lg_entry_eq]
  generalize (lg_sl ([.ref b]) ++ List.replicate (21 - (lg_sl ([.ref b])).length) Slot.unset).toArray = ls at hl ⊢
  have hl : lv_has ls 21 [(0, .ref b)] := hl
  refine oi_new (ci := 8) (C := RX7) (T := TX7) (N := 12) hC hS inlX7 tyX7 tyX7_ok (hts _ (wsL_law_in0_r1 _ (List.mem_of_getElem? (i := 0) rfl))) (hts _ (wsL_law_in0_r1 _ (List.mem_of_getElem? (i := 1) rfl))) (hts _ (wsL_law_in0_r1 _ (List.mem_of_getElem? (i := 2) rfl))) rfl fs7 (Nat.le_of_ble_eq_true rfl) (Nat.le_of_ble_eq_true rfl) dL_law_0 (fun H h1 o1 z1 hS => ?_)
  have hz0 : H.size = s.heap.size + 1 := z1
  refine lv_dup hx hb dL_law_3 rfl ?_
  refine va_callv (va_runI (As := []) (rest := [.ref s.heap.size]) hC.1 (qX7_init l D cy e0 mi s.heap.size (s.heap.size + 1)) (cwI 0 htsL gL_law_X7_init rfl rfl rfl (hts _ (wsL_law_in0_r1 _ (List.mem_of_getElem? (i := 2) rfl))) (hts _ (wsL_law_in0_r1 _ (List.mem_of_getElem? (i := 5) rfl))) (hts _ (wsL_law_in0_r1 _ (List.mem_of_getElem? (i := 6) rfl))) rfl (by decide +kernel) ⟨Nat.le_of_ble_eq_true rfl, Nat.le_of_ble_eq_true rfl⟩) ⟨NI_blind, fun U hU hW => ⟨rfl, by rw [hU]; exact hz0, by rw [hU]; exact h1, JX_now hJX hS (fun q h => h.elim (fun h => Nat.le_of_eq h.symm) (fun h => Nat.le_of_succ_le h)) hU hW, JO.warm hW hJO, JF.moved hW.alike hJF, va_Nw.warmM hW hNw⟩⟩ rfl rfl hl.1 rfl (lv_room (Nat.le_of_ble_eq_true rfl)) dL_law_4 ⟨Nat.le_of_ble_eq_true rfl, Nat.le_of_ble_eq_true rfl⟩) hS (fun q _ h => h.elim (fun h => Nat.le_of_eq h.symm) (fun h => Nat.le_of_succ_le h)) (fun q h => h.elim (fun h => Nat.le_of_eq h.symm) (fun h => Nat.le_of_succ_le h)) (fun g t H1 locs1 ht hvm hw hB hz1 hk1 hS1 => ?_)
  rw [ht] at hB
  obtain ⟨hL1, hG1, hT1, h18⟩ := hw
  refine lv_astore_n (lv' := [(1, .ref s.heap.size), (0, .ref b)]) hx hb dL_law_7 rfl hl (by decide) rfl (fun ls hl => ?_)
  have h0 : XN (fun q => s.heap.size ≤ q) D cy g (fun k => H1.size + k) H1.size 0 s H1 locs1 := ⟨hB, fun k hk => absurd hk (Nat.not_lt_zero k), hS1, rfl⟩
  have k_arr : (Cond.arrayClass .int).before #[Value.ref b] s = true := (hts _ (wsL_law_in0_r1 _ (List.mem_of_getElem? (i := 3) rfl)))
  generalize hbase : H1.size = base at h0
  have hB0 : ∀ k i, cval g k i → s.heap.size ≤ ga g k i ∧ ga g k i < base := fun k i hv => ⟨(hL1.1 k i hv).elim (fun h => Nat.le_of_eq h.symm) (fun h => Nat.le_of_succ_le h), by rw [← hbase]; exact (hB k i hv).lt⟩
  have hbs : s.heap.size < base := by omega
  clear hB hS1 hk1 hz1
  refine lv_bipush (v := 64) hx hb dL_law_8 (by decide) ?_
  refine lw_new (k := 64) hC k_arr h0 rfl (by decide) rfl (by decide) (Nat.le_of_ble_eq_true rfl) (Nat.le_of_ble_eq_true rfl) dL_law_10 (fun H h1 => ?_)
  refine lv_astore_n (lv' := [(2, .ref (base + 0)), (1, .ref s.heap.size), (0, .ref b)]) hx hb dL_law_12 rfl hl (by decide) rfl (fun ls hl => ?_)
  refine lv_bipush (v := 40) hx hb dL_law_13 (by decide) ?_
  refine lw_new (k := 40) hC k_arr h1 rfl (by decide) rfl (by decide) (Nat.le_of_ble_eq_true rfl) (Nat.le_of_ble_eq_true rfl) dL_law_15 (fun H h2 => ?_)
  refine lv_astore_n (lv' := [(3, .ref (base + 1)), (2, .ref (base + 0)), (1, .ref s.heap.size), (0, .ref b)]) hx hb dL_law_17 rfl hl (by decide) rfl (fun ls hl => ?_)
  refine lv_bipush (v := 40) hx hb dL_law_18 (by decide) ?_
  refine lw_new (k := 40) hC k_arr h2 rfl (by decide) rfl (by decide) (Nat.le_of_ble_eq_true rfl) (Nat.le_of_ble_eq_true rfl) dL_law_20 (fun H h3 => ?_)
  refine lv_astore (lv' := [(4, .ref (base + 2)), (3, .ref (base + 1)), (2, .ref (base + 0)), (1, .ref s.heap.size), (0, .ref b)]) hx hb dL_law_22 hl (by decide) rfl (fun ls hl => ?_)
  refine lv_bipush (v := 8) hx hb dL_law_24 (by decide) ?_
  refine lw_new (k := 8) hC k_arr h3 rfl (by decide) rfl (by decide) (Nat.le_of_ble_eq_true rfl) (Nat.le_of_ble_eq_true rfl) dL_law_26 (fun H h4 => ?_)
  refine lv_astore (lv' := [(5, .ref (base + 3)), (4, .ref (base + 2)), (3, .ref (base + 1)), (2, .ref (base + 0)), (1, .ref s.heap.size), (0, .ref b)]) hx hb dL_law_28 hl (by decide) rfl (fun ls hl => ?_)
  refine lv_bipush (v := 40) hx hb dL_law_30 (by decide) ?_
  refine lw_new (k := 40) hC k_arr h4 rfl (by decide) rfl (by decide) (Nat.le_of_ble_eq_true rfl) (Nat.le_of_ble_eq_true rfl) dL_law_32 (fun H h5 => ?_)
  refine lv_astore (lv' := [(6, .ref (base + 4)), (5, .ref (base + 3)), (4, .ref (base + 2)), (3, .ref (base + 1)), (2, .ref (base + 0)), (1, .ref s.heap.size), (0, .ref b)]) hx hb dL_law_34 hl (by decide) rfl (fun ls hl => ?_)
  refine lv_bipush (v := 20) hx hb dL_law_36 (by decide) ?_
  refine lw_new (k := 20) hC k_arr h5 rfl (by decide) rfl (by decide) (Nat.le_of_ble_eq_true rfl) (Nat.le_of_ble_eq_true rfl) dL_law_38 (fun H h6 => ?_)
  refine lv_astore (lv' := [(7, .ref (base + 5)), (6, .ref (base + 4)), (5, .ref (base + 3)), (4, .ref (base + 2)), (3, .ref (base + 1)), (2, .ref (base + 0)), (1, .ref s.heap.size), (0, .ref b)]) hx hb dL_law_40 hl (by decide) rfl (fun ls hl => ?_)
  refine lv_bipush (v := 64) hx hb dL_law_42 (by decide) ?_
  refine lw_new (k := 64) hC k_arr h6 rfl (by decide) rfl (by decide) (Nat.le_of_ble_eq_true rfl) (Nat.le_of_ble_eq_true rfl) dL_law_44 (fun H h7 => ?_)
  refine lv_astore (lv' := [(8, .ref (base + 6)), (7, .ref (base + 5)), (6, .ref (base + 4)), (5, .ref (base + 3)), (4, .ref (base + 2)), (3, .ref (base + 1)), (2, .ref (base + 0)), (1, .ref s.heap.size), (0, .ref b)]) hx hb dL_law_46 hl (by decide) rfl (fun ls hl => ?_)
  refine lv_bipush (v := 64) hx hb dL_law_48 (by decide) ?_
  refine lw_new (k := 64) hC k_arr h7 rfl (by decide) rfl (by decide) (Nat.le_of_ble_eq_true rfl) (Nat.le_of_ble_eq_true rfl) dL_law_50 (fun H h8 => ?_)
  refine lv_astore (lv' := [(9, .ref (base + 7)), (8, .ref (base + 6)), (7, .ref (base + 5)), (6, .ref (base + 4)), (5, .ref (base + 3)), (4, .ref (base + 2)), (3, .ref (base + 1)), (2, .ref (base + 0)), (1, .ref s.heap.size), (0, .ref b)]) hx hb dL_law_52 hl (by decide) rfl (fun ls hl => ?_)
  refine lv_bipush (v := 16) hx hb dL_law_54 (by decide) ?_
  refine lw_new (k := 16) hC k_arr h8 rfl (by decide) rfl (by decide) (Nat.le_of_ble_eq_true rfl) (Nat.le_of_ble_eq_true rfl) dL_law_56 (fun H h9 => ?_)
  refine lv_astore (lv' := [(10, .ref (base + 8)), (9, .ref (base + 7)), (8, .ref (base + 6)), (7, .ref (base + 5)), (6, .ref (base + 4)), (5, .ref (base + 3)), (4, .ref (base + 2)), (3, .ref (base + 1)), (2, .ref (base + 0)), (1, .ref s.heap.size), (0, .ref b)]) hx hb dL_law_58 hl (by decide) rfl (fun ls hl => ?_)
  refine lv_bipush (v := 12) hx hb dL_law_60 (by decide) ?_
  refine lw_new (k := 12) hC k_arr h9 rfl (by decide) rfl (by decide) (Nat.le_of_ble_eq_true rfl) (Nat.le_of_ble_eq_true rfl) dL_law_62 (fun H h10 => ?_)
  refine lv_astore (lv' := [(11, .ref (base + 9)), (10, .ref (base + 8)), (9, .ref (base + 7)), (8, .ref (base + 6)), (7, .ref (base + 5)), (6, .ref (base + 4)), (5, .ref (base + 3)), (4, .ref (base + 2)), (3, .ref (base + 1)), (2, .ref (base + 0)), (1, .ref s.heap.size), (0, .ref b)]) hx hb dL_law_64 hl (by decide) rfl (fun ls hl => ?_)
  refine lv_bipush (v := 60) hx hb dL_law_66 (by decide) ?_
  refine lw_new (k := 60) hC k_arr h10 rfl (by decide) rfl (by decide) (Nat.le_of_ble_eq_true rfl) (Nat.le_of_ble_eq_true rfl) dL_law_68 (fun H h11 => ?_)
  refine lv_astore (lv' := [(12, .ref (base + 10)), (11, .ref (base + 9)), (10, .ref (base + 8)), (9, .ref (base + 7)), (8, .ref (base + 6)), (7, .ref (base + 5)), (6, .ref (base + 4)), (5, .ref (base + 3)), (4, .ref (base + 2)), (3, .ref (base + 1)), (2, .ref (base + 0)), (1, .ref s.heap.size), (0, .ref b)]) hx hb dL_law_70 hl (by decide) rfl (fun ls hl => ?_)
  refine lv_bipush (v := 7) hx hb dL_law_72 (by decide) ?_
  refine lw_new (k := 7) hC k_arr h11 rfl (by decide) rfl (by decide) (Nat.le_of_ble_eq_true rfl) (Nat.le_of_ble_eq_true rfl) dL_law_74 (fun H h12 => ?_)
  refine lv_astore (lv' := [(13, .ref (base + 11)), (12, .ref (base + 10)), (11, .ref (base + 9)), (10, .ref (base + 8)), (9, .ref (base + 7)), (8, .ref (base + 6)), (7, .ref (base + 5)), (6, .ref (base + 4)), (5, .ref (base + 3)), (4, .ref (base + 2)), (3, .ref (base + 1)), (2, .ref (base + 0)), (1, .ref s.heap.size), (0, .ref b)]) hx hb dL_law_76 hl (by decide) rfl (fun ls hl => ?_)
  refine lv_iconst (v := 1) hx hb dL_law_78 (by decide) ?_
  refine lv_istore (lv' := [(14, .int 1), (13, .ref (base + 11)), (12, .ref (base + 10)), (11, .ref (base + 9)), (10, .ref (base + 8)), (9, .ref (base + 7)), (8, .ref (base + 6)), (7, .ref (base + 5)), (6, .ref (base + 4)), (5, .ref (base + 3)), (4, .ref (base + 2)), (3, .ref (base + 1)), (2, .ref (base + 0)), (1, .ref s.heap.size), (0, .ref b)]) hx hb dL_law_79 hl (by decide) rfl (fun ls hl => ?_)
  refine lv_iconst (v := 0) hx hb dL_law_81 (by decide) ?_
  refine lv_istore (lv' := [(15, .int (nI 0)), (14, .int 1), (13, .ref (base + 11)), (12, .ref (base + 10)), (11, .ref (base + 9)), (10, .ref (base + 8)), (9, .ref (base + 7)), (8, .ref (base + 6)), (7, .ref (base + 5)), (6, .ref (base + 4)), (5, .ref (base + 3)), (4, .ref (base + 2)), (3, .ref (base + 1)), (2, .ref (base + 0)), (1, .ref s.heap.size), (0, .ref b)]) hx hb dL_law_82 hl (by decide) rfl (fun ls hl => ?_)
  obtain ⟨hM, hLH, hS, hsz⟩ := h12
  refine W.widen (k := 200) (n := 2000) (Nat.le_of_ble_eq_true rfl) (Nat.le_of_ble_eq_true rfl) ?_
  obtain ⟨Bq, hBq⟩ : ∃ Bq : Nat → Prop, ∀ q, Bq q ↔ base ≤ q ∧ q < base + 12 := ⟨_, fun q => Iff.rfl⟩
  obtain ⟨Aq, hAq⟩ : ∃ Aq : Nat → Prop, ∀ q, Aq q ↔ s.heap.size ≤ q ∧ ¬ Bq q := ⟨_, fun q => Iff.rfl⟩
  have hABe : AB Aq Bq = fun q => s.heap.size ≤ q := by
    funext q
    refine propext ⟨fun h => h.elim (fun h => ((hAq q).mp h).1) (fun h => by have := (hBq q).mp h; omega), fun h => ?_⟩
    by_cases hq : Bq q
    · exact Or.inr hq
    · exact Or.inl ((hAq q).mpr ⟨h, hq⟩)
  have hAB : ∀ q, AB Aq Bq q → s.heap.size ≤ q := fun q h => by rw [hABe] at h; exact h
  have hXC : XC p l s m #[Value.ref b] c cL_law 21 Aq Bq D cy e0 mi wsL_law := ⟨hC, hfl, by rw [hABe]; exact hJ, by rw [hABe]; exact hJX, hJO⟩
  have hXK : XK Aq Bq e0 (base + 12) s.heap.size (fun k => base + k) g S0 := by
    refine ⟨⟨fun k i hv => (hAq _).mpr ⟨(hB0 k i hv).1, fun q => ?_⟩, hL1.2⟩, ⟨fun k hk => (hBq _).mpr ⟨?_, ?_⟩, fun k k' hk hk' h => ?_⟩, fun q ha hb9 => ((hAq q).mp ha).2 hb9, fun q hq => (hAq q).mpr ⟨by omega, fun w => ?_⟩, hG1, hT1, inv_S0, h18⟩
    · have h1 := (hBq _).mp q
      have h2 := (hB0 k i hv).2
      omega
    · show base ≤ base + k
      omega
    · show base + k < base + 12
      omega
    · have h2 : base + k = base + k' := h
      omega
    · have h1 := (hBq q).mp w
      omega
  exact ll_loop hXC hX hbl (fun h => absurd (hAB b h) (by omega)) (by omega) hAB hr hlocks hXK ⟨hM, hLH, by rw [hABe]; exact hS, by omega⟩ rel0 (lv_sub hl [15, 14, 13, 12, 11, 10, 9, 8, 7, 6, 5, 4, 3, 2, 1, 0] rfl)
