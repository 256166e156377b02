/-! the law from its entry -/
theorem oi_newl {p : Program} {l : Launch} {e : Env} {R : Room} {s : State} {m : MethodId} {args : Array Value} {below : List Frame} {meth : Method} {c : Code} {H : Heap} {locs : List Loc} {cells slots : Nat} {Q : State → Prop} {cc : ByteArray} {pc nL : Nat} {ls : Array Slot} {rest : List Value} {D : va_G} {cy : Nat → ClassId} {A : Nat → Prop} {Ts : List Cond} {own : String} (hC : CC p s m args c cc nL own D cy Ts) (hS : va_S A s.heap H locs) (harr : (Cond.arrayClass .long).before args s = true) (hcells : cells + 1 ≤ R.cells) (hslots : slots + 1 ≤ R.slots) (hdg : decode cc pc = .ok (.newarray .long, 2))
    (kk : ∀ (H1 : Heap), at1 D H.size (LA cy 0) H1 → (∀ z : Nat, z < H.size → H1[z]? = H[z]?) → H1.size = H.size + 1 → va_S A s.heap H1 locs → W p l e R s m args below meth c H1 locs (cells + 1) (slots + 1) Q (F0 m (pc + 2) ls (.ref H.size :: rest))) : W p l e R s m args below meth c H locs cells slots Q (F0 m pc ls (.int 1 :: rest)) := by
  refine va_newaK hC.1.1 hC.1.2.1 (atype := .long) harr (g := F0 m pc ls (.int 1 :: rest)) (N := 1) rfl hdg rfl (by decide) (by decide) (by decide) hcells hslots rfl (fun H1 cA e1 z1 o1 hAr hNm => ?_)
  have h4 := (hC.2.2 5 _ rfl).2
  obtain rfl : cA = cy 5 := Option.some.inj (hNm.symm.trans h4)
  exact kk H1 e1 o1 z1 (S_new hS z1 o1)
theorem NI_blind {D : va_G} {cy : Nat → ClassId} {e0 mi q sz : Nat} {fs : List Value} {av : List Value} : FrameBlind (va_Pc av (fun U => U.heap.size = sz ∧ at1 D q (.inr (8, fs)) U.heap ∧ JX (fun z => z = q ∨ sz ≤ z) D cy e0 mi U U.heap ∧ JO U ∧ JF U ∧ va_Nw (.methodLinkNest RX7 58 yX6_init RX7) U)) := fun x U g mk h => ⟨h.1, h.2.1, h.2.2.1, JX.blind h.2.2.2.1, JO.blind h.2.2.2.2.1, JF.moved (u := U) (U := U.calling g mk x) (Vm.Alike.refl U.vm) h.2.2.2.2.2.1, va_Nw.same rfl (u := U) (U := U.calling g mk x) rfl h.2.2.2.2.2.2⟩
theorem MI_blind {D : va_G} {cy : Nat → ClassId} {q sz : Nat} {fs : List Value} {av : List Value} : FrameBlind (va_Pc av (fun U => U.heap.size = sz ∧ at1 D q (.inr (9, fs)) U.heap ∧ KK D cy U)) := fun x U g mk h => ⟨h.1, h.2.1, h.2.2.1, va_K.moved (u := U) (U := U.calling g mk x) (Vm.Alike.refl U.vm) h.2.2.2⟩
theorem fs7 : ∀ j, j < 12 → defaultValue (tyX7 j) = vp_V [.null, .null, .null, .null, .null, .null, .null, .null, .int 0, .int 0, .int 0, .int 0] j := by
  intro j hj
  match j, hj with
  | 0, _ => rfl
  | 1, _ => rfl
  | 2, _ => rfl
  | 3, _ => rfl
  | 4, _ => rfl
  | 5, _ => rfl
  | 6, _ => rfl
  | 7, _ => rfl
  | 8, _ => rfl
  | 9, _ => rfl
  | 10, _ => rfl
  | 11, _ => rfl
  | q + 12, h => omega
theorem fs8 (sz : Nat) : ∀ j, j < 55 → defaultValue (tyX8 j) = vp_V (mpF sz 0) j := by
  intro j hj
  match j, hj with
  | 0, _ => rfl
  | 1, _ => rfl
  | 2, _ => rfl
  | 3, _ => rfl
  | 4, _ => rfl
  | 5, _ => rfl
  | 6, _ => rfl
  | 7, _ => rfl
  | 8, _ => rfl
  | 9, _ => rfl
  | 10, _ => rfl
  | 11, _ => rfl
  | 12, _ => rfl
  | 13, _ => rfl
  | 14, _ => rfl
  | 15, _ => rfl
  | 16, _ => rfl
  | 17, _ => rfl
  | 18, _ => rfl
  | 19, _ => rfl
  | 20, _ => rfl
  | 21, _ => rfl
  | 22, _ => rfl
  | 23, _ => rfl
  | 24, _ => rfl
  | 25, _ => rfl
  | 26, _ => rfl
  | 27, _ => rfl
  | 28, _ => rfl
  | 29, _ => rfl
  | 30, _ => rfl
  | 31, _ => rfl
  | 32, _ => rfl
  | 33, _ => rfl
  | 34, _ => rfl
  | 35, _ => rfl
  | 36, _ => rfl
  | 37, _ => rfl
  | 38, _ => rfl
  | 39, _ => rfl
  | 40, _ => rfl
  | 41, _ => rfl
  | 42, _ => rfl
  | 43, _ => rfl
  | 44, _ => rfl
  | 45, _ => rfl
  | 46, _ => rfl
  | 47, _ => rfl
  | 48, _ => rfl
  | 49, _ => rfl
  | 50, _ => rfl
  | 51, _ => rfl
  | 52, _ => rfl
  | 53, _ => rfl
  | 54, _ => rfl
  | q + 55, h => omega
set_option maxHeartbeats 8000000 in
set_option maxRecDepth 100000 in
theorem whole_start {p : Program} {e : Env} {s : State} {m : MethodId} {below : List Frame} {meth : Method} {c : Code} (l : Launch) (hflags : l.flags = flags0) {b L : Nat} {xs : Nat → Int32} (hL : L ≤ 2048) (C0 : lw_At p s m meth c b L xs) : W p l e room_1 s m #[Value.ref b] below meth c s.heap [] 0 0 (lw_Z below #[Value.ref b] s) (entryFrame m ([Value.ref b] : List Value).toArray 7) := by
  obtain ⟨hx, hb, hr, hml, hown, hts, hX, hbl, hlocks, hgv⟩ := C0
  have hb : c.code = cL_law := hb
  have hfl : l.stackTraces = false := by
    unfold Launch.stackTraces
    rw [hflags]
    decide
  obtain ⟨D, cy, hK⟩ := st_KK hts
  have hJ := st_JT hts hgv
  obtain ⟨e0, mi, hJX⟩ := st_JX hts hgv hK
  obtain ⟨hJO, hJN, hJF, hNw⟩ := st_JO hts hgv
  have htsL : ∀ w ∈ wsL_law, w.before #[Value.ref b] s = true := fun w h => hts w (wsL_law_in w h)
  have hC : CC p s m #[Value.ref b] c cL_law 7 RL D cy wsL_law := ⟨⟨hx, hb, hml, hown, htsL⟩, hK⟩
  have hS : va_S (fun q => s.heap.size ≤ q) s.heap s.heap [] := va_S.rf
  have hl := lv_entry ([.ref b]) (n := 7) (Nat.le_of_ble_eq_true rfl)
  rw [lg_entry_eq]
  generalize (lg_sl ([.ref b]) ++ List.replicate (7 - (lg_sl ([.ref b])).length) Slot.unset).toArray = ls at hl ⊢
  have hl : lv_has ls 7 [(0, .ref b)] := hl
  refine oi_new (ci := 8) (C := RX7) (T := TX7) (N := 12) hC hS inlX7 tyX7 tyX7_ok (hts _ (wsL_law_in0_r1 _ (List.mem_of_getElem? (i := 0) rfl))) (hts _ (wsL_law_in0_r1 _ (List.mem_of_getElem? (i := 1) rfl))) (hts _ (wsL_law_in0_r1 _ (List.mem_of_getElem? (i := 2) rfl))) rfl fs7 (Nat.le_of_ble_eq_true rfl) (Nat.le_of_ble_eq_true rfl) dL_law_0 (fun H h1 o1 z1 hS => ?_)
  have hz0 : H.size = s.heap.size + 1 := z1
  refine lv_dup hx hb dL_law_3 rfl ?_
  refine va_callv (va_runI (As := []) (rest := [.ref s.heap.size]) hC.1 (qX7_init l D cy e0 mi s.heap.size (s.heap.size + 1)) (cwI 0 htsL gL_law_X7_init rfl rfl rfl (hts _ (wsL_law_in0_r1 _ (List.mem_of_getElem? (i := 2) rfl))) (hts _ (wsL_law_in0_r1 _ (List.mem_of_getElem? (i := 7) rfl))) (hts _ (wsL_law_in0_r1 _ (List.mem_of_getElem? (i := 8) rfl))) rfl (by decide +kernel) ⟨Nat.le_of_ble_eq_true rfl, Nat.le_of_ble_eq_true rfl⟩) ⟨NI_blind, fun U hU hW => ⟨rfl, by rw [hU]; exact hz0, by rw [hU]; exact h1, JX_now hJX hS (fun q h => h.elim (fun h => Nat.le_of_eq h.symm) (fun h => Nat.le_of_succ_le h)) hU hW, JO.warm hW hJO, JF.moved hW.alike hJF, va_Nw.warmM hW hNw⟩⟩ rfl rfl hl.1 rfl (lv_room (Nat.le_of_ble_eq_true rfl)) dL_law_4 ⟨Nat.le_of_ble_eq_true rfl, Nat.le_of_ble_eq_true rfl⟩) hS (fun q _ h => h.elim (fun h => Nat.le_of_eq h.symm) (fun h => Nat.le_of_succ_le h)) (fun q h => h.elim (fun h => Nat.le_of_eq h.symm) (fun h => Nat.le_of_succ_le h)) (fun g t H1 locs1 ht hvm hw hB hz1 hk1 hS1 => ?_)
  rw [ht] at hB
  obtain ⟨hL1, hG1, hT1, h18⟩ := hw
  refine lv_astore_n (lv' := [(1, .ref s.heap.size), (0, .ref b)]) hx hb dL_law_7 rfl hl (by decide) rfl (fun ls hl => ?_)
  refine oi_new (ci := 9) (C := RX8) (T := TX8) (N := 55) (fs := mpF (H1.size + 1) 0) hC hS1 inlX8 tyX8 tyX8_ok (hts _ (wsL_law_in0_r1 _ (List.mem_of_getElem? (i := 3) rfl))) (hts _ (wsL_law_in0_r1 _ (List.mem_of_getElem? (i := 4) rfl))) (hts _ (wsL_law_in0_r1 _ (List.mem_of_getElem? (i := 5) rfl))) rfl (fs8 (H1.size + 1)) (Nat.le_of_ble_eq_true rfl) (Nat.le_of_ble_eq_true rfl) dL_law_8 (fun H2 h2 o2 z2 hS2 => ?_)
  refine lv_dup hx hb dL_law_11 rfl ?_
  have ho : s.heap.size < H1.size := by omega
  refine va_callv (va_runI (As := []) (rest := [.ref H1.size]) hC.1 (qX8_init l D cy H1.size (H1.size + 1) (Nat.lt_succ_self _)) (cwI 0 htsL gL_law_X8_init rfl rfl rfl (hts _ (wsL_law_in0_r1 _ (List.mem_of_getElem? (i := 5) rfl))) (hts _ (wsL_law_in0_r4 _ (List.mem_of_getElem? (i := 4) rfl))) (hts _ (wsL_law_in0_r4 _ (List.mem_of_getElem? (i := 5) rfl))) rfl (by decide +kernel) ⟨Nat.le_of_ble_eq_true rfl, Nat.le_of_ble_eq_true rfl⟩) ⟨MI_blind, fun U hU hW => ⟨rfl, by rw [hU]; exact z2, by rw [hU]; exact h2, va_K.moved hW.alike hK⟩⟩ rfl rfl hl.1 rfl (lv_room (Nat.le_of_ble_eq_true rfl)) dL_law_12 ⟨Nat.le_of_ble_eq_true rfl, Nat.le_of_ble_eq_true rfl⟩) hS2 (fun q _ h => h.elim (fun h => by rw [h]; omega) (fun h => by omega)) (fun q h => h.elim (fun h => by rw [h]; omega) (fun h => by omega)) (fun u t3 H3 locs3 ht3 hvm3 hw3 hR hz3 hk3 hS3 => ?_)
  rw [ht3] at hR
  have hoa : H1.size < H3.size := by omega
  refine lv_astore_n (lv' := [(2, .ref H1.size), (1, .ref s.heap.size), (0, .ref b)]) hx hb dL_law_15 rfl hl (by decide) rfl (fun ls hl => ?_)
  refine lv_iconst (v := 1) hx hb dL_law_16 (by decide) ?_
  refine oi_newl hC hS3 (hts _ (wsL_law_in0_r1 _ (List.mem_of_getElem? (i := 6) rfl))) (Nat.le_of_ble_eq_true rfl) (Nat.le_of_ble_eq_true rfl) dL_law_17 (fun H4 h4 o4 z4 hS4 => ?_)
  refine lv_astore_n (lv' := [(3, .ref H3.size), (2, .ref H1.size), (1, .ref s.heap.size), (0, .ref b)]) hx hb dL_law_19 rfl hl (by decide) rfl (fun ls hl => ?_)
  refine lv_iconst (v := 0) hx hb dL_law_20 (by decide) ?_
  refine lv_istore (lv' := [(4, .int 0), (3, .ref H3.size), (2, .ref H1.size), (1, .ref s.heap.size), (0, .ref b)]) hx hb dL_law_21 hl (by decide) rfl (fun ls hl => ?_)
  have hL7 : CL (A7 s.heap.size H1.size H3.size) g := ⟨fun k i hv => Or.inl ⟨(hL1.1 k i hv).elim (fun h => Nat.le_of_eq h.symm) (fun h => Nat.le_of_succ_le h), (hB k i hv).lt⟩, hL1.2⟩
  have hM2 := hB.keep o2
  have hM3 := hM2.keptA hL7 (fun q hq h => hk3 q hq (fun h9 => by unfold A7 at h; omega))
  have hM4 := hM3.keep o4
  have hR4 := hR.keep o4
  have hML : ML (A8 H1.size H3.size) H1.size (fun k => H1.size + 1 + mord k) := by
    refine ⟨⟨Nat.le_refl _, hoa⟩, fun k hk => ⟨⟨?_, (hR.2 k hk).lt⟩, ?_, fun k' hk' h => ?_⟩⟩
    · show H1.size ≤ H1.size + 1 + mord k
      omega
    · show H1.size + 1 + mord k ≠ H1.size
      omega
    · have h2 : H1.size + 1 + mord k = H1.size + 1 + mord k' := h
      exact mord_inj k (mArr_lt hk) hk k' (mArr_lt hk') hk' (by omega)
  have hLC : LC p l s m c D cy H1.size (fun k => H1.size + 1 + mord k) H3.size e0 mi b L xs := ⟨hC, ⟨hX, hbl, hL⟩, hfl, ⟨hJ, hJX, hJO, hJN⟩, ⟨Nat.le_of_lt ho, hoa⟩, hML⟩
  have hLW : LW s D cy H1.size (fun k => H1.size + 1 + mord k) H3.size e0 s.heap.size H4 locs3 := ⟨hS4, by omega, g, S0, 0, 0, inv_S0, ⟨hL7, hG1, hT1, rfl⟩, h18, hM4, hR4, h4⟩
  exact lc_loop hLC hr hlocks (L / 4 + 1) 0 (by omega) (by omega) _ _ (Nat.le_of_ble_eq_true rfl) (Nat.le_of_ble_eq_true rfl) H4 locs3 ls hLW (lv_sub hl [4, 3, 2, 1, 0] rfl)
