/-! the leaves of the reference, walked -/
set_option maxHeartbeats 4000000 in
set_option maxRecDepth 100000 in
theorem qX8_in (l : Launch) (v : Int32) (low : Int32) (high : Int32) : SPure l yX8_in wsX8_in ({ frames := 0, cells := 0, slots := 0, locals := 0 } : Room) [.int v, .int low, .int high] (fX8_in v low high) := by
  refine Met.ofW (cc := cX8_in) (maxL := 3) (ret := (some .boolean)) (by decide) rfl ?_
  intro p e s m args below meth c s₁ B hml hv
  obtain ⟨rfl, -⟩ := hv
  have hx := B.exec
  have hb := B.bytes
  have hr := B.returns
  have hts := atoms_spec (ws := wsX8_in) B.pre
  have hown : s.vm.findClass RX8 = some m.cls := findClass_of_methodNamed B.named
  have hlocks := B.notSynchronized
  have hI : va_S (fun _ => False) s.heap s.heap [] := va_S.rf
  have hl := lv_entry ([.int v, .int low, .int high]) (n := 3) (Nat.le_of_ble_eq_true rfl)
  rw [lg_entry_eq]
  generalize (lg_sl ([.int v, .int low, .int high]) ++ List.replicate (3 - (lg_sl ([.int v, .int low, .int high])).length) Slot.unset).toArray = ls at hl ⊢
  have hl : lv_has ls 3 [(0, .int v), (1, .int low), (2, .int high)] := hl
  have hG : fX8_in v low high = fX8_in v low high := rfl
  refine lv_iload_n hx hb dX8_in_0 rfl (lv_at hl 0 rfl) ?_
  refine lv_iload_n hx hb dX8_in_1 rfl (lv_at hl 1 rfl) ?_
  refine lv_icmp_lt (tgt := 14) hx hb dX8_in_2 (by decide) (fun c_1 => ?_) (fun c_1 => ?_)
  · have hG := hG.trans (if_pos c_1)
    refine lv_iconst (v := 0) hx hb dX8_in_14 (by decide) ?_
    exact W.zret (v := 0) (ty := .boolean) hx hb hr rfl (fun t9 ht9 hW9 => ⟨⟨0, (), rfl, hG.symm, trivial⟩, hI.F ht9⟩) hI.2.2 dX8_in_15
  · have hG := hG.trans (if_neg c_1)
    refine lv_iload_n hx hb dX8_in_5 rfl (lv_at hl 0 rfl) ?_
    refine lv_iload_n hx hb dX8_in_6 rfl (lv_at hl 2 rfl) ?_
    refine lv_icmp_gt (tgt := 14) hx hb dX8_in_7 (by decide) (fun c_2 => ?_) (fun c_2 => ?_)
    · have hG := hG.trans (if_pos c_2)
      refine lv_iconst (v := 0) hx hb dX8_in_14 (by decide) ?_
      exact W.zret (v := 0) (ty := .boolean) hx hb hr rfl (fun t9 ht9 hW9 => ⟨⟨0, (), rfl, hG.symm, trivial⟩, hI.F ht9⟩) hI.2.2 dX8_in_15
    · have hG := hG.trans (if_neg c_2)
      refine lv_iconst (v := 1) hx hb dX8_in_10 (by decide) ?_
      refine lv_goto (tgt := 15) hx hb dX8_in_11 (by decide) ?_
      exact W.zret (v := 1) (ty := .boolean) hx hb hr rfl (fun t9 ht9 hW9 => ⟨⟨1, (), rfl, hG.symm, trivial⟩, hI.F ht9⟩) hI.2.2 dX8_in_15
set_option maxHeartbeats 4000000 in
set_option maxRecDepth 100000 in
theorem qX8_isFirm (l : Launch) (f : Int32) : SPure l yX8_isFirm wsX8_isFirm ({ frames := 1, cells := 0, slots := 0, locals := 22 } : Room) [.int f] (fX8_isFirm f) := by
  refine Met.ofW (cc := cX8_isFirm) (maxL := 1) (ret := (some .boolean)) (by decide) rfl ?_
  intro p e s m args below meth c s₁ B hml hv
  obtain ⟨rfl, -⟩ := hv
  have hx := B.exec
  have hb := B.bytes
  have hr := B.returns
  have hts := atoms_spec (ws := wsX8_isFirm) B.pre
  have hown : s.vm.findClass RX8 = some m.cls := findClass_of_methodNamed B.named
  have hlocks := B.notSynchronized
  have hI : va_S (fun _ => False) s.heap s.heap [] := va_S.rf
  have hl := lv_entry ([.int f]) (n := 1) (Nat.le_of_ble_eq_true rfl)
  rw [lg_entry_eq]
  generalize (lg_sl ([.int f]) ++ List.replicate (1 - (lg_sl ([.int f])).length) Slot.unset).toArray = ls at hl ⊢
  have hl : lv_has ls 1 [(0, .int f)] := hl
  have hG : fX8_isFirm f = fX8_isFirm f := rfl
  refine lv_iload_n hx hb dX8_isFirm_0 rfl (lv_at hl 0 rfl) ?_
  refine lv_iconst (v := 0) hx hb dX8_isFirm_1 (by decide) ?_
  refine lv_iconst (v := 5) hx hb dX8_isFirm_2 (by decide) ?_
  refine sr_call (As := [.int f, .int 0, .int 5]) (rest := []) ⟨hx, hb, hml, hown, hts⟩ hI (qX8_in l f 0 5) (va_cwS 3 hts gX8_isFirm_X8_in rfl rfl rfl (by decide +kernel) ⟨Nat.le_of_ble_eq_true rfl, Nat.le_of_ble_eq_true rfl⟩) rfl hl.1 rfl (Nat.le_of_ble_eq_true rfl) dX8_isFirm_3 ⟨Nat.zero_le _, Nat.zero_le _⟩ (fun H locs _ _ hI => ?_)
  exact W.zret (v := (fX8_in f 0 5)) (ty := .boolean) hx hb hr (in_nar _ _ _) (fun t9 ht9 hW9 => ⟨⟨(fX8_in f 0 5), (), rfl, hG.symm, trivial⟩, hI.F ht9⟩) hI.2.2 dX8_isFirm_6
set_option maxHeartbeats 4000000 in
set_option maxRecDepth 100000 in
theorem qX8_isTeller (l : Launch) (t : Int32) : SPure l yX8_isTeller wsX8_isTeller ({ frames := 1, cells := 0, slots := 0, locals := 22 } : Room) [.int t] (fX8_isTeller t) := by
  refine Met.ofW (cc := cX8_isTeller) (maxL := 1) (ret := (some .boolean)) (by decide) rfl ?_
  intro p e s m args below meth c s₁ B hml hv
  obtain ⟨rfl, -⟩ := hv
  have hx := B.exec
  have hb := B.bytes
  have hr := B.returns
  have hts := atoms_spec (ws := wsX8_isTeller) B.pre
  have hown : s.vm.findClass RX8 = some m.cls := findClass_of_methodNamed B.named
  have hlocks := B.notSynchronized
  have hI : va_S (fun _ => False) s.heap s.heap [] := va_S.rf
  have hl := lv_entry ([.int t]) (n := 1) (Nat.le_of_ble_eq_true rfl)
  rw [lg_entry_eq]
  generalize (lg_sl ([.int t]) ++ List.replicate (1 - (lg_sl ([.int t])).length) Slot.unset).toArray = ls at hl ⊢
  have hl : lv_has ls 1 [(0, .int t)] := hl
  have hG : fX8_isTeller t = fX8_isTeller t := rfl
  refine lv_iload_n hx hb dX8_isTeller_0 rfl (lv_at hl 0 rfl) ?_
  refine lv_iconst (v := 0) hx hb dX8_isTeller_1 (by decide) ?_
  refine lv_bipush (v := 7) hx hb dX8_isTeller_2 (by decide) ?_
  refine sr_call (As := [.int t, .int 0, .int 7]) (rest := []) ⟨hx, hb, hml, hown, hts⟩ hI (qX8_in l t 0 7) (va_cwS 3 hts gX8_isTeller_X8_in rfl rfl rfl (by decide +kernel) ⟨Nat.le_of_ble_eq_true rfl, Nat.le_of_ble_eq_true rfl⟩) rfl hl.1 rfl (Nat.le_of_ble_eq_true rfl) dX8_isTeller_4 ⟨Nat.zero_le _, Nat.zero_le _⟩ (fun H locs _ _ hI => ?_)
  exact W.zret (v := (fX8_in t 0 7)) (ty := .boolean) hx hb hr (in_nar _ _ _) (fun t9 ht9 hW9 => ⟨⟨(fX8_in t 0 7), (), rfl, hG.symm, trivial⟩, hI.F ht9⟩) hI.2.2 dX8_isTeller_7
set_option maxHeartbeats 4000000 in
set_option maxRecDepth 100000 in
theorem qX8_bits (l : Launch) (set : Int32) : SPure l yX8_bits wsX8_bits ({ frames := 0, cells := 0, slots := 0, locals := 0 } : Room) [.int set] (fX8_bits set) := by
  refine Met.ofW (cc := cX8_bits) (maxL := 3) (ret := (some .int)) (by decide) rfl ?_
  intro p e s m args below meth c s₁ B hml hv
  obtain ⟨rfl, -⟩ := hv
  have hx := B.exec
  have hb := B.bytes
  have hr := B.returns
  have hts := atoms_spec (ws := wsX8_bits) B.pre
  have hown : s.vm.findClass RX8 = some m.cls := findClass_of_methodNamed B.named
  have hlocks := B.notSynchronized
  have hI : va_S (fun _ => False) s.heap s.heap [] := va_S.rf
  have hl := lv_entry ([.int set]) (n := 3) (Nat.le_of_ble_eq_true rfl)
  rw [lg_entry_eq]
  generalize (lg_sl ([.int set]) ++ List.replicate (3 - (lg_sl ([.int set])).length) Slot.unset).toArray = ls at hl ⊢
  have hl : lv_has ls 3 [(0, .int set)] := hl
  have hG : fX8_bits set = fX8_bits set := rfl
  refine lv_iconst (v := 0) hx hb dX8_bits_0 (by decide) ?_
  refine lv_istore_n (lv' := [(1, .int 0), (0, .int set)]) hx hb dX8_bits_1 rfl hl (by decide) rfl (fun ls hl => ?_)
  refine lv_iconst (v := 0) hx hb dX8_bits_2 (by decide) ?_
  refine lv_istore_n (lv' := [(2, .int 0), (1, .int 0), (0, .int set)]) hx hb dX8_bits_3 rfl hl (by decide) rfl (fun ls hl => ?_)
  refine w_loop (σ := Int32) 16 4 (fun i4 z H locs ls => z = lX8_bits_4 set i4 ∧ va_S (fun _ => False) s.heap H locs ∧ lv_has ls 3 [(2, .int (nI i4)), (1, .int z), (0, .int set)]) ?_ 0 ⟨rfl, hI, lv_sub hl [0, 1, 2] rfl⟩
  intro i4 z H locs ls ⟨hz4, hI, hl⟩ hi4 ih4
  obtain ⟨x4_1, rfl⟩ : ∃ x, x = z := ⟨_, rfl⟩
  refine lv_iload_n hx hb dX8_bits_4 rfl (lv_at hl 0 rfl) ?_
  refine lv_bipush (v := 16) hx hb dX8_bits_5 (by decide) ?_
  refine lv_icmp_ge (tgt := 24) hx hb dX8_bits_7 (by decide) (fun c_1 => ?_) (fun c_1 => ?_)
  · obtain rfl : i4 = 16 := w_exit (by decide : (16 : Int32) = nI 16) hi4 (by decide) c_1
    obtain rfl : x4_1 = (lX8_bits_4 set 16) := by rw [← hz4]
    refine lv_iload_n hx hb dX8_bits_24 rfl (lv_at hl 1 rfl) ?_
    exact W.iret (v := (lX8_bits_4 set 16)) hx hb hr (fun t9 ht9 hW9 => ⟨⟨(lX8_bits_4 set 16), (), rfl, hG.symm, trivial⟩, hI.F ht9⟩) hI.2.2 dX8_bits_25
  · have hlt4 : i4 < 16 := w_in (by decide : (16 : Int32) = nI 16) hi4 (by decide) c_1
    have hB4 : iX8_bits_4 set i4 x4_1 = iX8_bits_4 set i4 x4_1 := rfl
    refine lv_iload_n hx hb dX8_bits_10 rfl (lv_at hl 1 rfl) ?_
    refine lv_iload_n hx hb dX8_bits_11 rfl (lv_at hl 2 rfl) ?_
    refine lv_iload_n hx hb dX8_bits_12 rfl (lv_at hl 0 rfl) ?_
    refine lv_ishr hx hb dX8_bits_13 ?_
    refine lv_iconst (v := 1) hx hb dX8_bits_14 (by decide) ?_
    refine lv_iand hx hb dX8_bits_15 ?_
    refine lv_iadd hx hb dX8_bits_16 ?_
    refine lv_istore_n (lv' := [(1, .int (x4_1 + ((set >>> ((nI i4) &&& 31)) &&& 1))), (2, .int (nI i4)), (0, .int set)]) hx hb dX8_bits_17 rfl hl (by decide) rfl (fun ls hl => ?_)
    refine lv_iinc (v := (nI (i4 + 1))) (lv' := [(2, .int (nI (i4 + 1))), (1, .int (x4_1 + ((set >>> ((nI i4) &&& 31)) &&& 1))), (0, .int set)]) hx hb dX8_bits_18 hl (k := 1) rfl (nI_1 i4) (by decide) rfl (fun ls hl => ?_)
    refine lv_goto (tgt := 4) hx hb dX8_bits_21 (by decide) ?_
    exact ih4 (x4_1 + ((set >>> ((nI i4) &&& 31)) &&& 1)) _ _ ls hlt4 ⟨(by show _ = iX8_bits_4 set i4 (lX8_bits_4 set i4); rw [← hz4]; exact hB4.symm), hI, lv_sub hl [0, 1, 2] rfl⟩
set_option maxHeartbeats 4000000 in
set_option maxRecDepth 100000 in
theorem qX8_place (l : Launch) (f : Int32) (t : Int32) : SPure l yX8_place wsX8_place ({ frames := 0, cells := 0, slots := 0, locals := 0 } : Room) [.int f, .int t] (fX8_place f t) := by
  refine Met.ofW (cc := cX8_place) (maxL := 2) (ret := (some .int)) (by decide) rfl ?_
  intro p e s m args below meth c s₁ B hml hv
  obtain ⟨rfl, -⟩ := hv
  have hx := B.exec
  have hb := B.bytes
  have hr := B.returns
  have hts := atoms_spec (ws := wsX8_place) B.pre
  have hown : s.vm.findClass RX8 = some m.cls := findClass_of_methodNamed B.named
  have hlocks := B.notSynchronized
  have hI : va_S (fun _ => False) s.heap s.heap [] := va_S.rf
  have hl := lv_entry ([.int f, .int t]) (n := 2) (Nat.le_of_ble_eq_true rfl)
  rw [lg_entry_eq]
  generalize (lg_sl ([.int f, .int t]) ++ List.replicate (2 - (lg_sl ([.int f, .int t])).length) Slot.unset).toArray = ls at hl ⊢
  have hl : lv_has ls 2 [(0, .int f), (1, .int t)] := hl
  have hG : fX8_place f t = fX8_place f t := rfl
  refine lv_bipush (v := 8) hx hb dX8_place_0 (by decide) ?_
  refine lv_iload_n hx hb dX8_place_2 rfl (lv_at hl 0 rfl) ?_
  refine lv_imul hx hb dX8_place_3 ?_
  refine lv_iload_n hx hb dX8_place_4 rfl (lv_at hl 1 rfl) ?_
  refine lv_iadd hx hb dX8_place_5 ?_
  exact W.iret (v := ((8 * f) + t)) hx hb hr (fun t9 ht9 hW9 => ⟨⟨((8 * f) + t), (), rfl, hG.symm, trivial⟩, hI.F ht9⟩) hI.2.2 dX8_place_6
set_option maxHeartbeats 4000000 in
set_option maxRecDepth 100000 in
theorem qX8_isScheme (l : Launch) (D : va_G) (cy : Nat → ClassId) (o : Nat) (ad : Nat → Nat) (S : St) (th : Int32) (s_ : Int32) : MPure l D cy o ad S th yX8_isScheme wsX8_isScheme ({ frames := 1, cells := 0, slots := 0, locals := 22 } : Room) [.int s_] (fX8_isScheme S s_) := by
  refine Met.ofW (cc := cX8_isScheme) (maxL := 2) (ret := (some .boolean)) (by decide) rfl ?_
  intro p e s m args below meth c s₁ B hml hv
  obtain ⟨rfl, hM, hK⟩ := hv
  have hx := B.exec
  have hb := B.bytes
  have hr := B.returns
  have hts := atoms_spec (ws := wsX8_isScheme) B.pre
  have hown : s.vm.findClass RX8 = some m.cls := findClass_of_methodNamed B.named
  have hlocks := B.notSynchronized
  have hC : MC p s m _ c cX8_isScheme 2 D cy wsX8_isScheme := ⟨⟨hx, hb, hml, hown, hts⟩, hK⟩
  have hin : ∀ w ∈ wsX80, w ∈ wsX8_isScheme := fun _ h => List.mem_cons_of_mem _ (List.mem_append_right _ (h))
  obtain ⟨A, hAd⟩ : ∃ A : Nat → Prop, A = fun _ => False := ⟨_, rfl⟩
  have hI : MI (fun _ => False) D cy o ad s S th s.heap [] := ⟨hM, va_S.rf⟩
  have k_160 := hts (.fieldLink RX8 160 "RelatorsBenchModel" "schemes" "I") (List.mem_cons_of_mem _ (List.mem_append_left _ (List.mem_of_getElem? (i := 0) rfl)))
  have hl := lv_entry ([.ref o, .int s_]) (n := 2) (Nat.le_of_ble_eq_true rfl)
  rw [lg_entry_eq]
  generalize (lg_sl ([.ref o, .int s_]) ++ List.replicate (2 - (lg_sl ([.ref o, .int s_])).length) Slot.unset).toArray = ls at hl ⊢
  have hl : lv_has ls 2 [(0, .ref o), (1, .int s_)] := hl
  subst hAd
  have hG : fX8_isScheme S s_ = fX8_isScheme S s_ := rfl
  refine lv_iload_n hx hb dX8_isScheme_0 rfl (lv_at hl 1 rfl) ?_
  refine lv_iconst (v := 0) hx hb dX8_isScheme_1 (by decide) ?_
  refine lv_aload_n hx hb dX8_isScheme_2 rfl (lv_at hl 0 rfl) ?_
  refine mr_gi hC hin hI 7 (by decide) (by decide) (by decide) k_160 (v := (S 7 0)) rfl dX8_isScheme_3 ?_
  refine lv_iconst (v := 1) hx hb dX8_isScheme_6 (by decide) ?_
  refine lv_isub hx hb dX8_isScheme_7 ?_
  refine mr_callS (As := [.int s_, .int 0, .int ((S 7 0) - 1)]) (rest := []) hC hI (qX8_in l s_ 0 ((S 7 0) - 1)) (va_cwS 3 hts gX8_isScheme_X8_in rfl rfl rfl (by decide +kernel) ⟨Nat.le_of_ble_eq_true rfl, Nat.le_of_ble_eq_true rfl⟩) rfl hl.1 rfl (Nat.le_of_ble_eq_true rfl) dX8_isScheme_8 ⟨Nat.zero_le _, Nat.zero_le _⟩ (fun H locs hI => ?_)
  exact W.zret (v := (fX8_in s_ 0 ((S 7 0) - 1))) (ty := .boolean) hx hb hr (in_nar _ _ _) (fun t9 ht9 hW9 => ⟨⟨(fX8_in s_ 0 ((S 7 0) - 1)), (), rfl, hG.symm, trivial⟩, hI.2.F ht9⟩) hI.2.2.2 dX8_isScheme_11
set_option maxHeartbeats 4000000 in
set_option maxRecDepth 100000 in
theorem qX8_isSuit (l : Launch) (D : va_G) (cy : Nat → ClassId) (o : Nat) (ad : Nat → Nat) (S : St) (th : Int32) (k : Int32) : MPure l D cy o ad S th yX8_isSuit wsX8_isSuit ({ frames := 1, cells := 0, slots := 0, locals := 22 } : Room) [.int k] (fX8_isSuit S k) := by
  refine Met.ofW (cc := cX8_isSuit) (maxL := 2) (ret := (some .boolean)) (by decide) rfl ?_
  intro p e s m args below meth c s₁ B hml hv
  obtain ⟨rfl, hM, hK⟩ := hv
  have hx := B.exec
  have hb := B.bytes
  have hr := B.returns
  have hts := atoms_spec (ws := wsX8_isSuit) B.pre
  have hown : s.vm.findClass RX8 = some m.cls := findClass_of_methodNamed B.named
  have hlocks := B.notSynchronized
  have hC : MC p s m _ c cX8_isSuit 2 D cy wsX8_isSuit := ⟨⟨hx, hb, hml, hown, hts⟩, hK⟩
  have hin : ∀ w ∈ wsX80, w ∈ wsX8_isSuit := fun _ h => List.mem_cons_of_mem _ (List.mem_append_right _ (h))
  obtain ⟨A, hAd⟩ : ∃ A : Nat → Prop, A = fun _ => False := ⟨_, rfl⟩
  have hI : MI (fun _ => False) D cy o ad s S th s.heap [] := ⟨hM, va_S.rf⟩
  have k_163 := hts (.fieldLink RX8 163 "RelatorsBenchModel" "suits" "I") (List.mem_cons_of_mem _ (List.mem_append_left _ (List.mem_of_getElem? (i := 0) rfl)))
  have hl := lv_entry ([.ref o, .int k]) (n := 2) (Nat.le_of_ble_eq_true rfl)
  rw [lg_entry_eq]
  generalize (lg_sl ([.ref o, .int k]) ++ List.replicate (2 - (lg_sl ([.ref o, .int k])).length) Slot.unset).toArray = ls at hl ⊢
  have hl : lv_has ls 2 [(0, .ref o), (1, .int k)] := hl
  subst hAd
  have hG : fX8_isSuit S k = fX8_isSuit S k := rfl
  refine lv_iload_n hx hb dX8_isSuit_0 rfl (lv_at hl 1 rfl) ?_
  refine lv_iconst (v := 0) hx hb dX8_isSuit_1 (by decide) ?_
  refine lv_aload_n hx hb dX8_isSuit_2 rfl (lv_at hl 0 rfl) ?_
  refine mr_gi hC hin hI 28 (by decide) (by decide) (by decide) k_163 (v := (S 28 0)) rfl dX8_isSuit_3 ?_
  refine lv_iconst (v := 1) hx hb dX8_isSuit_6 (by decide) ?_
  refine lv_isub hx hb dX8_isSuit_7 ?_
  refine mr_callS (As := [.int k, .int 0, .int ((S 28 0) - 1)]) (rest := []) hC hI (qX8_in l k 0 ((S 28 0) - 1)) (va_cwS 3 hts gX8_isSuit_X8_in rfl rfl rfl (by decide +kernel) ⟨Nat.le_of_ble_eq_true rfl, Nat.le_of_ble_eq_true rfl⟩) rfl hl.1 rfl (Nat.le_of_ble_eq_true rfl) dX8_isSuit_8 ⟨Nat.zero_le _, Nat.zero_le _⟩ (fun H locs hI => ?_)
  exact W.zret (v := (fX8_in k 0 ((S 28 0) - 1))) (ty := .boolean) hx hb hr (in_nar _ _ _) (fun t9 ht9 hW9 => ⟨⟨(fX8_in k 0 ((S 28 0) - 1)), (), rfl, hG.symm, trivial⟩, hI.2.F ht9⟩) hI.2.2.2 dX8_isSuit_11
set_option maxHeartbeats 4000000 in
set_option maxRecDepth 100000 in
theorem qX8_isSealed (l : Launch) (D : va_G) (cy : Nat → ClassId) (o : Nat) (ad : Nat → Nat) (S : St) (th : Int32) (k : Nat) (hk : k < 12) {x_k : Int32} (ek : x_k = nI k) : MPure l D cy o ad S th yX8_isSealed wsX8_isSealed ({ frames := 0, cells := 0, slots := 0, locals := 0 } : Room) [.int x_k] (fX8_isSealed S k) := by
  subst ek
  refine Met.ofW (cc := cX8_isSealed) (maxL := 2) (ret := (some .boolean)) (by decide) rfl ?_
  intro p e s m args below meth c s₁ B hml hv
  obtain ⟨rfl, hM, hK⟩ := hv
  have hx := B.exec
  have hb := B.bytes
  have hr := B.returns
  have hts := atoms_spec (ws := wsX8_isSealed) B.pre
  have hown : s.vm.findClass RX8 = some m.cls := findClass_of_methodNamed B.named
  have hlocks := B.notSynchronized
  have hC : MC p s m _ c cX8_isSealed 2 D cy wsX8_isSealed := ⟨⟨hx, hb, hml, hown, hts⟩, hK⟩
  have hin : ∀ w ∈ wsX80, w ∈ wsX8_isSealed := fun _ h => List.mem_cons_of_mem _ (List.mem_append_right _ (h))
  obtain ⟨A, hAd⟩ : ∃ A : Nat → Prop, A = fun _ => False := ⟨_, rfl⟩
  have hI : MI (fun _ => False) D cy o ad s S th s.heap [] := ⟨hM, va_S.rf⟩
  have k_179 := hts (.fieldLink RX8 179 "RelatorsBenchModel" "today" "I") (List.mem_cons_of_mem _ (List.mem_append_left _ (List.mem_of_getElem? (i := 0) rfl)))
  have k_98 := hts (.fieldLink RX8 98 "RelatorsBenchModel" "opens" "[I") (List.mem_cons_of_mem _ (List.mem_append_left _ (List.mem_of_getElem? (i := 1) rfl)))
  have hl := lv_entry ([.ref o, .int (nI k)]) (n := 2) (Nat.le_of_ble_eq_true rfl)
  rw [lg_entry_eq]
  generalize (lg_sl ([.ref o, .int (nI k)]) ++ List.replicate (2 - (lg_sl ([.ref o, .int (nI k)])).length) Slot.unset).toArray = ls at hl ⊢
  have hl : lv_has ls 2 [(0, .ref o), (1, .int (nI k))] := hl
  subst hAd
  have hG : fX8_isSealed S k = fX8_isSealed S k := rfl
  refine lv_aload_n hx hb dX8_isSealed_0 rfl (lv_at hl 0 rfl) ?_
  refine mr_gi hC hin hI 1 (by decide) (by decide) (by decide) k_179 (v := (S 1 0)) rfl dX8_isSealed_1 ?_
  refine lv_aload_n hx hb dX8_isSealed_4 rfl (lv_at hl 0 rfl) ?_
  refine mr_ga hC hin hI 36 (by decide) k_98 dX8_isSealed_5 ?_
  refine lv_iload_n hx hb dX8_isSealed_8 rfl (lv_at hl 1 rfl) ?_
  refine mr_ld hC hI 36 (by decide) (by decide) (show vp_in (nI k) 12 from vp_in_nI (by omega) (by decide)) (v := (S 36 k)) ((congrArg (S 36) (nI_clamp (by omega))).trans rfl) dX8_isSealed_9 ?_
  refine lv_icmp_ge (tgt := 17) hx hb dX8_isSealed_10 (by decide) (fun c_1 => ?_) (fun c_1 => ?_)
  · have hG := hG.trans (if_pos c_1)
    refine lv_iconst (v := 0) hx hb dX8_isSealed_17 (by decide) ?_
    exact W.zret (v := 0) (ty := .boolean) hx hb hr rfl (fun t9 ht9 hW9 => ⟨⟨0, (), rfl, hG.symm, trivial⟩, hI.2.F ht9⟩) hI.2.2.2 dX8_isSealed_18
  · have hG := hG.trans (if_neg c_1)
    refine lv_iconst (v := 1) hx hb dX8_isSealed_13 (by decide) ?_
    refine lv_goto (tgt := 18) hx hb dX8_isSealed_14 (by decide) ?_
    exact W.zret (v := 1) (ty := .boolean) hx hb hr rfl (fun t9 ht9 hW9 => ⟨⟨1, (), rfl, hG.symm, trivial⟩, hI.2.F ht9⟩) hI.2.2.2 dX8_isSealed_18
set_option maxHeartbeats 4000000 in
set_option maxRecDepth 100000 in
theorem qX8_isOver (l : Launch) (D : va_G) (cy : Nat → ClassId) (o : Nat) (ad : Nat → Nat) (S : St) (th : Int32) (k : Nat) (hk : k < 12) {x_k : Int32} (ek : x_k = nI k) : MPure l D cy o ad S th yX8_isOver wsX8_isOver ({ frames := 0, cells := 0, slots := 0, locals := 0 } : Room) [.int x_k] (fX8_isOver S k) := by
  subst ek
  refine Met.ofW (cc := cX8_isOver) (maxL := 2) (ret := (some .boolean)) (by decide) rfl ?_
  intro p e s m args below meth c s₁ B hml hv
  obtain ⟨rfl, hM, hK⟩ := hv
  have hx := B.exec
  have hb := B.bytes
  have hr := B.returns
  have hts := atoms_spec (ws := wsX8_isOver) B.pre
  have hown : s.vm.findClass RX8 = some m.cls := findClass_of_methodNamed B.named
  have hlocks := B.notSynchronized
  have hC : MC p s m _ c cX8_isOver 2 D cy wsX8_isOver := ⟨⟨hx, hb, hml, hown, hts⟩, hK⟩
  have hin : ∀ w ∈ wsX80, w ∈ wsX8_isOver := fun _ h => List.mem_cons_of_mem _ (List.mem_append_right _ (h))
  obtain ⟨A, hAd⟩ : ∃ A : Nat → Prop, A = fun _ => False := ⟨_, rfl⟩
  have hI : MI (fun _ => False) D cy o ad s S th s.heap [] := ⟨hM, va_S.rf⟩
  have k_92 := hts (.fieldLink RX8 92 "RelatorsBenchModel" "how" "[I") (List.mem_cons_of_mem _ (List.mem_append_left _ (List.mem_of_getElem? (i := 0) rfl)))
  have hl := lv_entry ([.ref o, .int (nI k)]) (n := 2) (Nat.le_of_ble_eq_true rfl)
  rw [lg_entry_eq]
  generalize (lg_sl ([.ref o, .int (nI k)]) ++ List.replicate (2 - (lg_sl ([.ref o, .int (nI k)])).length) Slot.unset).toArray = ls at hl ⊢
  have hl : lv_has ls 2 [(0, .ref o), (1, .int (nI k))] := hl
  subst hAd
  have hG : fX8_isOver S k = fX8_isOver S k := rfl
  refine lv_aload_n hx hb dX8_isOver_0 rfl (lv_at hl 0 rfl) ?_
  refine mr_ga hC hin hI 34 (by decide) k_92 dX8_isOver_1 ?_
  refine lv_iload_n hx hb dX8_isOver_4 rfl (lv_at hl 1 rfl) ?_
  refine mr_ld hC hI 34 (by decide) (by decide) (show vp_in (nI k) 12 from vp_in_nI (by omega) (by decide)) (v := (S 34 k)) ((congrArg (S 34) (nI_clamp (by omega))).trans rfl) dX8_isOver_5 ?_
  refine lv_iconst (v := 3) hx hb dX8_isOver_6 (by decide) ?_
  refine lv_icmp_lt (tgt := 14) hx hb dX8_isOver_7 (by decide) (fun c_1 => ?_) (fun c_1 => ?_)
  · have hG := hG.trans (if_pos c_1)
    refine lv_iconst (v := 0) hx hb dX8_isOver_14 (by decide) ?_
    exact W.zret (v := 0) (ty := .boolean) hx hb hr rfl (fun t9 ht9 hW9 => ⟨⟨0, (), rfl, hG.symm, trivial⟩, hI.2.F ht9⟩) hI.2.2.2 dX8_isOver_15
  · have hG := hG.trans (if_neg c_1)
    refine lv_iconst (v := 1) hx hb dX8_isOver_10 (by decide) ?_
    refine lv_goto (tgt := 15) hx hb dX8_isOver_11 (by decide) ?_
    exact W.zret (v := 1) (ty := .boolean) hx hb hr rfl (fun t9 ht9 hW9 => ⟨⟨1, (), rfl, hG.symm, trivial⟩, hI.2.F ht9⟩) hI.2.2.2 dX8_isOver_15
set_option maxHeartbeats 4000000 in
set_option maxRecDepth 100000 in
theorem qX8_publicBy (l : Launch) (D : va_G) (cy : Nat → ClassId) (o : Nat) (ad : Nat → Nat) (S : St) (th : Int32) (d : Int32) : MPure l D cy o ad S th yX8_publicBy wsX8_publicBy ({ frames := 0, cells := 0, slots := 0, locals := 0 } : Room) [.int d] (fX8_publicBy S d) := by
  refine Met.ofW (cc := cX8_publicBy) (maxL := 4) (ret := (some .int)) (by decide) rfl ?_
  intro p e s m args below meth c s₁ B hml hv
  obtain ⟨rfl, hM, hK⟩ := hv
  have hx := B.exec
  have hb := B.bytes
  have hr := B.returns
  have hts := atoms_spec (ws := wsX8_publicBy) B.pre
  have hown : s.vm.findClass RX8 = some m.cls := findClass_of_methodNamed B.named
  have hlocks := B.notSynchronized
  have hC : MC p s m _ c cX8_publicBy 4 D cy wsX8_publicBy := ⟨⟨hx, hb, hml, hown, hts⟩, hK⟩
  have hin : ∀ w ∈ wsX80, w ∈ wsX8_publicBy := fun _ h => List.mem_cons_of_mem _ (List.mem_append_right _ (h))
  obtain ⟨A, hAd⟩ : ∃ A : Nat → Prop, A = fun _ => False := ⟨_, rfl⟩
  have hI : MI (fun _ => False) D cy o ad s S th s.heap [] := ⟨hM, va_S.rf⟩
  have k_56 := hts (.fieldLink RX8 56 "RelatorsBenchModel" "published" "[I") (List.mem_cons_of_mem _ (List.mem_append_left _ (List.mem_of_getElem? (i := 0) rfl)))
  have hl := lv_entry ([.ref o, .int d]) (n := 4) (Nat.le_of_ble_eq_true rfl)
  rw [lg_entry_eq]
  generalize (lg_sl ([.ref o, .int d]) ++ List.replicate (4 - (lg_sl ([.ref o, .int d])).length) Slot.unset).toArray = ls at hl ⊢
  have hl : lv_has ls 4 [(0, .ref o), (1, .int d)] := hl
  subst hAd
  have hG : fX8_publicBy S d = fX8_publicBy S d := rfl
  refine lv_iconst (v := 0) hx hb dX8_publicBy_0 (by decide) ?_
  refine lv_istore_n (lv' := [(2, .int 0), (0, .ref o), (1, .int d)]) hx hb dX8_publicBy_1 rfl hl (by decide) rfl (fun ls hl => ?_)
  refine lv_iconst (v := 0) hx hb dX8_publicBy_2 (by decide) ?_
  refine lv_istore_n (lv' := [(3, .int 0), (2, .int 0), (0, .ref o), (1, .int d)]) hx hb dX8_publicBy_3 rfl hl (by decide) rfl (fun ls hl => ?_)
  refine w_loop (σ := Int32) 16 4 (fun i4 z H locs ls => z = lX8_publicBy_4 S d i4 ∧ MI (fun _ => False) D cy o ad s S th H locs ∧ lv_has ls 4 [(3, .int (nI i4)), (2, .int z), (0, .ref o), (1, .int d)]) ?_ 0 ⟨rfl, hI, lv_sub hl [0, 1, 2, 3] rfl⟩
  intro i4 z H locs ls ⟨hz4, hI, hl⟩ hi4 ih4
  obtain ⟨x4_2, rfl⟩ : ∃ x, x = z := ⟨_, rfl⟩
  refine lv_iload_n hx hb dX8_publicBy_4 rfl (lv_at hl 0 rfl) ?_
  refine lv_bipush (v := 16) hx hb dX8_publicBy_5 (by decide) ?_
  refine lv_icmp_ge (tgt := 46) hx hb dX8_publicBy_7 (by decide) (fun c_1 => ?_) (fun c_1 => ?_)
  · obtain rfl : i4 = 16 := w_exit (by decide : (16 : Int32) = nI 16) hi4 (by decide) c_1
    obtain rfl : x4_2 = (lX8_publicBy_4 S d 16) := by rw [← hz4]
    refine lv_iload_n hx hb dX8_publicBy_46 rfl (lv_at hl 1 rfl) ?_
    exact W.iret (v := (lX8_publicBy_4 S d 16)) hx hb hr (fun t9 ht9 hW9 => ⟨⟨(lX8_publicBy_4 S d 16), (), rfl, hG.symm, trivial⟩, hI.2.F ht9⟩) hI.2.2.2 dX8_publicBy_47
  · have hlt4 : i4 < 16 := w_in (by decide : (16 : Int32) = nI 16) hi4 (by decide) c_1
    have hB4 : iX8_publicBy_4 S d i4 x4_2 = iX8_publicBy_4 S d i4 x4_2 := rfl
    refine lv_iload_n hx hb dX8_publicBy_10 rfl (lv_at hl 1 rfl) ?_
    refine lv_aload_n hx hb dX8_publicBy_11 rfl (lv_at hl 2 rfl) ?_
    refine mr_ga hC hin hI 20 (by decide) k_56 dX8_publicBy_12 ?_
    refine lv_iload_n hx hb dX8_publicBy_15 rfl (lv_at hl 0 rfl) ?_
    refine mr_ld hC hI 20 (by decide) (by decide) (show vp_in (nI i4) 16 from vp_in_nI (by omega) (by decide)) (v := (S 20 i4)) ((congrArg (S 20) (nI_clamp (by omega))).trans rfl) dX8_publicBy_16 ?_
    refine lv_iconst (v := (-1)) hx hb dX8_publicBy_17 (by decide) ?_
    refine lv_icmp_eq (tgt := 37) hx hb dX8_publicBy_18 (by decide) (fun c_2 => ?_) (fun c_2 => ?_)
    · have hB4 := hB4.trans (if_pos c_2)
      refine lv_iconst (v := 0) hx hb dX8_publicBy_37 (by decide) ?_
      refine lv_ior hx hb dX8_publicBy_38 ?_
      refine lv_istore_n (lv' := [(2, .int (x4_2 ||| 0)), (3, .int (nI i4)), (0, .ref o), (1, .int d)]) hx hb dX8_publicBy_39 rfl hl (by decide) rfl (fun ls hl => ?_)
      refine lv_iinc (v := (nI (i4 + 1))) (lv' := [(3, .int (nI (i4 + 1))), (2, .int (x4_2 ||| 0)), (0, .ref o), (1, .int d)]) hx hb dX8_publicBy_40 hl (k := 1) rfl (nI_1 i4) (by decide) rfl (fun ls hl => ?_)
      refine lv_goto (tgt := 4) hx hb dX8_publicBy_43 (by decide) ?_
      exact ih4 (x4_2 ||| 0) _ _ ls hlt4 ⟨(by show _ = iX8_publicBy_4 S d i4 (lX8_publicBy_4 S d i4); rw [← hz4]; exact hB4.symm), hI, lv_sub hl [0, 1, 2, 3] rfl⟩
    · have hB4 := hB4.trans (if_neg c_2)
      refine lv_aload_n hx hb dX8_publicBy_21 rfl (lv_at hl 2 rfl) ?_
      refine mr_ga hC hin hI 20 (by decide) k_56 dX8_publicBy_22 ?_
      refine lv_iload_n hx hb dX8_publicBy_25 rfl (lv_at hl 0 rfl) ?_
      refine mr_ld hC hI 20 (by decide) (by decide) (show vp_in (nI i4) 16 from vp_in_nI (by omega) (by decide)) (v := (S 20 i4)) ((congrArg (S 20) (nI_clamp (by omega))).trans rfl) dX8_publicBy_26 ?_
      refine lv_iload_n hx hb dX8_publicBy_27 rfl (lv_at hl 3 rfl) ?_
      refine lv_icmp_gt (tgt := 37) hx hb dX8_publicBy_28 (by decide) (fun c_3 => ?_) (fun c_3 => ?_)
      · have hB4 := hB4.trans (if_pos c_3)
        refine lv_iconst (v := 0) hx hb dX8_publicBy_37 (by decide) ?_
        refine lv_ior hx hb dX8_publicBy_38 ?_
        refine lv_istore_n (lv' := [(2, .int (x4_2 ||| 0)), (3, .int (nI i4)), (0, .ref o), (1, .int d)]) hx hb dX8_publicBy_39 rfl hl (by decide) rfl (fun ls hl => ?_)
        refine lv_iinc (v := (nI (i4 + 1))) (lv' := [(3, .int (nI (i4 + 1))), (2, .int (x4_2 ||| 0)), (0, .ref o), (1, .int d)]) hx hb dX8_publicBy_40 hl (k := 1) rfl (nI_1 i4) (by decide) rfl (fun ls hl => ?_)
        refine lv_goto (tgt := 4) hx hb dX8_publicBy_43 (by decide) ?_
        exact ih4 (x4_2 ||| 0) _ _ ls hlt4 ⟨(by show _ = iX8_publicBy_4 S d i4 (lX8_publicBy_4 S d i4); rw [← hz4]; exact hB4.symm), hI, lv_sub hl [0, 1, 2, 3] rfl⟩
      · have hB4 := hB4.trans (if_neg c_3)
        refine lv_iconst (v := 1) hx hb dX8_publicBy_31 (by decide) ?_
        refine lv_iload_n hx hb dX8_publicBy_32 rfl (lv_at hl 0 rfl) ?_
        refine lv_ishl hx hb dX8_publicBy_33 ?_
        refine lv_goto (tgt := 38) hx hb dX8_publicBy_34 (by decide) ?_
        refine lv_ior hx hb dX8_publicBy_38 ?_
        refine lv_istore_n (lv' := [(2, .int (x4_2 ||| (1 <<< ((nI i4) &&& 31)))), (3, .int (nI i4)), (0, .ref o), (1, .int d)]) hx hb dX8_publicBy_39 rfl hl (by decide) rfl (fun ls hl => ?_)
        refine lv_iinc (v := (nI (i4 + 1))) (lv' := [(3, .int (nI (i4 + 1))), (2, .int (x4_2 ||| (1 <<< ((nI i4) &&& 31)))), (0, .ref o), (1, .int d)]) hx hb dX8_publicBy_40 hl (k := 1) rfl (nI_1 i4) (by decide) rfl (fun ls hl => ?_)
        refine lv_goto (tgt := 4) hx hb dX8_publicBy_43 (by decide) ?_
        exact ih4 (x4_2 ||| (1 <<< ((nI i4) &&& 31))) _ _ ls hlt4 ⟨(by show _ = iX8_publicBy_4 S d i4 (lX8_publicBy_4 S d i4); rw [← hz4]; exact hB4.symm), hI, lv_sub hl [0, 1, 2, 3] rfl⟩
set_option maxHeartbeats 4000000 in
set_option maxRecDepth 100000 in
theorem qX8_isHalf (l : Launch) (D : va_G) (cy : Nat → ClassId) (o : Nat) (ad : Nat → Nat) (S : St) (th : Int32) (set : Int32) (s_ : Nat) (hs_ : s_ < 8) {x_s_ : Int32} (es_ : x_s_ = nI s_) : MPure l D cy o ad S th yX8_isHalf wsX8_isHalf ({ frames := 1, cells := 0, slots := 0, locals := 22 } : Room) [.int set, .int x_s_] (fX8_isHalf S set s_) := by
  subst es_
  refine Met.ofW (cc := cX8_isHalf) (maxL := 3) (ret := (some .boolean)) (by decide) rfl ?_
  intro p e s m args below meth c s₁ B hml hv
  obtain ⟨rfl, hM, hK⟩ := hv
  have hx := B.exec
  have hb := B.bytes
  have hr := B.returns
  have hts := atoms_spec (ws := wsX8_isHalf) B.pre
  have hown : s.vm.findClass RX8 = some m.cls := findClass_of_methodNamed B.named
  have hlocks := B.notSynchronized
  have hC : MC p s m _ c cX8_isHalf 3 D cy wsX8_isHalf := ⟨⟨hx, hb, hml, hown, hts⟩, hK⟩
  have hin : ∀ w ∈ wsX80, w ∈ wsX8_isHalf := fun _ h => List.mem_cons_of_mem _ (List.mem_append_right _ (h))
  obtain ⟨A, hAd⟩ : ∃ A : Nat → Prop, A = fun _ => False := ⟨_, rfl⟩
  have hI : MI (fun _ => False) D cy o ad s S th s.heap [] := ⟨hM, va_S.rf⟩
  have k_25 := hts (.fieldLink RX8 25 "RelatorsBenchModel" "factsOf" "[I") (List.mem_cons_of_mem _ (List.mem_append_left _ (List.mem_of_getElem? (i := 0) rfl)))
  have hl := lv_entry ([.ref o, .int set, .int (nI s_)]) (n := 3) (Nat.le_of_ble_eq_true rfl)
  rw [lg_entry_eq]
  generalize (lg_sl ([.ref o, .int set, .int (nI s_)]) ++ List.replicate (3 - (lg_sl ([.ref o, .int set, .int (nI s_)])).length) Slot.unset).toArray = ls at hl ⊢
  have hl : lv_has ls 3 [(0, .ref o), (1, .int set), (2, .int (nI s_))] := hl
  subst hAd
  have hG : fX8_isHalf S set s_ = fX8_isHalf S set s_ := rfl
  refine lv_iconst (v := 2) hx hb dX8_isHalf_0 (by decide) ?_
  refine lv_iload_n hx hb dX8_isHalf_1 rfl (lv_at hl 1 rfl) ?_
  refine lv_aload_n hx hb dX8_isHalf_2 rfl (lv_at hl 0 rfl) ?_
  refine mr_ga hC hin hI 9 (by decide) k_25 dX8_isHalf_3 ?_
  refine lv_iload_n hx hb dX8_isHalf_6 rfl (lv_at hl 2 rfl) ?_
  refine mr_ld hC hI 9 (by decide) (by decide) (show vp_in (nI s_) 8 from vp_in_nI (by omega) (by decide)) (v := (S 9 s_)) ((congrArg (S 9) (nI_clamp (by omega))).trans rfl) dX8_isHalf_7 ?_
  refine lv_iand hx hb dX8_isHalf_8 ?_
  refine mr_callS (As := [.int (set &&& (S 9 s_))]) (rest := [.int 2]) hC hI (qX8_bits l (set &&& (S 9 s_))) (va_cwS 1 hts gX8_isHalf_X8_bits rfl rfl rfl (by decide +kernel) ⟨Nat.le_of_ble_eq_true rfl, Nat.le_of_ble_eq_true rfl⟩) rfl hl.1 rfl (Nat.le_of_ble_eq_true rfl) dX8_isHalf_9 ⟨Nat.zero_le _, Nat.zero_le _⟩ (fun H locs hI => ?_)
  refine lv_imul hx hb dX8_isHalf_12 ?_
  refine lv_aload_n hx hb dX8_isHalf_13 rfl (lv_at hl 0 rfl) ?_
  refine mr_ga hC hin hI 9 (by decide) k_25 dX8_isHalf_14 ?_
  refine lv_iload_n hx hb dX8_isHalf_17 rfl (lv_at hl 2 rfl) ?_
  refine mr_ld hC hI 9 (by decide) (by decide) (show vp_in (nI s_) 8 from vp_in_nI (by omega) (by decide)) (v := (S 9 s_)) ((congrArg (S 9) (nI_clamp (by omega))).trans rfl) dX8_isHalf_18 ?_
  refine mr_callS (As := [.int (S 9 s_)]) (rest := [.int (2 * (fX8_bits (set &&& (S 9 s_))))]) hC hI (qX8_bits l (S 9 s_)) (va_cwS 1 hts gX8_isHalf_X8_bits rfl rfl rfl (by decide +kernel) ⟨Nat.le_of_ble_eq_true rfl, Nat.le_of_ble_eq_true rfl⟩) rfl hl.1 rfl (Nat.le_of_ble_eq_true rfl) dX8_isHalf_19 ⟨Nat.zero_le _, Nat.zero_le _⟩ (fun H locs hI => ?_)
  refine lv_icmp_lt (tgt := 29) hx hb dX8_isHalf_22 (by decide) (fun c_1 => ?_) (fun c_1 => ?_)
  · have hG := hG.trans (if_pos c_1)
    refine lv_iconst (v := 0) hx hb dX8_isHalf_29 (by decide) ?_
    exact W.zret (v := 0) (ty := .boolean) hx hb hr rfl (fun t9 ht9 hW9 => ⟨⟨0, (), rfl, hG.symm, trivial⟩, hI.2.F ht9⟩) hI.2.2.2 dX8_isHalf_30
  · have hG := hG.trans (if_neg c_1)
    refine lv_iconst (v := 1) hx hb dX8_isHalf_25 (by decide) ?_
    refine lv_goto (tgt := 30) hx hb dX8_isHalf_26 (by decide) ?_
    exact W.zret (v := 1) (ty := .boolean) hx hb hr rfl (fun t9 ht9 hW9 => ⟨⟨1, (), rfl, hG.symm, trivial⟩, hI.2.F ht9⟩) hI.2.2.2 dX8_isHalf_30
set_option maxHeartbeats 4000000 in
set_option maxRecDepth 100000 in
theorem qX8_dayOf (l : Launch) (D : va_G) (cy : Nat → ClassId) (o : Nat) (ad : Nat → Nat) (S : St) (th : Int32) (hN : MInv S) (k : Nat) (hk : k < 12) {x_k : Int32} (ek : x_k = nI k) (s_ : Nat) (hs_ : s_ < 8) {x_s_ : Int32} (es_ : x_s_ = nI s_) : MPure l D cy o ad S th yX8_dayOf wsX8_dayOf ({ frames := 2, cells := 0, slots := 0, locals := 44 } : Room) [.int x_k, .int x_s_] (fX8_dayOf S k s_) := by
  subst ek
  subst es_
  refine Met.ofW (cc := cX8_dayOf) (maxL := 4) (ret := (some .int)) (by decide) rfl ?_
  intro p e s m args below meth c s₁ B hml hv
  obtain ⟨rfl, hM, hK⟩ := hv
  have hx := B.exec
  have hb := B.bytes
  have hr := B.returns
  have hts := atoms_spec (ws := wsX8_dayOf) B.pre
  have hown : s.vm.findClass RX8 = some m.cls := findClass_of_methodNamed B.named
  have hlocks := B.notSynchronized
  have hC : MC p s m _ c cX8_dayOf 4 D cy wsX8_dayOf := ⟨⟨hx, hb, hml, hown, hts⟩, hK⟩
  have hin : ∀ w ∈ wsX80, w ∈ wsX8_dayOf := fun _ h => List.mem_cons_of_mem _ (List.mem_append_right _ (h))
  obtain ⟨A, hAd⟩ : ∃ A : Nat → Prop, A = fun _ => False := ⟨_, rfl⟩
  have hI : MI (fun _ => False) D cy o ad s S th s.heap [] := ⟨hM, va_S.rf⟩
  have hb7 := hN.b7
  have hb15 := hN.b15
  have hb23 := hN.b23
  have hb28 := hN.b28
  have hb42 := hN.b42
  have k_80 := hts (.fieldLink RX8 80 "RelatorsBenchModel" "against" "[I") (List.mem_cons_of_mem _ (List.mem_append_left _ (List.mem_of_getElem? (i := 0) rfl)))
  have k_22 := hts (.fieldLink RX8 22 "RelatorsBenchModel" "firmOf" "[I") (List.mem_cons_of_mem _ (List.mem_append_left _ (List.mem_of_getElem? (i := 1) rfl)))
  have k_86 := hts (.fieldLink RX8 86 "RelatorsBenchModel" "facts" "[I") (List.mem_cons_of_mem _ (List.mem_append_left _ (List.mem_of_getElem? (i := 2) rfl)))
  have k_83 := hts (.fieldLink RX8 83 "RelatorsBenchModel" "firstFacts" "[I") (List.mem_cons_of_mem _ (List.mem_append_left _ (List.mem_of_getElem? (i := 3) rfl)))
  have k_25 := hts (.fieldLink RX8 25 "RelatorsBenchModel" "factsOf" "[I") (List.mem_cons_of_mem _ (List.mem_append_left _ (List.mem_of_getElem? (i := 4) rfl)))
  have k_203 := hts (.fieldLink RX8 203 "RelatorsBenchModel" "amendments" "I") (List.mem_cons_of_mem _ (List.mem_append_left _ (List.mem_of_getElem? (i := 6) rfl)))
  have k_116 := hts (.fieldLink RX8 116 "RelatorsBenchModel" "amended" "[I") (List.mem_cons_of_mem _ (List.mem_append_left _ (List.mem_of_getElem? (i := 7) rfl)))
  have k_119 := hts (.fieldLink RX8 119 "RelatorsBenchModel" "amendedTo" "[I") (List.mem_cons_of_mem _ (List.mem_append_left _ (List.mem_of_getElem? (i := 8) rfl)))
  have k_122 := hts (.fieldLink RX8 122 "RelatorsBenchModel" "amendedOn" "[I") (List.mem_cons_of_mem _ (List.mem_append_left _ (List.mem_of_getElem? (i := 9) rfl)))
  have k_89 := hts (.fieldLink RX8 89 "RelatorsBenchModel" "filed" "[I") (List.mem_cons_of_mem _ (List.mem_append_left _ (List.mem_of_getElem? (i := 5) rfl)))
  have hl := lv_entry ([.ref o, .int (nI k), .int (nI s_)]) (n := 4) (Nat.le_of_ble_eq_true rfl)
  rw [lg_entry_eq]
  generalize (lg_sl ([.ref o, .int (nI k), .int (nI s_)]) ++ List.replicate (4 - (lg_sl ([.ref o, .int (nI k), .int (nI s_)])).length) Slot.unset).toArray = ls at hl ⊢
  have hl : lv_has ls 4 [(0, .ref o), (1, .int (nI k)), (2, .int (nI s_))] := hl
  subst hAd
  have hG : fX8_dayOf S k s_ = fX8_dayOf S k s_ := rfl
  refine lv_aload_n hx hb dX8_dayOf_0 rfl (lv_at hl 0 rfl) ?_
  refine mr_ga hC hin hI 30 (by decide) k_80 dX8_dayOf_1 ?_
  refine lv_iload_n hx hb dX8_dayOf_4 rfl (lv_at hl 1 rfl) ?_
  refine mr_ld hC hI 30 (by decide) (by decide) (show vp_in (nI k) 12 from vp_in_nI (by omega) (by decide)) (v := (S 30 k)) ((congrArg (S 30) (nI_clamp (by omega))).trans rfl) dX8_dayOf_5 ?_
  refine lv_aload_n hx hb dX8_dayOf_6 rfl (lv_at hl 0 rfl) ?_
  refine mr_ga hC hin hI 8 (by decide) k_22 dX8_dayOf_7 ?_
  refine lv_iload_n hx hb dX8_dayOf_10 rfl (lv_at hl 2 rfl) ?_
  refine mr_ld hC hI 8 (by decide) (by decide) (show vp_in (nI s_) 8 from vp_in_nI (by omega) (by decide)) (v := (S 8 s_)) ((congrArg (S 8) (nI_clamp (by omega))).trans rfl) dX8_dayOf_11 ?_
  refine lv_icmp_ne (tgt := 29) hx hb dX8_dayOf_12 (by decide) (fun c_1 => ?_) (fun c_1 => ?_)
  · have hG := hG.trans (if_neg c_1)
    refine lv_iconst (v := (-1)) hx hb dX8_dayOf_29 (by decide) ?_
    exact W.iret (v := (-1)) hx hb hr (fun t9 ht9 hW9 => ⟨⟨(-1), (), rfl, hG.symm, trivial⟩, hI.2.F ht9⟩) hI.2.2.2 dX8_dayOf_30
  · have hG := hG.trans (if_pos c_1)
    refine lv_aload_n hx hb dX8_dayOf_15 rfl (lv_at hl 0 rfl) ?_
    refine lv_aload_n hx hb dX8_dayOf_16 rfl (lv_at hl 0 rfl) ?_
    refine mr_ga hC hin hI 32 (by decide) k_86 dX8_dayOf_17 ?_
    refine lv_iload_n hx hb dX8_dayOf_20 rfl (lv_at hl 1 rfl) ?_
    refine mr_ld hC hI 32 (by decide) (by decide) (show vp_in (nI k) 12 from vp_in_nI (by omega) (by decide)) (v := (S 32 k)) ((congrArg (S 32) (nI_clamp (by omega))).trans rfl) dX8_dayOf_21 ?_
    refine lv_iload_n hx hb dX8_dayOf_22 rfl (lv_at hl 2 rfl) ?_
    refine mr_call (As := [.int (S 32 k), .int (nI s_)]) (rest := []) hC hI (qX8_isHalf l D cy o ad S th (S 32 k) s_ (by omega) rfl) (cwV 2 hts gX8_dayOf_X8_isHalf rfl rfl rfl (by decide +kernel) ⟨Nat.le_of_ble_eq_true rfl, Nat.le_of_ble_eq_true rfl⟩) rfl hl.1 rfl (Nat.le_of_ble_eq_true rfl) dX8_dayOf_23 ⟨Nat.zero_le _, Nat.zero_le _⟩ (fun H locs hI => ?_)
    refine lv_if_ne (tgt := 31) hx hb dX8_dayOf_26 (by decide) (fun c_2 => ?_) (fun c_2 => ?_)
    · have hG := hG.trans (if_neg c_2)
      refine lv_aload_n hx hb dX8_dayOf_31 rfl (lv_at hl 0 rfl) ?_
      refine mr_ga hC hin hI 31 (by decide) k_83 dX8_dayOf_32 ?_
      refine lv_iload_n hx hb dX8_dayOf_35 rfl (lv_at hl 1 rfl) ?_
      refine mr_ld hC hI 31 (by decide) (by decide) (show vp_in (nI k) 12 from vp_in_nI (by omega) (by decide)) (v := (S 31 k)) ((congrArg (S 31) (nI_clamp (by omega))).trans rfl) dX8_dayOf_36 ?_
      refine lv_aload_n hx hb dX8_dayOf_37 rfl (lv_at hl 0 rfl) ?_
      refine mr_ga hC hin hI 9 (by decide) k_25 dX8_dayOf_38 ?_
      refine lv_iload_n hx hb dX8_dayOf_41 rfl (lv_at hl 2 rfl) ?_
      refine mr_ld hC hI 9 (by decide) (by decide) (show vp_in (nI s_) 8 from vp_in_nI (by omega) (by decide)) (v := (S 9 s_)) ((congrArg (S 9) (nI_clamp (by omega))).trans rfl) dX8_dayOf_42 ?_
      refine lv_iand hx hb dX8_dayOf_43 ?_
      refine lv_if_eq (tgt := 54) hx hb dX8_dayOf_44 (by decide) (fun c_3 => ?_) (fun c_3 => ?_)
      · have hG := hG.trans (if_pos c_3)
        refine lv_iconst (v := 0) hx hb dX8_dayOf_54 (by decide) ?_
        refine lv_istore_n (lv' := [(3, .int 0), (0, .ref o), (1, .int (nI k)), (2, .int (nI s_))]) hx hb dX8_dayOf_55 rfl hl (by decide) rfl (fun ls hl => ?_)
        refine w_loop (σ := Unit) (nam S) 56 (fun i56 z H locs ls => fX8_dayOf S k s_ = rX8_dayOf_56 S k s_ ((nam S) - i56) i56 ∧ MI (fun _ => False) D cy o ad s S th H locs ∧ lv_has ls 4 [(3, .int (nI i56)), (0, .ref o), (1, .int (nI k)), (2, .int (nI s_))]) ?_ () ⟨hG, hI, lv_sub hl [0, 1, 2, 3] rfl⟩
        intro i56 z H locs ls ⟨hG, hI, hl⟩ hi56 ih56
        refine lv_iload_n hx hb dX8_dayOf_56 rfl (lv_at hl 0 rfl) ?_
        refine lv_aload_n hx hb dX8_dayOf_57 rfl (lv_at hl 1 rfl) ?_
        refine mr_gi hC hin hI 42 (by decide) (by decide) (by decide) k_203 (v := (S 42 0)) rfl dX8_dayOf_58 ?_
        refine lv_icmp_ge (tgt := 101) hx hb dX8_dayOf_61 (by decide) (fun c_4 => ?_) (fun c_4 => ?_)
        · have hxN : i56 = nam S := w_exit hN.n42 hi56 (by have := hN.b42; omega) c_4
          rw [show (nam S) - i56 = 0 by omega] at hG
          have hG := hG.trans (rX8_dayOf_56_0 S k s_ i56)
          refine lv_iconst (v := (-1)) hx hb dX8_dayOf_101 (by decide) ?_
          exact W.iret (v := (-1)) hx hb hr (fun t9 ht9 hW9 => ⟨⟨(-1), (), rfl, hG.symm, trivial⟩, hI.2.F ht9⟩) hI.2.2.2 dX8_dayOf_102
        · have hlt56 : i56 < nam S := w_in hN.n42 hi56 (by have := hN.b42; omega) c_4
          rw [show (nam S) - i56 = ((nam S) - (i56 + 1)) + 1 by omega] at hG
          have hG := hG.trans (rX8_dayOf_56_s S k s_ i56 ((nam S) - (i56 + 1)))
          refine lv_aload_n hx hb dX8_dayOf_64 rfl (lv_at hl 1 rfl) ?_
          refine mr_ga hC hin hI 43 (by decide) k_116 dX8_dayOf_65 ?_
          refine lv_iload_n hx hb dX8_dayOf_68 rfl (lv_at hl 0 rfl) ?_
          refine mr_ld hC hI 43 (by decide) (by decide) (show vp_in (nI i56) 40 from vp_in_nI (by omega) (by decide)) (v := (S 43 i56)) ((congrArg (S 43) (nI_clamp (by omega))).trans rfl) dX8_dayOf_69 ?_
          refine lv_iload_n hx hb dX8_dayOf_70 rfl (lv_at hl 2 rfl) ?_
          refine lv_icmp_ne (tgt := 95) hx hb dX8_dayOf_71 (by decide) (fun c_5 => ?_) (fun c_5 => ?_)
          · have hG := hG.trans (if_neg c_5)
            refine lv_iinc (v := (nI (i56 + 1))) (lv' := [(3, .int (nI (i56 + 1))), (0, .ref o), (1, .int (nI k)), (2, .int (nI s_))]) hx hb dX8_dayOf_95 hl (k := 0) rfl (nI_1 i56) (by decide) rfl (fun ls hl => ?_)
            refine lv_goto (tgt := 56) hx hb dX8_dayOf_98 (by decide) ?_
            exact ih56 () _ _ ls hlt56 ⟨hG, hI, lv_sub hl [0, 1, 2, 3] rfl⟩
          · have hG := hG.trans (if_pos c_5)
            refine lv_aload_n hx hb dX8_dayOf_74 rfl (lv_at hl 1 rfl) ?_
            refine lv_aload_n hx hb dX8_dayOf_75 rfl (lv_at hl 1 rfl) ?_
            refine mr_ga hC hin hI 44 (by decide) k_119 dX8_dayOf_76 ?_
            refine lv_iload_n hx hb dX8_dayOf_79 rfl (lv_at hl 0 rfl) ?_
            refine mr_ld hC hI 44 (by decide) (by decide) (show vp_in (nI i56) 40 from vp_in_nI (by omega) (by decide)) (v := (S 44 i56)) ((congrArg (S 44) (nI_clamp (by omega))).trans rfl) dX8_dayOf_80 ?_
            refine lv_iload_n hx hb dX8_dayOf_81 rfl (lv_at hl 3 rfl) ?_
            refine mr_call (As := [.int (S 44 i56), .int (nI s_)]) (rest := []) hC hI (qX8_isHalf l D cy o ad S th (S 44 i56) s_ (by omega) rfl) (cwV 2 hts gX8_dayOf_X8_isHalf rfl rfl rfl (by decide +kernel) ⟨Nat.le_of_ble_eq_true rfl, Nat.le_of_ble_eq_true rfl⟩) rfl hl.1 rfl (Nat.le_of_ble_eq_true rfl) dX8_dayOf_82 ⟨Nat.zero_le _, Nat.zero_le _⟩ (fun H locs hI => ?_)
            refine lv_if_eq (tgt := 95) hx hb dX8_dayOf_85 (by decide) (fun c_6 => ?_) (fun c_6 => ?_)
            · have hG := hG.trans (if_pos c_6)
              refine lv_iinc (v := (nI (i56 + 1))) (lv' := [(3, .int (nI (i56 + 1))), (0, .ref o), (1, .int (nI k)), (2, .int (nI s_))]) hx hb dX8_dayOf_95 hl (k := 0) rfl (nI_1 i56) (by decide) rfl (fun ls hl => ?_)
              refine lv_goto (tgt := 56) hx hb dX8_dayOf_98 (by decide) ?_
              exact ih56 () _ _ ls hlt56 ⟨hG, hI, lv_sub hl [0, 1, 2, 3] rfl⟩
            · have hG := hG.trans (if_neg c_6)
              refine lv_aload_n hx hb dX8_dayOf_88 rfl (lv_at hl 1 rfl) ?_
              refine mr_ga hC hin hI 45 (by decide) k_122 dX8_dayOf_89 ?_
              refine lv_iload_n hx hb dX8_dayOf_92 rfl (lv_at hl 0 rfl) ?_
              refine mr_ld hC hI 45 (by decide) (by decide) (show vp_in (nI i56) 40 from vp_in_nI (by omega) (by decide)) (v := (S 45 i56)) ((congrArg (S 45) (nI_clamp (by omega))).trans rfl) dX8_dayOf_93 ?_
              exact W.iret (v := (S 45 i56)) hx hb hr (fun t9 ht9 hW9 => ⟨⟨S 45 i56, (), rfl, hG.symm, trivial⟩, hI.2.F ht9⟩) hI.2.2.2 dX8_dayOf_94
      · have hG := hG.trans (if_neg c_3)
        refine lv_aload_n hx hb dX8_dayOf_47 rfl (lv_at hl 0 rfl) ?_
        refine mr_ga hC hin hI 33 (by decide) k_89 dX8_dayOf_48 ?_
        refine lv_iload_n hx hb dX8_dayOf_51 rfl (lv_at hl 1 rfl) ?_
        refine mr_ld hC hI 33 (by decide) (by decide) (show vp_in (nI k) 12 from vp_in_nI (by omega) (by decide)) (v := (S 33 k)) ((congrArg (S 33) (nI_clamp (by omega))).trans rfl) dX8_dayOf_52 ?_
        exact W.iret (v := (S 33 k)) hx hb hr (fun t9 ht9 hW9 => ⟨⟨S 33 k, (), rfl, hG.symm, trivial⟩, hI.2.F ht9⟩) hI.2.2.2 dX8_dayOf_53
    · have hG := hG.trans (if_pos c_2)
      refine lv_iconst (v := (-1)) hx hb dX8_dayOf_29 (by decide) ?_
      exact W.iret (v := (-1)) hx hb hr (fun t9 ht9 hW9 => ⟨⟨(-1), (), rfl, hG.symm, trivial⟩, hI.2.F ht9⟩) hI.2.2.2 dX8_dayOf_30
