/-! the readers of the reference, walked -/
set_option maxHeartbeats 4000000 in
set_option maxRecDepth 100000 in
theorem qX8_firstOf (l : Launch) (D : va_G) (cy : Nat → ClassId) (o : Nat) (ad : Nat → Nat) (S : St) (th : Int32) (hN : MInv S) (s_ : Nat) (hs_ : s_ < 8) {x_s_ : Int32} (es_ : x_s_ = nI s_) : MPure l D cy o ad S th yX8_firstOf wsX8_firstOf ({ frames := 3, cells := 0, slots := 0, locals := 67 } : Room) [.int x_s_] (fX8_firstOf S s_) := by
  subst es_
  refine Met.ofW (cc := cX8_firstOf) (maxL := 5) (ret := (some .int)) (by decide) rfl ?_
  intro p e s m args below meth c s₁ B hml hv
  obtain ⟨rfl, hM, hK⟩ := hv
  have hx := B.exec
  have hb := B.bytes
  have hr := B.returns
  have hts := atoms_spec (ws := wsX8_firstOf) B.pre
  have hown : s.vm.findClass RX8 = some m.cls := findClass_of_methodNamed B.named
  have hlocks := B.notSynchronized
  have hC : MC p s m _ c cX8_firstOf 5 D cy wsX8_firstOf := ⟨⟨hx, hb, hml, hown, hts⟩, hK⟩
  have hin : ∀ w ∈ wsX80, w ∈ wsX8_firstOf := fun _ h => List.mem_cons_of_mem _ (List.mem_append_right _ (h))
  obtain ⟨A, hAd⟩ : ∃ A : Nat → Prop, A = fun _ => False := ⟨_, rfl⟩
  have hI : MI (fun _ => False) D cy o ad s S th s.heap [] := ⟨hM, va_S.rf⟩
  have hb7 := hN.b7
  have hb15 := hN.b15
  have hb23 := hN.b23
  have hb28 := hN.b28
  have hb42 := hN.b42
  have k_163 := hts (.fieldLink RX8 163 "RelatorsBenchModel" "suits" "I") (List.mem_cons_of_mem _ (List.mem_append_left _ (List.mem_of_getElem? (i := 0) rfl)))
  have k_92 := hts (.fieldLink RX8 92 "RelatorsBenchModel" "how" "[I") (List.mem_cons_of_mem _ (List.mem_append_left _ (List.mem_of_getElem? (i := 1) rfl)))
  have hl := lv_entry ([.ref o, .int (nI s_)]) (n := 5) (Nat.le_of_ble_eq_true rfl)
  rw [lg_entry_eq]
  generalize (lg_sl ([.ref o, .int (nI s_)]) ++ List.replicate (5 - (lg_sl ([.ref o, .int (nI s_)])).length) Slot.unset).toArray = ls at hl ⊢
  have hl : lv_has ls 5 [(0, .ref o), (1, .int (nI s_))] := hl
  subst hAd
  have hG : fX8_firstOf S s_ = fX8_firstOf S s_ := rfl
  refine lv_iconst (v := (-1)) hx hb dX8_firstOf_0 (by decide) ?_
  refine lv_istore_n (lv' := [(2, .int (-1)), (0, .ref o), (1, .int (nI s_))]) hx hb dX8_firstOf_1 rfl hl (by decide) rfl (fun ls hl => ?_)
  refine lv_iconst (v := 0) hx hb dX8_firstOf_2 (by decide) ?_
  refine lv_istore_n (lv' := [(3, .int 0), (2, .int (-1)), (0, .ref o), (1, .int (nI s_))]) hx hb dX8_firstOf_3 rfl hl (by decide) rfl (fun ls hl => ?_)
  refine w_loop (σ := Int32) (nsu S) 4 (fun i4 z H locs ls => z = lX8_firstOf_4 S s_ i4 ∧ (z = (-1) ∨ vp_in z 12) ∧ MI (fun _ => False) D cy o ad s S th H locs ∧ lv_has ls 5 [(3, .int (nI i4)), (2, .int z), (0, .ref o), (1, .int (nI s_))]) ?_ (-1) ⟨rfl, Or.inl rfl, hI, lv_sub hl [0, 1, 2, 3] rfl⟩
  intro i4 z H locs ls ⟨hz4, hv4, hI, hl⟩ hi4 ih4
  obtain ⟨x4_2, rfl⟩ : ∃ x, x = z := ⟨_, rfl⟩
  refine lv_iload_n hx hb dX8_firstOf_4 rfl (lv_at hl 0 rfl) ?_
  refine lv_aload_n hx hb dX8_firstOf_5 rfl (lv_at hl 2 rfl) ?_
  refine mr_gi hC hin hI 28 (by decide) (by decide) (by decide) k_163 (v := (S 28 0)) rfl dX8_firstOf_6 ?_
  refine lv_icmp_ge (tgt := 76) hx hb dX8_firstOf_9 (by decide) (fun c_1 => ?_) (fun c_1 => ?_)
  · obtain rfl : i4 = nsu S := w_exit hN.n28 hi4 (by have := hN.b28; omega) c_1
    obtain rfl : x4_2 = (lX8_firstOf_4 S s_ (nsu S)) := by rw [← hz4]
    refine lv_iload_n hx hb dX8_firstOf_76 rfl (lv_at hl 1 rfl) ?_
    exact W.iret (v := (lX8_firstOf_4 S s_ (nsu S))) hx hb hr (fun t9 ht9 hW9 => ⟨⟨(lX8_firstOf_4 S s_ (nsu S)), (), rfl, hG.symm, trivial⟩, hI.2.F ht9⟩) hI.2.2.2 dX8_firstOf_77
  · have hlt4 : i4 < nsu S := w_in hN.n28 hi4 (by have := hN.b28; omega) c_1
    have hB4 : iX8_firstOf_4 S s_ i4 x4_2 = iX8_firstOf_4 S s_ i4 x4_2 := rfl
    refine lv_aload_n hx hb dX8_firstOf_12 rfl (lv_at hl 2 rfl) ?_
    refine mr_ga hC hin hI 34 (by decide) k_92 dX8_firstOf_13 ?_
    refine lv_iload_n hx hb dX8_firstOf_16 rfl (lv_at hl 0 rfl) ?_
    refine mr_ld hC hI 34 (by decide) (by decide) (show vp_in (nI i4) 12 from vp_in_nI (by omega) (by decide)) (v := (S 34 i4)) ((congrArg (S 34) (nI_clamp (by omega))).trans rfl) dX8_firstOf_17 ?_
    refine lv_iconst (v := 3) hx hb dX8_firstOf_18 (by decide) ?_
    refine lv_icmp_eq (tgt := 36) hx hb dX8_firstOf_19 (by decide) (fun c_2 => ?_) (fun c_2 => ?_)
    · have hB4 := hB4.trans (if_pos c_2)
      refine lv_iconst (v := 0) hx hb dX8_firstOf_36 (by decide) ?_
      refine lv_istore (lv' := [(4, .int 0), (3, .int (nI i4)), (2, .int x4_2), (0, .ref o), (1, .int (nI s_))]) hx hb dX8_firstOf_37 hl (by decide) rfl (fun ls hl => ?_)
      refine lv_iload hx hb dX8_firstOf_39 (lv_at hl 0 rfl) ?_
      refine lv_if_eq (tgt := 68) hx hb dX8_firstOf_41 (by decide) (fun _ => ?_) (fun c => absurd (by decide : (0 : Int32) = 0) c)
      refine lv_iload_n hx hb dX8_firstOf_68 rfl (lv_at hl 2 rfl) ?_
      refine lv_istore_n (lv' := [(2, .int x4_2), (4, .int 0), (3, .int (nI i4)), (0, .ref o), (1, .int (nI s_))]) hx hb dX8_firstOf_69 rfl hl (by decide) rfl (fun ls hl => ?_)
      refine lv_iinc (v := (nI (i4 + 1))) (lv' := [(3, .int (nI (i4 + 1))), (2, .int x4_2), (4, .int 0), (0, .ref o), (1, .int (nI s_))]) hx hb dX8_firstOf_70 hl (k := 2) rfl (nI_1 i4) (by decide) rfl (fun ls hl => ?_)
      refine lv_goto (tgt := 4) hx hb dX8_firstOf_73 (by decide) ?_
      exact ih4 x4_2 _ _ ls hlt4 ⟨(by show _ = iX8_firstOf_4 S s_ i4 (lX8_firstOf_4 S s_ i4); rw [← hz4]; exact hB4.symm), (by first | exact hv4 | exact Or.inr (vp_in_nI (by omega) (by decide))), hI, lv_sub hl [0, 1, 3, 4] rfl⟩
    · have hB4 := hB4.trans (if_neg c_2)
      refine lv_aload_n hx hb dX8_firstOf_22 rfl (lv_at hl 2 rfl) ?_
      refine lv_iload_n hx hb dX8_firstOf_23 rfl (lv_at hl 0 rfl) ?_
      refine lv_iload_n hx hb dX8_firstOf_24 rfl (lv_at hl 3 rfl) ?_
      refine mr_call (As := [.int (nI i4), .int (nI s_)]) (rest := []) hC hI (qX8_dayOf l D cy o ad S th hN i4 (by omega) rfl s_ (by omega) rfl) (cwV 2 hts gX8_firstOf_X8_dayOf rfl rfl rfl (by decide +kernel) ⟨Nat.le_of_ble_eq_true rfl, Nat.le_of_ble_eq_true rfl⟩) rfl hl.1 rfl (Nat.le_of_ble_eq_true rfl) dX8_firstOf_25 ⟨Nat.zero_le _, Nat.zero_le _⟩ (fun H locs hI => ?_)
      refine lv_iconst (v := (-1)) hx hb dX8_firstOf_28 (by decide) ?_
      refine lv_icmp_eq (tgt := 36) hx hb dX8_firstOf_29 (by decide) (fun c_3 => ?_) (fun c_3 => ?_)
      · have hB4 := hB4.trans (if_pos c_3)
        refine lv_iconst (v := 0) hx hb dX8_firstOf_36 (by decide) ?_
        refine lv_istore (lv' := [(4, .int 0), (3, .int (nI i4)), (2, .int x4_2), (0, .ref o), (1, .int (nI s_))]) hx hb dX8_firstOf_37 hl (by decide) rfl (fun ls hl => ?_)
        refine lv_iload hx hb dX8_firstOf_39 (lv_at hl 0 rfl) ?_
        refine lv_if_eq (tgt := 68) hx hb dX8_firstOf_41 (by decide) (fun _ => ?_) (fun c => absurd (by decide : (0 : Int32) = 0) c)
        refine lv_iload_n hx hb dX8_firstOf_68 rfl (lv_at hl 2 rfl) ?_
        refine lv_istore_n (lv' := [(2, .int x4_2), (4, .int 0), (3, .int (nI i4)), (0, .ref o), (1, .int (nI s_))]) hx hb dX8_firstOf_69 rfl hl (by decide) rfl (fun ls hl => ?_)
        refine lv_iinc (v := (nI (i4 + 1))) (lv' := [(3, .int (nI (i4 + 1))), (2, .int x4_2), (4, .int 0), (0, .ref o), (1, .int (nI s_))]) hx hb dX8_firstOf_70 hl (k := 2) rfl (nI_1 i4) (by decide) rfl (fun ls hl => ?_)
        refine lv_goto (tgt := 4) hx hb dX8_firstOf_73 (by decide) ?_
        exact ih4 x4_2 _ _ ls hlt4 ⟨(by show _ = iX8_firstOf_4 S s_ i4 (lX8_firstOf_4 S s_ i4); rw [← hz4]; exact hB4.symm), (by first | exact hv4 | exact Or.inr (vp_in_nI (by omega) (by decide))), hI, lv_sub hl [0, 1, 3, 4] rfl⟩
      · have hB4 := hB4.trans (if_neg c_3)
        refine lv_iconst (v := 1) hx hb dX8_firstOf_32 (by decide) ?_
        refine lv_goto (tgt := 37) hx hb dX8_firstOf_33 (by decide) ?_
        refine lv_istore (lv' := [(4, .int 1), (3, .int (nI i4)), (2, .int x4_2), (0, .ref o), (1, .int (nI s_))]) hx hb dX8_firstOf_37 hl (by decide) rfl (fun ls hl => ?_)
        refine lv_iload hx hb dX8_firstOf_39 (lv_at hl 0 rfl) ?_
        refine lv_if_eq (tgt := 68) hx hb dX8_firstOf_41 (by decide) (fun c => absurd c (by decide : ¬ (1 : Int32) = 0)) (fun _ => ?_)
        refine lv_iload_n hx hb dX8_firstOf_44 rfl (lv_at hl 2 rfl) ?_
        refine lv_iconst (v := (-1)) hx hb dX8_firstOf_45 (by decide) ?_
        refine lv_icmp_eq (tgt := 64) hx hb dX8_firstOf_46 (by decide) (fun c_4 => ?_) (fun c_4 => ?_)
        · have hB4 := hB4.trans (if_pos c_4)
          refine lv_iload_n hx hb dX8_firstOf_64 rfl (lv_at hl 1 rfl) ?_
          refine lv_goto (tgt := 69) hx hb dX8_firstOf_65 (by decide) ?_
          refine lv_istore_n (lv' := [(2, .int (nI i4)), (4, .int 1), (3, .int (nI i4)), (0, .ref o), (1, .int (nI s_))]) hx hb dX8_firstOf_69 rfl hl (by decide) rfl (fun ls hl => ?_)
          refine lv_iinc (v := (nI (i4 + 1))) (lv' := [(3, .int (nI (i4 + 1))), (2, .int (nI i4)), (4, .int 1), (0, .ref o), (1, .int (nI s_))]) hx hb dX8_firstOf_70 hl (k := 2) rfl (nI_1 i4) (by decide) rfl (fun ls hl => ?_)
          refine lv_goto (tgt := 4) hx hb dX8_firstOf_73 (by decide) ?_
          exact ih4 (nI i4) _ _ ls hlt4 ⟨(by show _ = iX8_firstOf_4 S s_ i4 (lX8_firstOf_4 S s_ i4); rw [← hz4]; exact hB4.symm), (by first | exact hv4 | exact Or.inr (vp_in_nI (by omega) (by decide))), hI, lv_sub hl [0, 1, 3, 4] rfl⟩
        · have hB4 := hB4.trans (if_neg c_4)
          refine lv_aload_n hx hb dX8_firstOf_49 rfl (lv_at hl 3 rfl) ?_
          refine lv_iload_n hx hb dX8_firstOf_50 rfl (lv_at hl 1 rfl) ?_
          refine lv_iload_n hx hb dX8_firstOf_51 rfl (lv_at hl 4 rfl) ?_
          refine mr_call (As := [.int (nI i4), .int (nI s_)]) (rest := []) hC hI (qX8_dayOf l D cy o ad S th hN i4 (by omega) rfl s_ (by omega) rfl) (cwV 2 hts gX8_firstOf_X8_dayOf rfl rfl rfl (by decide +kernel) ⟨Nat.le_of_ble_eq_true rfl, Nat.le_of_ble_eq_true rfl⟩) rfl hl.1 rfl (Nat.le_of_ble_eq_true rfl) dX8_firstOf_52 ⟨Nat.zero_le _, Nat.zero_le _⟩ (fun H locs hI => ?_)
          refine lv_aload_n hx hb dX8_firstOf_55 rfl (lv_at hl 3 rfl) ?_
          refine lv_iload_n hx hb dX8_firstOf_56 rfl (lv_at hl 2 rfl) ?_
          refine lv_iload_n hx hb dX8_firstOf_57 rfl (lv_at hl 4 rfl) ?_
          refine mr_call (As := [.int x4_2, .int (nI s_)]) (rest := [.int (fX8_dayOf S i4 s_)]) hC hI (qX8_dayOf l D cy o ad S th hN (ix x4_2) (vp_ixl (hv4.resolve_left (by assumption))) (vp_ixe (hv4.resolve_left (by assumption))) s_ (by omega) rfl) (cwV 2 hts gX8_firstOf_X8_dayOf rfl rfl rfl (by decide +kernel) ⟨Nat.le_of_ble_eq_true rfl, Nat.le_of_ble_eq_true rfl⟩) rfl hl.1 rfl (Nat.le_of_ble_eq_true rfl) dX8_firstOf_58 ⟨Nat.zero_le _, Nat.zero_le _⟩ (fun H locs hI => ?_)
          refine lv_icmp_ge (tgt := 68) hx hb dX8_firstOf_61 (by decide) (fun c_5 => ?_) (fun c_5 => ?_)
          · have hB4 := hB4.trans (if_pos c_5)
            refine lv_iload_n hx hb dX8_firstOf_68 rfl (lv_at hl 2 rfl) ?_
            refine lv_istore_n (lv' := [(2, .int x4_2), (4, .int 1), (3, .int (nI i4)), (0, .ref o), (1, .int (nI s_))]) hx hb dX8_firstOf_69 rfl hl (by decide) rfl (fun ls hl => ?_)
            refine lv_iinc (v := (nI (i4 + 1))) (lv' := [(3, .int (nI (i4 + 1))), (2, .int x4_2), (4, .int 1), (0, .ref o), (1, .int (nI s_))]) hx hb dX8_firstOf_70 hl (k := 2) rfl (nI_1 i4) (by decide) rfl (fun ls hl => ?_)
            refine lv_goto (tgt := 4) hx hb dX8_firstOf_73 (by decide) ?_
            exact ih4 x4_2 _ _ ls hlt4 ⟨(by show _ = iX8_firstOf_4 S s_ i4 (lX8_firstOf_4 S s_ i4); rw [← hz4]; exact hB4.symm), (by first | exact hv4 | exact Or.inr (vp_in_nI (by omega) (by decide))), hI, lv_sub hl [0, 1, 3, 4] rfl⟩
          · have hB4 := hB4.trans (if_neg c_5)
            refine lv_iload_n hx hb dX8_firstOf_64 rfl (lv_at hl 1 rfl) ?_
            refine lv_goto (tgt := 69) hx hb dX8_firstOf_65 (by decide) ?_
            refine lv_istore_n (lv' := [(2, .int (nI i4)), (4, .int 1), (3, .int (nI i4)), (0, .ref o), (1, .int (nI s_))]) hx hb dX8_firstOf_69 rfl hl (by decide) rfl (fun ls hl => ?_)
            refine lv_iinc (v := (nI (i4 + 1))) (lv' := [(3, .int (nI (i4 + 1))), (2, .int (nI i4)), (4, .int 1), (0, .ref o), (1, .int (nI s_))]) hx hb dX8_firstOf_70 hl (k := 2) rfl (nI_1 i4) (by decide) rfl (fun ls hl => ?_)
            refine lv_goto (tgt := 4) hx hb dX8_firstOf_73 (by decide) ?_
            exact ih4 (nI i4) _ _ ls hlt4 ⟨(by show _ = iX8_firstOf_4 S s_ i4 (lX8_firstOf_4 S s_ i4); rw [← hz4]; exact hB4.symm), (by first | exact hv4 | exact Or.inr (vp_in_nI (by omega) (by decide))), hI, lv_sub hl [0, 1, 3, 4] rfl⟩
set_option maxHeartbeats 4000000 in
set_option maxRecDepth 100000 in
theorem qX8_bar (l : Launch) (D : va_G) (cy : Nat → ClassId) (o : Nat) (ad : Nat → Nat) (S : St) (th : Int32) (hN : MInv S) (k : Nat) (hk : k < 12) {x_k : Int32} (ek : x_k = nI k) (s_ : Nat) (hs_ : s_ < 8) {x_s_ : Int32} (es_ : x_s_ = nI s_) : MPure l D cy o ad S th yX8_bar wsX8_bar ({ frames := 4, cells := 0, slots := 0, locals := 91 } : Room) [.int x_k, .int x_s_] (fX8_bar S k s_) := by
  subst ek
  subst es_
  refine Met.ofW (cc := cX8_bar) (maxL := 6) (ret := (some .int)) (by decide) rfl ?_
  intro p e s m args below meth c s₁ B hml hv
  obtain ⟨rfl, hM, hK⟩ := hv
  have hx := B.exec
  have hb := B.bytes
  have hr := B.returns
  have hts := atoms_spec (ws := wsX8_bar) B.pre
  have hown : s.vm.findClass RX8 = some m.cls := findClass_of_methodNamed B.named
  have hlocks := B.notSynchronized
  have hC : MC p s m _ c cX8_bar 6 D cy wsX8_bar := ⟨⟨hx, hb, hml, hown, hts⟩, hK⟩
  have hin : ∀ w ∈ wsX80, w ∈ wsX8_bar := fun _ h => List.mem_cons_of_mem _ (List.mem_append_right _ (h))
  obtain ⟨A, hAd⟩ : ∃ A : Nat → Prop, A = fun _ => False := ⟨_, rfl⟩
  have hI : MI (fun _ => False) D cy o ad s S th s.heap [] := ⟨hM, va_S.rf⟩
  have hb7 := hN.b7
  have hb15 := hN.b15
  have hb23 := hN.b23
  have hb28 := hN.b28
  have hb42 := hN.b42
  have k_86 := hts (.fieldLink RX8 86 "RelatorsBenchModel" "facts" "[I") (List.mem_cons_of_mem _ (List.mem_append_left _ (List.mem_append_left _ (List.mem_of_getElem? (i := 0) rfl))))
  have k_25 := hts (.fieldLink RX8 25 "RelatorsBenchModel" "factsOf" "[I") (List.mem_cons_of_mem _ (List.mem_append_left _ (List.mem_append_left _ (List.mem_of_getElem? (i := 1) rfl))))
  have k_95 := hts (.fieldLink RX8 95 "RelatorsBenchModel" "wasJoined" "[Z") (List.mem_cons_of_mem _ (List.mem_append_left _ (List.mem_append_left _ (List.mem_of_getElem? (i := 2) rfl))))
  have hl := lv_entry ([.ref o, .int (nI k), .int (nI s_)]) (n := 6) (Nat.le_of_ble_eq_true rfl)
  rw [lg_entry_eq]
  generalize (lg_sl ([.ref o, .int (nI k), .int (nI s_)]) ++ List.replicate (6 - (lg_sl ([.ref o, .int (nI k), .int (nI s_)])).length) Slot.unset).toArray = ls at hl ⊢
  have hl : lv_has ls 6 [(0, .ref o), (1, .int (nI k)), (2, .int (nI s_))] := hl
  subst hAd
  have hG : fX8_bar S k s_ = fX8_bar S k s_ := rfl
  refine lv_aload_n hx hb dX8_bar_0 rfl (lv_at hl 0 rfl) ?_
  refine lv_iload_n hx hb dX8_bar_1 rfl (lv_at hl 1 rfl) ?_
  refine lv_iload_n hx hb dX8_bar_2 rfl (lv_at hl 2 rfl) ?_
  refine mr_call (As := [.int (nI k), .int (nI s_)]) (rest := []) hC hI (qX8_dayOf l D cy o ad S th hN k (by omega) rfl s_ (by omega) rfl) (cwV 2 hts gX8_bar_X8_dayOf rfl rfl rfl (by decide +kernel) ⟨Nat.le_of_ble_eq_true rfl, Nat.le_of_ble_eq_true rfl⟩) rfl hl.1 rfl (Nat.le_of_ble_eq_true rfl) dX8_bar_3 ⟨Nat.zero_le _, Nat.zero_le _⟩ (fun H locs hI => ?_)
  refine lv_istore_n (lv' := [(3, .int (fX8_dayOf S k s_)), (0, .ref o), (1, .int (nI k)), (2, .int (nI s_))]) hx hb dX8_bar_6 rfl hl (by decide) rfl (fun ls hl => ?_)
  refine lv_iload_n hx hb dX8_bar_7 rfl (lv_at hl 0 rfl) ?_
  refine lv_iconst (v := (-1)) hx hb dX8_bar_8 (by decide) ?_
  refine lv_icmp_ne (tgt := 14) hx hb dX8_bar_9 (by decide) (fun c_1 => ?_) (fun c_1 => ?_)
  · have hG := hG.trans (if_neg c_1)
    refine lv_aload_n hx hb dX8_bar_14 rfl (lv_at hl 1 rfl) ?_
    refine lv_iload_n hx hb dX8_bar_15 rfl (lv_at hl 3 rfl) ?_
    refine mr_call (As := [.int (nI s_)]) (rest := []) hC hI (qX8_firstOf l D cy o ad S th hN s_ (by omega) rfl) (cwV 1 hts gX8_bar_X8_firstOf rfl rfl rfl (by decide +kernel) ⟨Nat.le_of_ble_eq_true rfl, Nat.le_of_ble_eq_true rfl⟩) rfl hl.1 rfl (Nat.le_of_ble_eq_true rfl) dX8_bar_16 ⟨Nat.zero_le _, Nat.zero_le _⟩ (fun H locs hI => ?_)
    refine lv_iload_n hx hb dX8_bar_19 rfl (lv_at hl 2 rfl) ?_
    refine lv_icmp_eq (tgt := 25) hx hb dX8_bar_20 (by decide) (fun c_2 => ?_) (fun c_2 => ?_)
    · have hG := hG.trans (if_pos c_2)
      refine lv_aload_n hx hb dX8_bar_25 rfl (lv_at hl 1 rfl) ?_
      refine lv_iload_n hx hb dX8_bar_26 rfl (lv_at hl 0 rfl) ?_
      refine mr_call (As := [.int (fX8_dayOf S k s_)]) (rest := []) hC hI (qX8_publicBy l D cy o ad S th (fX8_dayOf S k s_)) (cwV 1 hts gX8_bar_X8_publicBy rfl rfl rfl (by decide +kernel) ⟨Nat.le_of_ble_eq_true rfl, Nat.le_of_ble_eq_true rfl⟩) rfl hl.1 rfl (Nat.le_of_ble_eq_true rfl) dX8_bar_27 ⟨Nat.zero_le _, Nat.zero_le _⟩ (fun H locs hI => ?_)
      refine lv_istore (lv' := [(4, .int (fX8_publicBy S (fX8_dayOf S k s_))), (3, .int (fX8_dayOf S k s_)), (0, .ref o), (1, .int (nI k)), (2, .int (nI s_))]) hx hb dX8_bar_30 hl (by decide) rfl (fun ls hl => ?_)
      refine lv_aload_n hx hb dX8_bar_32 rfl (lv_at hl 2 rfl) ?_
      refine lv_iload hx hb dX8_bar_33 (lv_at hl 0 rfl) ?_
      refine lv_iload_n hx hb dX8_bar_35 rfl (lv_at hl 4 rfl) ?_
      refine mr_call (As := [.int (fX8_publicBy S (fX8_dayOf S k s_)), .int (nI s_)]) (rest := []) hC hI (qX8_isHalf l D cy o ad S th (fX8_publicBy S (fX8_dayOf S k s_)) s_ (by omega) rfl) (cwV 2 hts gX8_bar_X8_isHalf rfl rfl rfl (by decide +kernel) ⟨Nat.le_of_ble_eq_true rfl, Nat.le_of_ble_eq_true rfl⟩) rfl hl.1 rfl (Nat.le_of_ble_eq_true rfl) dX8_bar_36 ⟨Nat.zero_le _, Nat.zero_le _⟩ (fun H locs hI => ?_)
      refine lv_if_eq (tgt := 76) hx hb dX8_bar_39 (by decide) (fun c_3 => ?_) (fun c_3 => ?_)
      · have hG := hG.trans (if_pos c_3)
        refine lv_iconst (v := 0) hx hb dX8_bar_76 (by decide) ?_
        refine lv_istore (lv' := [(5, .int 0), (4, .int (fX8_publicBy S (fX8_dayOf S k s_))), (3, .int (fX8_dayOf S k s_)), (0, .ref o), (1, .int (nI k)), (2, .int (nI s_))]) hx hb dX8_bar_77 hl (by decide) rfl (fun ls hl => ?_)
        refine lv_iload hx hb dX8_bar_79 (lv_at hl 0 rfl) ?_
        refine lv_if_eq (tgt := 88) hx hb dX8_bar_81 (by decide) (fun _ => ?_) (fun c => absurd (by decide : (0 : Int32) = 0) c)
        refine lv_iconst (v := 0) hx hb dX8_bar_88 (by decide) ?_
        exact W.iret (v := 0) hx hb hr (fun t9 ht9 hW9 => ⟨⟨0, (), rfl, hG.symm, trivial⟩, hI.2.F ht9⟩) hI.2.2.2 dX8_bar_89
      · have hG := hG.trans (if_neg c_3)
        refine lv_aload_n hx hb dX8_bar_42 rfl (lv_at hl 2 rfl) ?_
        refine mr_ga hC hin hI 32 (by decide) k_86 dX8_bar_43 ?_
        refine lv_iload_n hx hb dX8_bar_46 rfl (lv_at hl 3 rfl) ?_
        refine mr_ld hC hI 32 (by decide) (by decide) (show vp_in (nI k) 12 from vp_in_nI (by omega) (by decide)) (v := (S 32 k)) ((congrArg (S 32) (nI_clamp (by omega))).trans rfl) dX8_bar_47 ?_
        refine lv_aload_n hx hb dX8_bar_48 rfl (lv_at hl 2 rfl) ?_
        refine mr_ga hC hin hI 9 (by decide) k_25 dX8_bar_49 ?_
        refine lv_iload_n hx hb dX8_bar_52 rfl (lv_at hl 4 rfl) ?_
        refine mr_ld hC hI 9 (by decide) (by decide) (show vp_in (nI s_) 8 from vp_in_nI (by omega) (by decide)) (v := (S 9 s_)) ((congrArg (S 9) (nI_clamp (by omega))).trans rfl) dX8_bar_53 ?_
        refine lv_iand hx hb dX8_bar_54 ?_
        refine lv_iload hx hb dX8_bar_55 (lv_at hl 0 rfl) ?_
        refine lv_iconst (v := (-1)) hx hb dX8_bar_57 (by decide) ?_
        refine lv_ixor hx hb dX8_bar_58 ?_
        refine lv_iand hx hb dX8_bar_59 ?_
        refine lv_if_ne (tgt := 76) hx hb dX8_bar_60 (by decide) (fun c_4 => ?_) (fun c_4 => ?_)
        · have hG := hG.trans (if_neg c_4)
          refine lv_iconst (v := 0) hx hb dX8_bar_76 (by decide) ?_
          refine lv_istore (lv' := [(5, .int 0), (4, .int (fX8_publicBy S (fX8_dayOf S k s_))), (3, .int (fX8_dayOf S k s_)), (0, .ref o), (1, .int (nI k)), (2, .int (nI s_))]) hx hb dX8_bar_77 hl (by decide) rfl (fun ls hl => ?_)
          refine lv_iload hx hb dX8_bar_79 (lv_at hl 0 rfl) ?_
          refine lv_if_eq (tgt := 88) hx hb dX8_bar_81 (by decide) (fun _ => ?_) (fun c => absurd (by decide : (0 : Int32) = 0) c)
          refine lv_iconst (v := 0) hx hb dX8_bar_88 (by decide) ?_
          exact W.iret (v := 0) hx hb hr (fun t9 ht9 hW9 => ⟨⟨0, (), rfl, hG.symm, trivial⟩, hI.2.F ht9⟩) hI.2.2.2 dX8_bar_89
        · have hG := hG.trans (if_pos c_4)
          refine lv_aload_n hx hb dX8_bar_63 rfl (lv_at hl 2 rfl) ?_
          refine mr_ga hC hin hI 35 (by decide) k_95 dX8_bar_64 ?_
          refine lv_iload_n hx hb dX8_bar_67 rfl (lv_at hl 3 rfl) ?_
          refine mr_ldz hC hI 35 (by decide) (by decide) (show vp_in (nI k) 12 from vp_in_nI (by omega) (by decide)) (v := (S 35 k)) ((congrArg (S 35) (nI_clamp (by omega))).trans rfl) dX8_bar_68 ?_
          refine lv_if_ne (tgt := 76) hx hb dX8_bar_69 (by decide) (fun c_5 => ?_) (fun c_5 => ?_)
          · have hG := hG.trans (if_neg c_5)
            refine lv_iconst (v := 0) hx hb dX8_bar_76 (by decide) ?_
            refine lv_istore (lv' := [(5, .int 0), (4, .int (fX8_publicBy S (fX8_dayOf S k s_))), (3, .int (fX8_dayOf S k s_)), (0, .ref o), (1, .int (nI k)), (2, .int (nI s_))]) hx hb dX8_bar_77 hl (by decide) rfl (fun ls hl => ?_)
            refine lv_iload hx hb dX8_bar_79 (lv_at hl 0 rfl) ?_
            refine lv_if_eq (tgt := 88) hx hb dX8_bar_81 (by decide) (fun _ => ?_) (fun c => absurd (by decide : (0 : Int32) = 0) c)
            refine lv_iconst (v := 0) hx hb dX8_bar_88 (by decide) ?_
            exact W.iret (v := 0) hx hb hr (fun t9 ht9 hW9 => ⟨⟨0, (), rfl, hG.symm, trivial⟩, hI.2.F ht9⟩) hI.2.2.2 dX8_bar_89
          · have hG := hG.trans (if_pos c_5)
            refine lv_iconst (v := 1) hx hb dX8_bar_72 (by decide) ?_
            refine lv_goto (tgt := 77) hx hb dX8_bar_73 (by decide) ?_
            refine lv_istore (lv' := [(5, .int 1), (4, .int (fX8_publicBy S (fX8_dayOf S k s_))), (3, .int (fX8_dayOf S k s_)), (0, .ref o), (1, .int (nI k)), (2, .int (nI s_))]) hx hb dX8_bar_77 hl (by decide) rfl (fun ls hl => ?_)
            refine lv_iload hx hb dX8_bar_79 (lv_at hl 0 rfl) ?_
            refine lv_if_eq (tgt := 88) hx hb dX8_bar_81 (by decide) (fun c => absurd c (by decide : ¬ (1 : Int32) = 0)) (fun _ => ?_)
            refine lv_iconst (v := 3) hx hb dX8_bar_84 (by decide) ?_
            refine lv_goto (tgt := 89) hx hb dX8_bar_85 (by decide) ?_
            exact W.iret (v := 3) hx hb hr (fun t9 ht9 hW9 => ⟨⟨3, (), rfl, hG.symm, trivial⟩, hI.2.F ht9⟩) hI.2.2.2 dX8_bar_89
    · have hG := hG.trans (if_neg c_2)
      refine lv_iconst (v := 2) hx hb dX8_bar_23 (by decide) ?_
      exact W.iret (v := 2) hx hb hr (fun t9 ht9 hW9 => ⟨⟨2, (), rfl, hG.symm, trivial⟩, hI.2.F ht9⟩) hI.2.2.2 dX8_bar_24
  · have hG := hG.trans (if_pos c_1)
    refine lv_iconst (v := 1) hx hb dX8_bar_12 (by decide) ?_
    exact W.iret (v := 1) hx hb hr (fun t9 ht9 hW9 => ⟨⟨1, (), rfl, hG.symm, trivial⟩, hI.2.F ht9⟩) hI.2.2.2 dX8_bar_13
set_option maxHeartbeats 4000000 in
set_option maxRecDepth 100000 in
theorem qX8_counts (l : Launch) (D : va_G) (cy : Nat → ClassId) (o : Nat) (ad : Nat → Nat) (S : St) (th : Int32) (hN : MInv S) (c_ : Nat) (hc_ : c_ < 40) {x_c_ : Int32} (ec_ : x_c_ = nI c_) (k : Nat) (hk : k < 12) {x_k : Int32} (ek : x_k = nI k) : MPure l D cy o ad S th yX8_counts wsX8_counts ({ frames := 5, cells := 0, slots := 0, locals := 116 } : Room) [.int x_c_, .int x_k] (fX8_counts S c_ k) := by
  subst ec_
  subst ek
  refine Met.ofW (cc := cX8_counts) (maxL := 5) (ret := (some .boolean)) (by decide) rfl ?_
  intro p e s m args below meth c s₁ B hml hv
  obtain ⟨rfl, hM, hK⟩ := hv
  have hx := B.exec
  have hb := B.bytes
  have hr := B.returns
  have hts := atoms_spec (ws := wsX8_counts) B.pre
  have hown : s.vm.findClass RX8 = some m.cls := findClass_of_methodNamed B.named
  have hlocks := B.notSynchronized
  have hC : MC p s m _ c cX8_counts 5 D cy wsX8_counts := ⟨⟨hx, hb, hml, hown, hts⟩, hK⟩
  have hin : ∀ w ∈ wsX80, w ∈ wsX8_counts := fun _ h => List.mem_cons_of_mem _ (List.mem_append_right _ (h))
  obtain ⟨A, hAd⟩ : ∃ A : Nat → Prop, A = fun _ => False := ⟨_, rfl⟩
  have hI : MI (fun _ => False) D cy o ad s S th s.heap [] := ⟨hM, va_S.rf⟩
  have hb7 := hN.b7
  have hb15 := hN.b15
  have hb23 := hN.b23
  have hb28 := hN.b28
  have hb42 := hN.b42
  have k_44 := hts (.fieldLink RX8 44 "RelatorsBenchModel" "schemeOf" "[I") (List.mem_cons_of_mem _ (List.mem_append_left _ (List.mem_append_left _ (List.mem_of_getElem? (i := 0) rfl))))
  have k_37 := hts (.fieldLink RX8 37 "RelatorsBenchModel" "knownFrom" "[I") (List.mem_cons_of_mem _ (List.mem_append_left _ (List.mem_append_left _ (List.mem_of_getElem? (i := 1) rfl))))
  have k_53 := hts (.fieldLink RX8 53 "RelatorsBenchModel" "paidBy" "[I") (List.mem_cons_of_mem _ (List.mem_append_left _ (List.mem_append_left _ (List.mem_of_getElem? (i := 3) rfl))))
  have k_50 := hts (.fieldLink RX8 50 "RelatorsBenchModel" "made" "[I") (List.mem_cons_of_mem _ (List.mem_append_left _ (List.mem_append_left _ (List.mem_of_getElem? (i := 2) rfl))))
  have hl := lv_entry ([.ref o, .int (nI c_), .int (nI k)]) (n := 5) (Nat.le_of_ble_eq_true rfl)
  rw [lg_entry_eq]
  generalize (lg_sl ([.ref o, .int (nI c_), .int (nI k)]) ++ List.replicate (5 - (lg_sl ([.ref o, .int (nI c_), .int (nI k)])).length) Slot.unset).toArray = ls at hl ⊢
  have hl : lv_has ls 5 [(0, .ref o), (1, .int (nI c_)), (2, .int (nI k))] := hl
  subst hAd
  have hG : fX8_counts S c_ k = fX8_counts S c_ k := rfl
  refine lv_aload_n hx hb dX8_counts_0 rfl (lv_at hl 0 rfl) ?_
  refine mr_ga hC hin hI 16 (by decide) k_44 dX8_counts_1 ?_
  refine lv_iload_n hx hb dX8_counts_4 rfl (lv_at hl 1 rfl) ?_
  refine mr_ld hC hI 16 (by decide) (by decide) (show vp_in (nI c_) 40 from vp_in_nI (by omega) (by decide)) (v := (S 16 c_)) ((congrArg (S 16) (nI_clamp (by omega))).trans rfl) dX8_counts_5 ?_
  refine lv_istore_n (lv' := [(3, .int (S 16 c_)), (0, .ref o), (1, .int (nI c_)), (2, .int (nI k))]) hx hb dX8_counts_6 rfl hl (by decide) rfl (fun ls hl => ?_)
  refine lv_aload_n hx hb dX8_counts_7 rfl (lv_at hl 1 rfl) ?_
  refine mr_ga hC hin hI 13 (by decide) k_37 dX8_counts_8 ?_
  refine lv_iload_n hx hb dX8_counts_11 rfl (lv_at hl 0 rfl) ?_
  refine mr_ld hC hI 13 (by decide) (by decide) (hN.v16 c_) (v := (S 13 (ix (S 16 c_)))) rfl dX8_counts_12 ?_
  refine lv_iconst (v := (-1)) hx hb dX8_counts_13 (by decide) ?_
  refine lv_icmp_eq (tgt := 36) hx hb dX8_counts_14 (by decide) (fun c_1 => ?_) (fun c_1 => ?_)
  · have hG := hG.trans (if_pos c_1)
    refine lv_iconst (v := 0) hx hb dX8_counts_36 (by decide) ?_
    refine lv_istore (lv' := [(4, .int 0), (3, .int (S 16 c_)), (0, .ref o), (1, .int (nI c_)), (2, .int (nI k))]) hx hb dX8_counts_37 hl (by decide) rfl (fun ls hl => ?_)
    refine lv_aload_n hx hb dX8_counts_39 rfl (lv_at hl 2 rfl) ?_
    refine mr_ga hC hin hI 19 (by decide) k_53 dX8_counts_40 ?_
    refine lv_iload_n hx hb dX8_counts_43 rfl (lv_at hl 3 rfl) ?_
    refine mr_ld hC hI 19 (by decide) (by decide) (show vp_in (nI c_) 40 from vp_in_nI (by omega) (by decide)) (v := (S 19 c_)) ((congrArg (S 19) (nI_clamp (by omega))).trans rfl) dX8_counts_44 ?_
    refine lv_iconst (v := (-1)) hx hb dX8_counts_45 (by decide) ?_
    refine lv_icmp_ne (tgt := 86) hx hb dX8_counts_46 (by decide) (fun c_2 => ?_) (fun c_2 => ?_)
    · have hG := hG.trans (if_neg c_2)
      refine lv_iconst (v := 0) hx hb dX8_counts_86 (by decide) ?_
      exact W.zret (v := 0) (ty := .boolean) hx hb hr rfl (fun t9 ht9 hW9 => ⟨⟨0, (), rfl, hG.symm, trivial⟩, hI.2.F ht9⟩) hI.2.2.2 dX8_counts_87
    · have hG := hG.trans (if_pos c_2)
      refine lv_iload hx hb dX8_counts_49 (lv_at hl 0 rfl) ?_
      refine lv_if_ne (tgt := 86) hx hb dX8_counts_51 (by decide) (fun c => absurd (by decide : (0 : Int32) = 0) c) (fun _ => ?_)
      refine lv_aload_n hx hb dX8_counts_54 rfl (lv_at hl 2 rfl) ?_
      refine lv_iload_n hx hb dX8_counts_55 rfl (lv_at hl 4 rfl) ?_
      refine lv_iload_n hx hb dX8_counts_56 rfl (lv_at hl 1 rfl) ?_
      refine mr_call (As := [.int (nI k), .int (S 16 c_)]) (rest := []) hC hI (qX8_bar l D cy o ad S th hN k (by omega) rfl (ix (S 16 c_)) (vp_ixl (hN.v16 c_)) (vp_ixe (hN.v16 c_))) (cwV 2 hts gX8_counts_X8_bar rfl rfl rfl (by decide +kernel) ⟨Nat.le_of_ble_eq_true rfl, Nat.le_of_ble_eq_true rfl⟩) rfl hl.1 rfl (Nat.le_of_ble_eq_true rfl) dX8_counts_57 ⟨Nat.zero_le _, Nat.zero_le _⟩ (fun H locs hI => ?_)
      refine lv_if_ne (tgt := 86) hx hb dX8_counts_60 (by decide) (fun c_3 => ?_) (fun c_3 => ?_)
      · have hG := hG.trans (if_neg c_3)
        refine lv_iconst (v := 0) hx hb dX8_counts_86 (by decide) ?_
        exact W.zret (v := 0) (ty := .boolean) hx hb hr rfl (fun t9 ht9 hW9 => ⟨⟨0, (), rfl, hG.symm, trivial⟩, hI.2.F ht9⟩) hI.2.2.2 dX8_counts_87
      · have hG := hG.trans (if_pos c_3)
        refine lv_aload_n hx hb dX8_counts_63 rfl (lv_at hl 2 rfl) ?_
        refine lv_iload_n hx hb dX8_counts_64 rfl (lv_at hl 4 rfl) ?_
        refine lv_iload_n hx hb dX8_counts_65 rfl (lv_at hl 1 rfl) ?_
        refine mr_call (As := [.int (nI k), .int (S 16 c_)]) (rest := []) hC hI (qX8_dayOf l D cy o ad S th hN k (by omega) rfl (ix (S 16 c_)) (vp_ixl (hN.v16 c_)) (vp_ixe (hN.v16 c_))) (cwV 2 hts gX8_counts_X8_dayOf rfl rfl rfl (by decide +kernel) ⟨Nat.le_of_ble_eq_true rfl, Nat.le_of_ble_eq_true rfl⟩) rfl hl.1 rfl (Nat.le_of_ble_eq_true rfl) dX8_counts_66 ⟨Nat.zero_le _, Nat.zero_le _⟩ (fun H locs hI => ?_)
        refine lv_aload_n hx hb dX8_counts_69 rfl (lv_at hl 2 rfl) ?_
        refine mr_ga hC hin hI 18 (by decide) k_50 dX8_counts_70 ?_
        refine lv_iload_n hx hb dX8_counts_73 rfl (lv_at hl 3 rfl) ?_
        refine mr_ld hC hI 18 (by decide) (by decide) (show vp_in (nI c_) 40 from vp_in_nI (by omega) (by decide)) (v := (S 18 c_)) ((congrArg (S 18) (nI_clamp (by omega))).trans rfl) dX8_counts_74 ?_
        refine lv_isub hx hb dX8_counts_75 ?_
        refine lv_sipush (v := 600) hx hb dX8_counts_76 (by decide) ?_
        refine lv_icmp_gt (tgt := 86) hx hb dX8_counts_79 (by decide) (fun c_4 => ?_) (fun c_4 => ?_)
        · have hG := hG.trans (if_pos c_4)
          refine lv_iconst (v := 0) hx hb dX8_counts_86 (by decide) ?_
          exact W.zret (v := 0) (ty := .boolean) hx hb hr rfl (fun t9 ht9 hW9 => ⟨⟨0, (), rfl, hG.symm, trivial⟩, hI.2.F ht9⟩) hI.2.2.2 dX8_counts_87
        · have hG := hG.trans (if_neg c_4)
          refine lv_iconst (v := 1) hx hb dX8_counts_82 (by decide) ?_
          refine lv_goto (tgt := 87) hx hb dX8_counts_83 (by decide) ?_
          exact W.zret (v := 1) (ty := .boolean) hx hb hr rfl (fun t9 ht9 hW9 => ⟨⟨1, (), rfl, hG.symm, trivial⟩, hI.2.F ht9⟩) hI.2.2.2 dX8_counts_87
  · have hG := hG.trans (if_neg c_1)
    refine lv_aload_n hx hb dX8_counts_17 rfl (lv_at hl 1 rfl) ?_
    refine mr_ga hC hin hI 18 (by decide) k_50 dX8_counts_18 ?_
    refine lv_iload_n hx hb dX8_counts_21 rfl (lv_at hl 2 rfl) ?_
    refine mr_ld hC hI 18 (by decide) (by decide) (show vp_in (nI c_) 40 from vp_in_nI (by omega) (by decide)) (v := (S 18 c_)) ((congrArg (S 18) (nI_clamp (by omega))).trans rfl) dX8_counts_22 ?_
    refine lv_aload_n hx hb dX8_counts_23 rfl (lv_at hl 1 rfl) ?_
    refine mr_ga hC hin hI 13 (by decide) k_37 dX8_counts_24 ?_
    refine lv_iload_n hx hb dX8_counts_27 rfl (lv_at hl 0 rfl) ?_
    refine mr_ld hC hI 13 (by decide) (by decide) (hN.v16 c_) (v := (S 13 (ix (S 16 c_)))) rfl dX8_counts_28 ?_
    refine lv_icmp_lt (tgt := 36) hx hb dX8_counts_29 (by decide) (fun c_5 => ?_) (fun c_5 => ?_)
    · have hG := hG.trans (if_pos c_5)
      refine lv_iconst (v := 0) hx hb dX8_counts_36 (by decide) ?_
      refine lv_istore (lv' := [(4, .int 0), (3, .int (S 16 c_)), (0, .ref o), (1, .int (nI c_)), (2, .int (nI k))]) hx hb dX8_counts_37 hl (by decide) rfl (fun ls hl => ?_)
      refine lv_aload_n hx hb dX8_counts_39 rfl (lv_at hl 2 rfl) ?_
      refine mr_ga hC hin hI 19 (by decide) k_53 dX8_counts_40 ?_
      refine lv_iload_n hx hb dX8_counts_43 rfl (lv_at hl 3 rfl) ?_
      refine mr_ld hC hI 19 (by decide) (by decide) (show vp_in (nI c_) 40 from vp_in_nI (by omega) (by decide)) (v := (S 19 c_)) ((congrArg (S 19) (nI_clamp (by omega))).trans rfl) dX8_counts_44 ?_
      refine lv_iconst (v := (-1)) hx hb dX8_counts_45 (by decide) ?_
      refine lv_icmp_ne (tgt := 86) hx hb dX8_counts_46 (by decide) (fun c_6 => ?_) (fun c_6 => ?_)
      · have hG := hG.trans (if_neg c_6)
        refine lv_iconst (v := 0) hx hb dX8_counts_86 (by decide) ?_
        exact W.zret (v := 0) (ty := .boolean) hx hb hr rfl (fun t9 ht9 hW9 => ⟨⟨0, (), rfl, hG.symm, trivial⟩, hI.2.F ht9⟩) hI.2.2.2 dX8_counts_87
      · have hG := hG.trans (if_pos c_6)
        refine lv_iload hx hb dX8_counts_49 (lv_at hl 0 rfl) ?_
        refine lv_if_ne (tgt := 86) hx hb dX8_counts_51 (by decide) (fun c => absurd (by decide : (0 : Int32) = 0) c) (fun _ => ?_)
        refine lv_aload_n hx hb dX8_counts_54 rfl (lv_at hl 2 rfl) ?_
        refine lv_iload_n hx hb dX8_counts_55 rfl (lv_at hl 4 rfl) ?_
        refine lv_iload_n hx hb dX8_counts_56 rfl (lv_at hl 1 rfl) ?_
        refine mr_call (As := [.int (nI k), .int (S 16 c_)]) (rest := []) hC hI (qX8_bar l D cy o ad S th hN k (by omega) rfl (ix (S 16 c_)) (vp_ixl (hN.v16 c_)) (vp_ixe (hN.v16 c_))) (cwV 2 hts gX8_counts_X8_bar rfl rfl rfl (by decide +kernel) ⟨Nat.le_of_ble_eq_true rfl, Nat.le_of_ble_eq_true rfl⟩) rfl hl.1 rfl (Nat.le_of_ble_eq_true rfl) dX8_counts_57 ⟨Nat.zero_le _, Nat.zero_le _⟩ (fun H locs hI => ?_)
        refine lv_if_ne (tgt := 86) hx hb dX8_counts_60 (by decide) (fun c_7 => ?_) (fun c_7 => ?_)
        · have hG := hG.trans (if_neg c_7)
          refine lv_iconst (v := 0) hx hb dX8_counts_86 (by decide) ?_
          exact W.zret (v := 0) (ty := .boolean) hx hb hr rfl (fun t9 ht9 hW9 => ⟨⟨0, (), rfl, hG.symm, trivial⟩, hI.2.F ht9⟩) hI.2.2.2 dX8_counts_87
        · have hG := hG.trans (if_pos c_7)
          refine lv_aload_n hx hb dX8_counts_63 rfl (lv_at hl 2 rfl) ?_
          refine lv_iload_n hx hb dX8_counts_64 rfl (lv_at hl 4 rfl) ?_
          refine lv_iload_n hx hb dX8_counts_65 rfl (lv_at hl 1 rfl) ?_
          refine mr_call (As := [.int (nI k), .int (S 16 c_)]) (rest := []) hC hI (qX8_dayOf l D cy o ad S th hN k (by omega) rfl (ix (S 16 c_)) (vp_ixl (hN.v16 c_)) (vp_ixe (hN.v16 c_))) (cwV 2 hts gX8_counts_X8_dayOf rfl rfl rfl (by decide +kernel) ⟨Nat.le_of_ble_eq_true rfl, Nat.le_of_ble_eq_true rfl⟩) rfl hl.1 rfl (Nat.le_of_ble_eq_true rfl) dX8_counts_66 ⟨Nat.zero_le _, Nat.zero_le _⟩ (fun H locs hI => ?_)
          refine lv_aload_n hx hb dX8_counts_69 rfl (lv_at hl 2 rfl) ?_
          refine mr_ga hC hin hI 18 (by decide) k_50 dX8_counts_70 ?_
          refine lv_iload_n hx hb dX8_counts_73 rfl (lv_at hl 3 rfl) ?_
          refine mr_ld hC hI 18 (by decide) (by decide) (show vp_in (nI c_) 40 from vp_in_nI (by omega) (by decide)) (v := (S 18 c_)) ((congrArg (S 18) (nI_clamp (by omega))).trans rfl) dX8_counts_74 ?_
          refine lv_isub hx hb dX8_counts_75 ?_
          refine lv_sipush (v := 600) hx hb dX8_counts_76 (by decide) ?_
          refine lv_icmp_gt (tgt := 86) hx hb dX8_counts_79 (by decide) (fun c_8 => ?_) (fun c_8 => ?_)
          · have hG := hG.trans (if_pos c_8)
            refine lv_iconst (v := 0) hx hb dX8_counts_86 (by decide) ?_
            exact W.zret (v := 0) (ty := .boolean) hx hb hr rfl (fun t9 ht9 hW9 => ⟨⟨0, (), rfl, hG.symm, trivial⟩, hI.2.F ht9⟩) hI.2.2.2 dX8_counts_87
          · have hG := hG.trans (if_neg c_8)
            refine lv_iconst (v := 1) hx hb dX8_counts_82 (by decide) ?_
            refine lv_goto (tgt := 87) hx hb dX8_counts_83 (by decide) ?_
            exact W.zret (v := 1) (ty := .boolean) hx hb hr rfl (fun t9 ht9 hW9 => ⟨⟨1, (), rfl, hG.symm, trivial⟩, hI.2.F ht9⟩) hI.2.2.2 dX8_counts_87
    · have hG := hG.trans (if_neg c_5)
      refine lv_iconst (v := 1) hx hb dX8_counts_32 (by decide) ?_
      refine lv_goto (tgt := 37) hx hb dX8_counts_33 (by decide) ?_
      refine lv_istore (lv' := [(4, .int 1), (3, .int (S 16 c_)), (0, .ref o), (1, .int (nI c_)), (2, .int (nI k))]) hx hb dX8_counts_37 hl (by decide) rfl (fun ls hl => ?_)
      refine lv_aload_n hx hb dX8_counts_39 rfl (lv_at hl 2 rfl) ?_
      refine mr_ga hC hin hI 19 (by decide) k_53 dX8_counts_40 ?_
      refine lv_iload_n hx hb dX8_counts_43 rfl (lv_at hl 3 rfl) ?_
      refine mr_ld hC hI 19 (by decide) (by decide) (show vp_in (nI c_) 40 from vp_in_nI (by omega) (by decide)) (v := (S 19 c_)) ((congrArg (S 19) (nI_clamp (by omega))).trans rfl) dX8_counts_44 ?_
      refine lv_iconst (v := (-1)) hx hb dX8_counts_45 (by decide) ?_
      refine lv_icmp_ne (tgt := 86) hx hb dX8_counts_46 (by decide) (fun c_9 => ?_) (fun c_9 => ?_)
      · have hG := hG.trans (if_neg c_9)
        refine lv_iconst (v := 0) hx hb dX8_counts_86 (by decide) ?_
        exact W.zret (v := 0) (ty := .boolean) hx hb hr rfl (fun t9 ht9 hW9 => ⟨⟨0, (), rfl, hG.symm, trivial⟩, hI.2.F ht9⟩) hI.2.2.2 dX8_counts_87
      · have hG := hG.trans (if_pos c_9)
        refine lv_iload hx hb dX8_counts_49 (lv_at hl 0 rfl) ?_
        refine lv_if_ne (tgt := 86) hx hb dX8_counts_51 (by decide) (fun _ => ?_) (fun c => absurd c (by decide : ¬ (1 : Int32) = 0))
        refine lv_iconst (v := 0) hx hb dX8_counts_86 (by decide) ?_
        exact W.zret (v := 0) (ty := .boolean) hx hb hr rfl (fun t9 ht9 hW9 => ⟨⟨0, (), rfl, hG.symm, trivial⟩, hI.2.F ht9⟩) hI.2.2.2 dX8_counts_87
set_option maxHeartbeats 4000000 in
set_option maxRecDepth 100000 in
theorem qX8_dues (l : Launch) (D : va_G) (cy : Nat → ClassId) (o : Nat) (ad : Nat → Nat) (S : St) (th : Int32) (hN : MInv S) (k : Nat) (hk : k < 12) {x_k : Int32} (ek : x_k = nI k) : MPure l D cy o ad S th yX8_dues wsX8_dues ({ frames := 6, cells := 0, slots := 0, locals := 140 } : Room) [.int x_k] (fX8_dues S k) := by
  subst ek
  refine Met.ofW (cc := cX8_dues) (maxL := 7) (ret := (some .int)) (by decide) rfl ?_
  intro p e s m args below meth c s₁ B hml hv
  obtain ⟨rfl, hM, hK⟩ := hv
  have hx := B.exec
  have hb := B.bytes
  have hr := B.returns
  have hts := atoms_spec (ws := wsX8_dues) B.pre
  have hown : s.vm.findClass RX8 = some m.cls := findClass_of_methodNamed B.named
  have hlocks := B.notSynchronized
  have hC : MC p s m _ c cX8_dues 7 D cy wsX8_dues := ⟨⟨hx, hb, hml, hown, hts⟩, hK⟩
  have hin : ∀ w ∈ wsX80, w ∈ wsX8_dues := fun _ h => List.mem_cons_of_mem _ (List.mem_append_right _ (h))
  obtain ⟨A, hAd⟩ : ∃ A : Nat → Prop, A = fun _ => False := ⟨_, rfl⟩
  have hI : MI (fun _ => False) D cy o ad s S th s.heap [] := ⟨hM, va_S.rf⟩
  have hb7 := hN.b7
  have hb15 := hN.b15
  have hb23 := hN.b23
  have hb28 := hN.b28
  have hb42 := hN.b42
  have k_160 := hts (.fieldLink RX8 160 "RelatorsBenchModel" "schemes" "I") (List.mem_cons_of_mem _ (List.mem_append_left _ (List.mem_append_left _ (List.mem_of_getElem? (i := 0) rfl))))
  have k_92 := hts (.fieldLink RX8 92 "RelatorsBenchModel" "how" "[I") (List.mem_cons_of_mem _ (List.mem_append_left _ (List.mem_append_left _ (List.mem_of_getElem? (i := 1) rfl))))
  have k_176 := hts (.fieldLink RX8 176 "RelatorsBenchModel" "claims" "I") (List.mem_cons_of_mem _ (List.mem_append_left _ (List.mem_append_left _ (List.mem_of_getElem? (i := 2) rfl))))
  have k_28 := hts (.fieldLink RX8 28 "RelatorsBenchModel" "ground" "[I") (List.mem_cons_of_mem _ (List.mem_append_left _ (List.mem_append_left _ (List.mem_of_getElem? (i := 5) rfl))))
  have k_34 := hts (.fieldLink RX8 34 "RelatorsBenchModel" "wrong" "[I") (List.mem_cons_of_mem _ (List.mem_append_left _ (List.mem_append_left _ (List.mem_of_getElem? (i := 6) rfl))))
  have k_31 := hts (.fieldLink RX8 31 "RelatorsBenchModel" "looked" "[I") (List.mem_cons_of_mem _ (List.mem_append_left _ (List.mem_append_left _ (List.mem_of_getElem? (i := 7) rfl))))
  have k_40 := hts (.fieldLink RX8 40 "RelatorsBenchModel" "isAdmitted" "[Z") (List.mem_cons_of_mem _ (List.mem_append_left _ (List.mem_append_left _ (List.mem_of_getElem? (i := 8) rfl))))
  have k_44 := hts (.fieldLink RX8 44 "RelatorsBenchModel" "schemeOf" "[I") (List.mem_cons_of_mem _ (List.mem_append_left _ (List.mem_append_left _ (List.mem_of_getElem? (i := 3) rfl))))
  have k_47 := hts (.fieldLink RX8 47 "RelatorsBenchModel" "amount" "[I") (List.mem_cons_of_mem _ (List.mem_append_left _ (List.mem_append_left _ (List.mem_of_getElem? (i := 4) rfl))))
  have hl := lv_entry ([.ref o, .int (nI k)]) (n := 7) (Nat.le_of_ble_eq_true rfl)
  rw [lg_entry_eq]
  generalize (lg_sl ([.ref o, .int (nI k)]) ++ List.replicate (7 - (lg_sl ([.ref o, .int (nI k)])).length) Slot.unset).toArray = ls at hl ⊢
  have hl : lv_has ls 7 [(0, .ref o), (1, .int (nI k))] := hl
  subst hAd
  have hG : fX8_dues S k = fX8_dues S k := rfl
  refine lv_iconst (v := 0) hx hb dX8_dues_0 (by decide) ?_
  refine lv_istore_n (lv' := [(2, .int 0), (0, .ref o), (1, .int (nI k))]) hx hb dX8_dues_1 rfl hl (by decide) rfl (fun ls hl => ?_)
  refine lv_iconst (v := 0) hx hb dX8_dues_2 (by decide) ?_
  refine lv_istore_n (lv' := [(3, .int 0), (2, .int 0), (0, .ref o), (1, .int (nI k))]) hx hb dX8_dues_3 rfl hl (by decide) rfl (fun ls hl => ?_)
  by_cases c_1 : 3 ≤ (S 34 k)
  · have hG := hG.trans (if_pos c_1)
    refine lv_iload_n hx hb dX8_dues_4 rfl (lv_at hl 0 rfl) ?_
    refine lv_aload_n hx hb dX8_dues_5 rfl (lv_at hl 2 rfl) ?_
    refine mr_gi hC hin hI 7 (by decide) (by decide) (by decide) k_160 (v := (S 7 0)) rfl dX8_dues_6 ?_
    refine lv_icmp_ge (tgt := 175) hx hb dX8_dues_9 (by decide) (fun c_2 => ?_) (fun c_2 => ?_)
    · have hG := hG.trans (if_pos c_2)
      refine lv_iload_n hx hb dX8_dues_175 rfl (lv_at hl 1 rfl) ?_
      exact W.iret (v := 0) hx hb hr (fun t9 ht9 hW9 => ⟨⟨0, (), rfl, hG.symm, trivial⟩, hI.2.F ht9⟩) hI.2.2.2 dX8_dues_176
    · have hG := hG.trans (if_neg c_2)
      refine lv_aload_n hx hb dX8_dues_12 rfl (lv_at hl 2 rfl) ?_
      refine mr_ga hC hin hI 34 (by decide) k_92 dX8_dues_13 ?_
      refine lv_iload_n hx hb dX8_dues_16 rfl (lv_at hl 3 rfl) ?_
      refine mr_ld hC hI 34 (by decide) (by decide) (show vp_in (nI k) 12 from vp_in_nI (by omega) (by decide)) (v := (S 34 k)) ((congrArg (S 34) (nI_clamp (by omega))).trans rfl) dX8_dues_17 ?_
      refine lv_iconst (v := 3) hx hb dX8_dues_18 (by decide) ?_
      refine lv_icmp_ge (tgt := 175) hx hb dX8_dues_19 (by decide) (fun _ => ?_) (fun c => absurd c_1 c)
      refine lv_iload_n hx hb dX8_dues_175 rfl (lv_at hl 1 rfl) ?_
      exact W.iret (v := 0) hx hb hr (fun t9 ht9 hW9 => ⟨⟨0, (), rfl, hG.symm, trivial⟩, hI.2.F ht9⟩) hI.2.2.2 dX8_dues_176
  · have hG := hG.trans (if_neg c_1)
    refine w_loop (σ := Int32) (nsc S) 4 (fun i4 z H locs ls => z = lX8_dues_4 S k i4 ∧ MI (fun _ => False) D cy o ad s S th H locs ∧ lv_has ls 7 [(3, .int (nI i4)), (2, .int z), (0, .ref o), (1, .int (nI k))]) ?_ 0 ⟨rfl, hI, lv_sub hl [0, 1, 2, 3] rfl⟩
    intro i4 z H locs ls ⟨hz4, hI, hl⟩ hi4 ih4
    obtain ⟨x4_2, rfl⟩ : ∃ x, x = z := ⟨_, rfl⟩
    refine lv_iload_n hx hb dX8_dues_4 rfl (lv_at hl 0 rfl) ?_
    refine lv_aload_n hx hb dX8_dues_5 rfl (lv_at hl 2 rfl) ?_
    refine mr_gi hC hin hI 7 (by decide) (by decide) (by decide) k_160 (v := (S 7 0)) rfl dX8_dues_6 ?_
    refine lv_icmp_ge (tgt := 175) hx hb dX8_dues_9 (by decide) (fun c_3 => ?_) (fun c_3 => ?_)
    · obtain rfl : i4 = nsc S := w_exit hN.n7 hi4 (by have := hN.b7; omega) c_3
      obtain rfl : x4_2 = (lX8_dues_4 S k (nsc S)) := by rw [← hz4]
      refine lv_iload_n hx hb dX8_dues_175 rfl (lv_at hl 1 rfl) ?_
      exact W.iret (v := (lX8_dues_4 S k (nsc S))) hx hb hr (fun t9 ht9 hW9 => ⟨⟨(lX8_dues_4 S k (nsc S)), (), rfl, hG.symm, trivial⟩, hI.2.F ht9⟩) hI.2.2.2 dX8_dues_176
    · have hlt4 : i4 < nsc S := w_in hN.n7 hi4 (by have := hN.b7; omega) c_3
      have hB4 : iX8_dues_4 S k i4 x4_2 = iX8_dues_4 S k i4 x4_2 := rfl
      refine lv_aload_n hx hb dX8_dues_12 rfl (lv_at hl 2 rfl) ?_
      refine mr_ga hC hin hI 34 (by decide) k_92 dX8_dues_13 ?_
      refine lv_iload_n hx hb dX8_dues_16 rfl (lv_at hl 3 rfl) ?_
      refine mr_ld hC hI 34 (by decide) (by decide) (show vp_in (nI k) 12 from vp_in_nI (by omega) (by decide)) (v := (S 34 k)) ((congrArg (S 34) (nI_clamp (by omega))).trans rfl) dX8_dues_17 ?_
      refine lv_iconst (v := 3) hx hb dX8_dues_18 (by decide) ?_
      refine lv_icmp_ge (tgt := 175) hx hb dX8_dues_19 (by decide) (fun c => absurd c c_1) (fun _ => ?_)
      refine lv_iconst (v := 0) hx hb dX8_dues_22 (by decide) ?_
      refine lv_istore (lv' := [(4, .int 0), (3, .int (nI i4)), (2, .int x4_2), (0, .ref o), (1, .int (nI k))]) hx hb dX8_dues_23 hl (by decide) rfl (fun ls hl => ?_)
      refine lv_iconst (v := 0) hx hb dX8_dues_25 (by decide) ?_
      refine lv_istore (lv' := [(5, .int 0), (4, .int 0), (3, .int (nI i4)), (2, .int x4_2), (0, .ref o), (1, .int (nI k))]) hx hb dX8_dues_26 hl (by decide) rfl (fun ls hl => ?_)
      refine lv_iconst (v := 0) hx hb dX8_dues_28 (by decide) ?_
      refine lv_istore (lv' := [(6, .int 0), (5, .int 0), (4, .int 0), (3, .int (nI i4)), (2, .int x4_2), (0, .ref o), (1, .int (nI k))]) hx hb dX8_dues_29 hl (by decide) rfl (fun ls hl => ?_)
      refine w_loop (σ := Int32 × Int32) (ncl S) 31 (fun i31 z H locs ls => z = lX8_dues_31 S k i4 i31 ∧ MI (fun _ => False) D cy o ad s S th H locs ∧ lv_has ls 7 [(6, .int (nI i31)), (5, .int z.1), (4, .int z.2), (3, .int (nI i4)), (2, .int x4_2), (0, .ref o), (1, .int (nI k))]) ?_ (0, 0) ⟨rfl, hI, lv_sub hl [0, 1, 2, 3, 4, 5, 6] rfl⟩
      intro i31 z H locs ls ⟨hz31, hI, hl⟩ hi31 ih31
      obtain ⟨x31_5, x31_4⟩ := z
      dsimp only at hI hl hz31
      refine lv_iload hx hb dX8_dues_31 (lv_at hl 0 rfl) ?_
      refine lv_aload_n hx hb dX8_dues_33 rfl (lv_at hl 5 rfl) ?_
      refine mr_gi hC hin hI 15 (by decide) (by decide) (by decide) k_176 (v := (S 15 0)) rfl dX8_dues_34 ?_
      refine lv_icmp_ge (tgt := 82) hx hb dX8_dues_37 (by decide) (fun c_4 => ?_) (fun c_4 => ?_)
      · obtain rfl : i31 = ncl S := w_exit hN.n15 hi31 (by have := hN.b15; omega) c_4
        obtain rfl : x31_5 = (lX8_dues_31 S k i4 (ncl S)).1 := by rw [← hz31]
        obtain rfl : x31_4 = (lX8_dues_31 S k i4 (ncl S)).2 := by rw [← hz31]
        refine lv_aload_n hx hb dX8_dues_82 rfl (lv_at hl 5 rfl) ?_
        refine mr_ga hC hin hI 10 (by decide) k_28 dX8_dues_83 ?_
        refine lv_iload_n hx hb dX8_dues_86 rfl (lv_at hl 3 rfl) ?_
        refine mr_ld hC hI 10 (by decide) (by decide) (show vp_in (nI i4) 8 from vp_in_nI (by omega) (by decide)) (v := (S 10 i4)) ((congrArg (S 10) (nI_clamp (by omega))).trans rfl) dX8_dues_87 ?_
        have hB4 : iX8_dues_4 S k i4 x4_2 = bX8_dues_113 S k i4 x4_2 (jX8_dues_113 S i4) := hB4
        refine w_join (σ := Int32) 113 (fun y113_0 H locs ls => jX8_dues_113 S i4 = y113_0 ∧ MI (fun _ => False) D cy o ad s S th H locs ∧ lv_has ls 7 [(6, .int (nI (ncl S))), (5, .int ((lX8_dues_31 S k i4 (ncl S)).1)), (4, .int ((lX8_dues_31 S k i4 (ncl S)).2)), (3, .int (nI i4)), (2, .int x4_2), (0, .ref o), (1, .int (nI k))]) (fun y113_0 => [.int y113_0]) ?_ (fun J113 => ?_)
        · intro y113_0 H locs ls ⟨hy113_0, hI, hl⟩
          rw [hy113_0] at hB4
          refine lv_istore (lv' := [(6, .int y113_0), (5, .int ((lX8_dues_31 S k i4 (ncl S)).1)), (4, .int ((lX8_dues_31 S k i4 (ncl S)).2)), (3, .int (nI i4)), (2, .int x4_2), (0, .ref o), (1, .int (nI k))]) hx hb dX8_dues_113 hl (by decide) rfl (fun ls hl => ?_)
          refine lv_iload_n hx hb dX8_dues_115 rfl (lv_at hl 4 rfl) ?_
          refine lv_iload hx hb dX8_dues_116 (lv_at hl 2 rfl) ?_
          refine lv_aload_n hx hb dX8_dues_118 rfl (lv_at hl 5 rfl) ?_
          refine mr_ga hC hin hI 12 (by decide) k_34 dX8_dues_119 ?_
          refine lv_iload_n hx hb dX8_dues_122 rfl (lv_at hl 3 rfl) ?_
          refine mr_ld hC hI 12 (by decide) (by decide) (show vp_in (nI i4) 8 from vp_in_nI (by omega) (by decide)) (v := (S 12 i4)) ((congrArg (S 12) (nI_clamp (by omega))).trans rfl) dX8_dues_123 ?_
          refine lv_imul hx hb dX8_dues_124 ?_
          refine lv_aload_n hx hb dX8_dues_125 rfl (lv_at hl 5 rfl) ?_
          refine mr_ga hC hin hI 11 (by decide) k_31 dX8_dues_126 ?_
          refine lv_iload_n hx hb dX8_dues_129 rfl (lv_at hl 3 rfl) ?_
          refine mr_ld hC hI 11 (by decide) (by decide) (show vp_in (nI i4) 8 from vp_in_nI (by omega) (by decide)) (v := (S 11 i4)) ((congrArg (S 11) (nI_clamp (by omega))).trans rfl) dX8_dues_130 ?_
          refine lv_idiv hx hb dX8_dues_131 (hN.lk _ hlt4) ?_
          refine lv_aload_n hx hb dX8_dues_132 rfl (lv_at hl 5 rfl) ?_
          refine mr_ga hC hin hI 14 (by decide) k_40 dX8_dues_133 ?_
          refine lv_iload_n hx hb dX8_dues_136 rfl (lv_at hl 3 rfl) ?_
          refine mr_ldz hC hI 14 (by decide) (by decide) (show vp_in (nI i4) 8 from vp_in_nI (by omega) (by decide)) (v := (S 14 i4)) ((congrArg (S 14) (nI_clamp (by omega))).trans rfl) dX8_dues_137 ?_
          have hB4 : iX8_dues_4 S k i4 x4_2 = bX8_dues_146 S k i4 x4_2 y113_0 (jX8_dues_146 S i4) := hB4
          refine w_join (σ := Int32) 146 (fun y146_0 H locs ls => jX8_dues_146 S i4 = y146_0 ∧ MI (fun _ => False) D cy o ad s S th H locs ∧ lv_has ls 7 [(6, .int y113_0), (5, .int ((lX8_dues_31 S k i4 (ncl S)).1)), (4, .int ((lX8_dues_31 S k i4 (ncl S)).2)), (3, .int (nI i4)), (2, .int x4_2), (0, .ref o), (1, .int (nI k))]) (fun y146_0 => [.int y146_0, .int ((((lX8_dues_31 S k i4 (ncl S)).2) * (S 12 i4)) / (S 11 i4)), .int x4_2]) ?_ (fun J146 => ?_)
          · intro y146_0 H locs ls ⟨hy146_0, hI, hl⟩
            rw [hy146_0] at hB4
            refine lv_imul hx hb dX8_dues_146 ?_
            refine lv_iload hx hb dX8_dues_147 (lv_at hl 1 rfl) ?_
            refine lv_aload_n hx hb dX8_dues_149 rfl (lv_at hl 5 rfl) ?_
            refine mr_ga hC hin hI 12 (by decide) k_34 dX8_dues_150 ?_
            refine lv_iload_n hx hb dX8_dues_153 rfl (lv_at hl 3 rfl) ?_
            refine mr_ld hC hI 12 (by decide) (by decide) (show vp_in (nI i4) 8 from vp_in_nI (by omega) (by decide)) (v := (S 12 i4)) ((congrArg (S 12) (nI_clamp (by omega))).trans rfl) dX8_dues_154 ?_
            refine lv_imul hx hb dX8_dues_155 ?_
            refine lv_aload_n hx hb dX8_dues_156 rfl (lv_at hl 5 rfl) ?_
            refine mr_ga hC hin hI 11 (by decide) k_31 dX8_dues_157 ?_
            refine lv_iload_n hx hb dX8_dues_160 rfl (lv_at hl 3 rfl) ?_
            refine mr_ld hC hI 11 (by decide) (by decide) (show vp_in (nI i4) 8 from vp_in_nI (by omega) (by decide)) (v := (S 11 i4)) ((congrArg (S 11) (nI_clamp (by omega))).trans rfl) dX8_dues_161 ?_
            refine lv_idiv hx hb dX8_dues_162 (hN.lk _ hlt4) ?_
            refine lv_iload hx hb dX8_dues_163 (lv_at hl 0 rfl) ?_
            refine lv_imul hx hb dX8_dues_165 ?_
            refine lv_iadd hx hb dX8_dues_166 ?_
            refine lv_iadd hx hb dX8_dues_167 ?_
            refine lv_istore_n (lv' := [(2, .int (x4_2 + ((((((lX8_dues_31 S k i4 (ncl S)).2) * (S 12 i4)) / (S 11 i4)) * y146_0) + (((((lX8_dues_31 S k i4 (ncl S)).1) * (S 12 i4)) / (S 11 i4)) * y113_0)))), (6, .int y113_0), (5, .int ((lX8_dues_31 S k i4 (ncl S)).1)), (4, .int ((lX8_dues_31 S k i4 (ncl S)).2)), (3, .int (nI i4)), (0, .ref o), (1, .int (nI k))]) hx hb dX8_dues_168 rfl hl (by decide) rfl (fun ls hl => ?_)
            refine lv_iinc (v := (nI (i4 + 1))) (lv' := [(3, .int (nI (i4 + 1))), (2, .int (x4_2 + ((((((lX8_dues_31 S k i4 (ncl S)).2) * (S 12 i4)) / (S 11 i4)) * y146_0) + (((((lX8_dues_31 S k i4 (ncl S)).1) * (S 12 i4)) / (S 11 i4)) * y113_0)))), (6, .int y113_0), (5, .int ((lX8_dues_31 S k i4 (ncl S)).1)), (4, .int ((lX8_dues_31 S k i4 (ncl S)).2)), (0, .ref o), (1, .int (nI k))]) hx hb dX8_dues_169 hl (k := 4) rfl (nI_1 i4) (by decide) rfl (fun ls hl => ?_)
            refine lv_goto (tgt := 4) hx hb dX8_dues_172 (by decide) ?_
            exact ih4 (x4_2 + ((((((lX8_dues_31 S k i4 (ncl S)).2) * (S 12 i4)) / (S 11 i4)) * y146_0) + (((((lX8_dues_31 S k i4 (ncl S)).1) * (S 12 i4)) / (S 11 i4)) * y113_0))) _ _ ls hlt4 ⟨(by show _ = iX8_dues_4 S k i4 (lX8_dues_4 S k i4); rw [← hz4]; exact hB4.symm), hI, lv_sub hl [0, 1, 5, 6] rfl⟩
          · have hB146 : jX8_dues_146 S i4 = jX8_dues_146 S i4 := rfl
            refine lv_if_eq (tgt := 145) hx hb dX8_dues_138 (by decide) (fun c_12 => ?_) (fun c_12 => ?_)
            · have hB146 := hB146.trans (if_pos c_12)
              refine lv_iconst (v := 3) hx hb dX8_dues_145 (by decide) ?_
              exact J146 3 _ _ ls ⟨hB146, hI, lv_sub hl [0, 1, 2, 3, 4, 5, 6] rfl⟩
            · have hB146 := hB146.trans (if_neg c_12)
              refine lv_iconst (v := 2) hx hb dX8_dues_141 (by decide) ?_
              refine lv_goto (tgt := 146) hx hb dX8_dues_142 (by decide) ?_
              exact J146 2 _ _ ls ⟨hB146, hI, lv_sub hl [0, 1, 2, 3, 4, 5, 6] rfl⟩
        · have hB113 : jX8_dues_113 S i4 = jX8_dues_113 S i4 := rfl
          refine lv_if_ne (tgt := 96) hx hb dX8_dues_88 (by decide) (fun c_10 => ?_) (fun c_10 => ?_)
          · have hB113 := hB113.trans (if_neg c_10)
            refine lv_aload_n hx hb dX8_dues_96 rfl (lv_at hl 5 rfl) ?_
            refine mr_ga hC hin hI 10 (by decide) k_28 dX8_dues_97 ?_
            refine lv_iload_n hx hb dX8_dues_100 rfl (lv_at hl 3 rfl) ?_
            refine mr_ld hC hI 10 (by decide) (by decide) (show vp_in (nI i4) 8 from vp_in_nI (by omega) (by decide)) (v := (S 10 i4)) ((congrArg (S 10) (nI_clamp (by omega))).trans rfl) dX8_dues_101 ?_
            refine lv_iconst (v := 1) hx hb dX8_dues_102 (by decide) ?_
            refine lv_icmp_ne (tgt := 111) hx hb dX8_dues_103 (by decide) (fun c_11 => ?_) (fun c_11 => ?_)
            · have hB113 := hB113.trans (if_neg c_11)
              refine lv_bipush (v := 20) hx hb dX8_dues_111 (by decide) ?_
              exact J113 20 _ _ ls ⟨hB113, hI, lv_sub hl [0, 1, 2, 3, 4, 5, 6] rfl⟩
            · have hB113 := hB113.trans (if_pos c_11)
              refine lv_bipush (v := 50) hx hb dX8_dues_106 (by decide) ?_
              refine lv_goto (tgt := 113) hx hb dX8_dues_108 (by decide) ?_
              exact J113 50 _ _ ls ⟨hB113, hI, lv_sub hl [0, 1, 2, 3, 4, 5, 6] rfl⟩
          · have hB113 := hB113.trans (if_pos c_10)
            refine lv_bipush (v := 100) hx hb dX8_dues_91 (by decide) ?_
            refine lv_goto (tgt := 113) hx hb dX8_dues_93 (by decide) ?_
            exact J113 100 _ _ ls ⟨hB113, hI, lv_sub hl [0, 1, 2, 3, 4, 5, 6] rfl⟩
      · have hlt31 : i31 < ncl S := w_in hN.n15 hi31 (by have := hN.b15; omega) c_4
        have hB31 : iX8_dues_31 S k i4 i31 x31_5 x31_4 = iX8_dues_31 S k i4 i31 x31_5 x31_4 := rfl
        refine lv_aload_n hx hb dX8_dues_40 rfl (lv_at hl 5 rfl) ?_
        refine mr_ga hC hin hI 16 (by decide) k_44 dX8_dues_41 ?_
        refine lv_iload hx hb dX8_dues_44 (lv_at hl 0 rfl) ?_
        refine mr_ld hC hI 16 (by decide) (by decide) (show vp_in (nI i31) 40 from vp_in_nI (by omega) (by decide)) (v := (S 16 i31)) ((congrArg (S 16) (nI_clamp (by omega))).trans rfl) dX8_dues_46 ?_
        refine lv_iload_n hx hb dX8_dues_47 rfl (lv_at hl 3 rfl) ?_
        refine lv_icmp_ne (tgt := 76) hx hb dX8_dues_48 (by decide) (fun c_8 => ?_) (fun c_8 => ?_)
        · have hB31 := hB31.trans (if_neg c_8)
          refine lv_iinc (v := (nI (i31 + 1))) (lv' := [(6, .int (nI (i31 + 1))), (5, .int x31_5), (4, .int x31_4), (3, .int (nI i4)), (2, .int x4_2), (0, .ref o), (1, .int (nI k))]) hx hb dX8_dues_76 hl (k := 0) rfl (nI_1 i31) (by decide) rfl (fun ls hl => ?_)
          refine lv_goto (tgt := 31) hx hb dX8_dues_79 (by decide) ?_
          exact ih31 (x31_5, x31_4) _ _ ls hlt31 ⟨(by show _ = iX8_dues_31 S k i4 i31 (lX8_dues_31 S k i4 i31).1 (lX8_dues_31 S k i4 i31).2; rw [← hz31]; exact hB31.symm), hI, lv_sub hl [0, 1, 2, 3, 4, 5, 6] rfl⟩
        · have hB31 := hB31.trans (if_pos c_8)
          refine lv_aload_n hx hb dX8_dues_51 rfl (lv_at hl 5 rfl) ?_
          refine lv_iload hx hb dX8_dues_52 (lv_at hl 0 rfl) ?_
          refine lv_iload_n hx hb dX8_dues_54 rfl (lv_at hl 6 rfl) ?_
          refine mr_call (As := [.int (nI i31), .int (nI k)]) (rest := []) hC hI (qX8_counts l D cy o ad S th hN i31 (by omega) rfl k (by omega) rfl) (cwV 2 hts gX8_dues_X8_counts rfl rfl rfl (by decide +kernel) ⟨Nat.le_of_ble_eq_true rfl, Nat.le_of_ble_eq_true rfl⟩) rfl hl.1 rfl (Nat.le_of_ble_eq_true rfl) dX8_dues_55 ⟨Nat.zero_le _, Nat.zero_le _⟩ (fun H locs hI => ?_)
          refine lv_if_eq (tgt := 76) hx hb dX8_dues_58 (by decide) (fun c_9 => ?_) (fun c_9 => ?_)
          · have hB31 := hB31.trans (if_pos c_9)
            refine lv_iinc (v := (nI (i31 + 1))) (lv' := [(6, .int (nI (i31 + 1))), (5, .int x31_5), (4, .int x31_4), (3, .int (nI i4)), (2, .int x4_2), (0, .ref o), (1, .int (nI k))]) hx hb dX8_dues_76 hl (k := 0) rfl (nI_1 i31) (by decide) rfl (fun ls hl => ?_)
            refine lv_goto (tgt := 31) hx hb dX8_dues_79 (by decide) ?_
            exact ih31 (x31_5, x31_4) _ _ ls hlt31 ⟨(by show _ = iX8_dues_31 S k i4 i31 (lX8_dues_31 S k i4 i31).1 (lX8_dues_31 S k i4 i31).2; rw [← hz31]; exact hB31.symm), hI, lv_sub hl [0, 1, 2, 3, 4, 5, 6] rfl⟩
          · have hB31 := hB31.trans (if_neg c_9)
            refine lv_iload hx hb dX8_dues_61 (lv_at hl 2 rfl) ?_
            refine lv_aload_n hx hb dX8_dues_63 rfl (lv_at hl 5 rfl) ?_
            refine mr_ga hC hin hI 17 (by decide) k_47 dX8_dues_64 ?_
            refine lv_iload hx hb dX8_dues_67 (lv_at hl 0 rfl) ?_
            refine mr_ld hC hI 17 (by decide) (by decide) (show vp_in (nI i31) 40 from vp_in_nI (by omega) (by decide)) (v := (S 17 i31)) ((congrArg (S 17) (nI_clamp (by omega))).trans rfl) dX8_dues_69 ?_
            refine lv_iadd hx hb dX8_dues_70 ?_
            refine lv_istore (lv' := [(4, .int (x31_4 + (S 17 i31))), (6, .int (nI i31)), (5, .int x31_5), (3, .int (nI i4)), (2, .int x4_2), (0, .ref o), (1, .int (nI k))]) hx hb dX8_dues_71 hl (by decide) rfl (fun ls hl => ?_)
            refine lv_iinc (v := (x31_5 + 1)) (lv' := [(5, .int (x31_5 + 1)), (4, .int (x31_4 + (S 17 i31))), (6, .int (nI i31)), (3, .int (nI i4)), (2, .int x4_2), (0, .ref o), (1, .int (nI k))]) hx hb dX8_dues_73 hl (k := 2) rfl rfl (by decide) rfl (fun ls hl => ?_)
            refine lv_iinc (v := (nI (i31 + 1))) (lv' := [(6, .int (nI (i31 + 1))), (5, .int (x31_5 + 1)), (4, .int (x31_4 + (S 17 i31))), (3, .int (nI i4)), (2, .int x4_2), (0, .ref o), (1, .int (nI k))]) hx hb dX8_dues_76 hl (k := 2) rfl (nI_1 i31) (by decide) rfl (fun ls hl => ?_)
            refine lv_goto (tgt := 31) hx hb dX8_dues_79 (by decide) ?_
            exact ih31 ((x31_5 + 1), (x31_4 + (S 17 i31))) _ _ ls hlt31 ⟨(by show _ = iX8_dues_31 S k i4 i31 (lX8_dues_31 S k i4 i31).1 (lX8_dues_31 S k i4 i31).2; rw [← hz31]; exact hB31.symm), hI, lv_sub hl [0, 1, 2, 3, 4, 5, 6] rfl⟩
set_option maxHeartbeats 4000000 in
set_option maxRecDepth 100000 in
theorem qX8_hundredthsOf (l : Launch) (D : va_G) (cy : Nat → ClassId) (o : Nat) (ad : Nat → Nat) (S : St) (th : Int32) (hN : MInv S) (k : Nat) (hk : k < 12) {x_k : Int32} (ek : x_k = nI k) : MPure l D cy o ad S th yX8_hundredthsOf wsX8_hundredthsOf ({ frames := 5, cells := 0, slots := 0, locals := 116 } : Room) [.int x_k] (fX8_hundredthsOf S k) := by
  subst ek
  refine Met.ofW (cc := cX8_hundredthsOf) (maxL := 5) (ret := (some .int)) (by decide) rfl ?_
  intro p e s m args below meth c s₁ B hml hv
  obtain ⟨rfl, hM, hK⟩ := hv
  have hx := B.exec
  have hb := B.bytes
  have hr := B.returns
  have hts := atoms_spec (ws := wsX8_hundredthsOf) B.pre
  have hown : s.vm.findClass RX8 = some m.cls := findClass_of_methodNamed B.named
  have hlocks := B.notSynchronized
  have hC : MC p s m _ c cX8_hundredthsOf 5 D cy wsX8_hundredthsOf := ⟨⟨hx, hb, hml, hown, hts⟩, hK⟩
  have hin : ∀ w ∈ wsX80, w ∈ wsX8_hundredthsOf := fun _ h => List.mem_cons_of_mem _ (List.mem_append_right _ (h))
  obtain ⟨A, hAd⟩ : ∃ A : Nat → Prop, A = fun _ => False := ⟨_, rfl⟩
  have hI : MI (fun _ => False) D cy o ad s S th s.heap [] := ⟨hM, va_S.rf⟩
  have hb7 := hN.b7
  have hb15 := hN.b15
  have hb23 := hN.b23
  have hb28 := hN.b28
  have hb42 := hN.b42
  have k_92 := hts (.fieldLink RX8 92 "RelatorsBenchModel" "how" "[I") (List.mem_cons_of_mem _ (List.mem_append_left _ (List.mem_append_left _ (List.mem_of_getElem? (i := 0) rfl))))
  have k_104 := hts (.fieldLink RX8 104 "RelatorsBenchModel" "help" "[I") (List.mem_cons_of_mem _ (List.mem_append_left _ (List.mem_append_left _ (List.mem_of_getElem? (i := 2) rfl))))
  have k_160 := hts (.fieldLink RX8 160 "RelatorsBenchModel" "schemes" "I") (List.mem_cons_of_mem _ (List.mem_append_left _ (List.mem_append_left _ (List.mem_of_getElem? (i := 3) rfl))))
  have k_62 := hts (.fieldLink RX8 62 "RelatorsBenchModel" "planned" "[I") (List.mem_cons_of_mem _ (List.mem_append_left _ (List.mem_append_left _ (List.mem_of_getElem? (i := 4) rfl))))
  have k_77 := hts (.fieldLink RX8 77 "RelatorsBenchModel" "teller" "[I") (List.mem_cons_of_mem _ (List.mem_append_left _ (List.mem_append_left _ (List.mem_of_getElem? (i := 5) rfl))))
  have k_113 := hts (.fieldLink RX8 113 "RelatorsBenchModel" "hundredths" "[I") (List.mem_cons_of_mem _ (List.mem_append_left _ (List.mem_append_left _ (List.mem_of_getElem? (i := 1) rfl))))
  have hl := lv_entry ([.ref o, .int (nI k)]) (n := 5) (Nat.le_of_ble_eq_true rfl)
  rw [lg_entry_eq]
  generalize (lg_sl ([.ref o, .int (nI k)]) ++ List.replicate (5 - (lg_sl ([.ref o, .int (nI k)])).length) Slot.unset).toArray = ls at hl ⊢
  have hl : lv_has ls 5 [(0, .ref o), (1, .int (nI k))] := hl
  subst hAd
  have hG : fX8_hundredthsOf S k = fX8_hundredthsOf S k := rfl
  refine lv_aload_n hx hb dX8_hundredthsOf_0 rfl (lv_at hl 0 rfl) ?_
  refine mr_ga hC hin hI 34 (by decide) k_92 dX8_hundredthsOf_1 ?_
  refine lv_iload_n hx hb dX8_hundredthsOf_4 rfl (lv_at hl 1 rfl) ?_
  refine mr_ld hC hI 34 (by decide) (by decide) (show vp_in (nI k) 12 from vp_in_nI (by omega) (by decide)) (v := (S 34 k)) ((congrArg (S 34) (nI_clamp (by omega))).trans rfl) dX8_hundredthsOf_5 ?_
  refine lv_iconst (v := 1) hx hb dX8_hundredthsOf_6 (by decide) ?_
  refine lv_icmp_eq (tgt := 41) hx hb dX8_hundredthsOf_7 (by decide) (fun c_1 => ?_) (fun c_1 => ?_)
  · have hG := hG.trans (if_pos c_1)
    refine lv_aload_n hx hb dX8_hundredthsOf_41 rfl (lv_at hl 0 rfl) ?_
    refine mr_ga hC hin hI 34 (by decide) k_92 dX8_hundredthsOf_42 ?_
    refine lv_iload_n hx hb dX8_hundredthsOf_45 rfl (lv_at hl 1 rfl) ?_
    refine mr_ld hC hI 34 (by decide) (by decide) (show vp_in (nI k) 12 from vp_in_nI (by omega) (by decide)) (v := (S 34 k)) ((congrArg (S 34) (nI_clamp (by omega))).trans rfl) dX8_hundredthsOf_46 ?_
    refine lv_iconst (v := 1) hx hb dX8_hundredthsOf_47 (by decide) ?_
    have hG : fX8_hundredthsOf S k = bX8_hundredthsOf_74 S k (jX8_hundredthsOf_74 S k) := hG
    refine w_join (σ := Int32) 74 (fun y74_0 H locs ls => jX8_hundredthsOf_74 S k = y74_0 ∧ MI (fun _ => False) D cy o ad s S th H locs ∧ lv_has ls 5 [(0, .ref o), (1, .int (nI k))]) (fun y74_0 => [.int y74_0]) ?_ (fun J74 => ?_)
    · intro y74_0 H locs ls ⟨hy74_0, hI, hl⟩
      rw [hy74_0] at hG
      refine lv_istore_n (lv' := [(2, .int y74_0), (0, .ref o), (1, .int (nI k))]) hx hb dX8_hundredthsOf_74 rfl hl (by decide) rfl (fun ls hl => ?_)
      refine lv_iconst (v := 0) hx hb dX8_hundredthsOf_75 (by decide) ?_
      refine lv_istore_n (lv' := [(3, .int 0), (2, .int y74_0), (0, .ref o), (1, .int (nI k))]) hx hb dX8_hundredthsOf_76 rfl hl (by decide) rfl (fun ls hl => ?_)
      refine lv_iconst (v := 0) hx hb dX8_hundredthsOf_77 (by decide) ?_
      refine lv_istore (lv' := [(4, .int 0), (3, .int 0), (2, .int y74_0), (0, .ref o), (1, .int (nI k))]) hx hb dX8_hundredthsOf_78 hl (by decide) rfl (fun ls hl => ?_)
      refine w_loop (σ := Int32) (nsc S) 80 (fun i80 z H locs ls => z = lX8_hundredthsOf_80 S k i80 ∧ MI (fun _ => False) D cy o ad s S th H locs ∧ lv_has ls 5 [(4, .int (nI i80)), (3, .int z), (2, .int y74_0), (0, .ref o), (1, .int (nI k))]) ?_ 0 ⟨rfl, hI, lv_sub hl [0, 1, 2, 3, 4] rfl⟩
      intro i80 z H locs ls ⟨hz80, hI, hl⟩ hi80 ih80
      obtain ⟨x80_3, rfl⟩ : ∃ x, x = z := ⟨_, rfl⟩
      refine lv_iload hx hb dX8_hundredthsOf_80 (lv_at hl 0 rfl) ?_
      refine lv_aload_n hx hb dX8_hundredthsOf_82 rfl (lv_at hl 3 rfl) ?_
      refine mr_gi hC hin hI 7 (by decide) (by decide) (by decide) k_160 (v := (S 7 0)) rfl dX8_hundredthsOf_83 ?_
      refine lv_icmp_ge (tgt := 135) hx hb dX8_hundredthsOf_86 (by decide) (fun c_3 => ?_) (fun c_3 => ?_)
      · obtain rfl : i80 = nsc S := w_exit hN.n7 hi80 (by have := hN.b7; omega) c_3
        obtain rfl : x80_3 = (lX8_hundredthsOf_80 S k (nsc S)) := by rw [← hz80]
        refine lv_iload_n hx hb dX8_hundredthsOf_135 rfl (lv_at hl 1 rfl) ?_
        refine lv_if_eq (tgt := 145) hx hb dX8_hundredthsOf_136 (by decide) (fun c_8 => ?_) (fun c_8 => ?_)
        · have hG := hG.trans (if_pos c_8)
          refine lv_iload_n hx hb dX8_hundredthsOf_145 rfl (lv_at hl 2 rfl) ?_
          exact W.iret (v := y74_0) hx hb hr (fun t9 ht9 hW9 => ⟨⟨y74_0, (), rfl, hG.symm, trivial⟩, hI.2.F ht9⟩) hI.2.2.2 dX8_hundredthsOf_146
        · have hG := hG.trans (if_neg c_8)
          refine lv_iload_n hx hb dX8_hundredthsOf_139 rfl (lv_at hl 2 rfl) ?_
          refine lv_iconst (v := 2) hx hb dX8_hundredthsOf_140 (by decide) ?_
          refine lv_idiv hx hb dX8_hundredthsOf_141 (by decide) ?_
          refine lv_goto (tgt := 146) hx hb dX8_hundredthsOf_142 (by decide) ?_
          exact W.iret (v := (y74_0 / 2)) hx hb hr (fun t9 ht9 hW9 => ⟨⟨(y74_0 / 2), (), rfl, hG.symm, trivial⟩, hI.2.F ht9⟩) hI.2.2.2 dX8_hundredthsOf_146
      · have hlt80 : i80 < nsc S := w_in hN.n7 hi80 (by have := hN.b7; omega) c_3
        have hB80 : iX8_hundredthsOf_80 S k i80 x80_3 = iX8_hundredthsOf_80 S k i80 x80_3 := rfl
        refine lv_iload_n hx hb dX8_hundredthsOf_89 rfl (lv_at hl 1 rfl) ?_
        refine lv_if_ne (tgt := 123) hx hb dX8_hundredthsOf_90 (by decide) (fun c_5 => ?_) (fun c_5 => ?_)
        · have hB80 := hB80.trans (if_neg c_5)
          refine lv_iconst (v := 1) hx hb dX8_hundredthsOf_123 (by decide) ?_
          refine lv_goto (tgt := 128) hx hb dX8_hundredthsOf_124 (by decide) ?_
          refine lv_istore_n (lv' := [(3, .int 1), (4, .int (nI i80)), (2, .int y74_0), (0, .ref o), (1, .int (nI k))]) hx hb dX8_hundredthsOf_128 rfl hl (by decide) rfl (fun ls hl => ?_)
          refine lv_iinc (v := (nI (i80 + 1))) (lv' := [(4, .int (nI (i80 + 1))), (3, .int 1), (2, .int y74_0), (0, .ref o), (1, .int (nI k))]) hx hb dX8_hundredthsOf_129 hl (k := 1) rfl (nI_1 i80) (by decide) rfl (fun ls hl => ?_)
          refine lv_goto (tgt := 80) hx hb dX8_hundredthsOf_132 (by decide) ?_
          exact ih80 1 _ _ ls hlt80 ⟨(by show _ = iX8_hundredthsOf_80 S k i80 (lX8_hundredthsOf_80 S k i80); rw [← hz80]; exact hB80.symm), hI, lv_sub hl [0, 1, 2, 3, 4] rfl⟩
        · have hB80 := hB80.trans (if_pos c_5)
          refine lv_aload_n hx hb dX8_hundredthsOf_93 rfl (lv_at hl 3 rfl) ?_
          refine mr_ga hC hin hI 22 (by decide) k_62 dX8_hundredthsOf_94 ?_
          refine lv_aload_n hx hb dX8_hundredthsOf_97 rfl (lv_at hl 3 rfl) ?_
          refine mr_ga hC hin hI 29 (by decide) k_77 dX8_hundredthsOf_98 ?_
          refine lv_iload_n hx hb dX8_hundredthsOf_101 rfl (lv_at hl 4 rfl) ?_
          refine mr_ld hC hI 29 (by decide) (by decide) (show vp_in (nI k) 12 from vp_in_nI (by omega) (by decide)) (v := (S 29 k)) ((congrArg (S 29) (nI_clamp (by omega))).trans rfl) dX8_hundredthsOf_102 ?_
          refine mr_ld hC hI 22 (by decide) (by decide) (hN.v29 k) (v := (S 22 (ix (S 29 k)))) rfl dX8_hundredthsOf_103 ?_
          refine lv_iload hx hb dX8_hundredthsOf_104 (lv_at hl 0 rfl) ?_
          refine lv_ishr hx hb dX8_hundredthsOf_106 ?_
          refine lv_iconst (v := 1) hx hb dX8_hundredthsOf_107 (by decide) ?_
          refine lv_iand hx hb dX8_hundredthsOf_108 ?_
          refine lv_iconst (v := 1) hx hb dX8_hundredthsOf_109 (by decide) ?_
          refine lv_icmp_ne (tgt := 127) hx hb dX8_hundredthsOf_110 (by decide) (fun c_6 => ?_) (fun c_6 => ?_)
          · have hB80 := hB80.trans (if_neg c_6)
            refine lv_iconst (v := 0) hx hb dX8_hundredthsOf_127 (by decide) ?_
            refine lv_istore_n (lv' := [(3, .int 0), (4, .int (nI i80)), (2, .int y74_0), (0, .ref o), (1, .int (nI k))]) hx hb dX8_hundredthsOf_128 rfl hl (by decide) rfl (fun ls hl => ?_)
            refine lv_iinc (v := (nI (i80 + 1))) (lv' := [(4, .int (nI (i80 + 1))), (3, .int 0), (2, .int y74_0), (0, .ref o), (1, .int (nI k))]) hx hb dX8_hundredthsOf_129 hl (k := 1) rfl (nI_1 i80) (by decide) rfl (fun ls hl => ?_)
            refine lv_goto (tgt := 80) hx hb dX8_hundredthsOf_132 (by decide) ?_
            exact ih80 0 _ _ ls hlt80 ⟨(by show _ = iX8_hundredthsOf_80 S k i80 (lX8_hundredthsOf_80 S k i80); rw [← hz80]; exact hB80.symm), hI, lv_sub hl [0, 1, 2, 3, 4] rfl⟩
          · have hB80 := hB80.trans (if_pos c_6)
            refine lv_aload_n hx hb dX8_hundredthsOf_113 rfl (lv_at hl 3 rfl) ?_
            refine lv_iload_n hx hb dX8_hundredthsOf_114 rfl (lv_at hl 4 rfl) ?_
            refine lv_iload hx hb dX8_hundredthsOf_115 (lv_at hl 0 rfl) ?_
            refine mr_call (As := [.int (nI k), .int (nI i80)]) (rest := []) hC hI (qX8_bar l D cy o ad S th hN k (by omega) rfl i80 (by omega) rfl) (cwV 2 hts gX8_hundredthsOf_X8_bar rfl rfl rfl (by decide +kernel) ⟨Nat.le_of_ble_eq_true rfl, Nat.le_of_ble_eq_true rfl⟩) rfl hl.1 rfl (Nat.le_of_ble_eq_true rfl) dX8_hundredthsOf_117 ⟨Nat.zero_le _, Nat.zero_le _⟩ (fun H locs hI => ?_)
            refine lv_if_ne (tgt := 127) hx hb dX8_hundredthsOf_120 (by decide) (fun c_7 => ?_) (fun c_7 => ?_)
            · have hB80 := hB80.trans (if_neg c_7)
              refine lv_iconst (v := 0) hx hb dX8_hundredthsOf_127 (by decide) ?_
              refine lv_istore_n (lv' := [(3, .int 0), (4, .int (nI i80)), (2, .int y74_0), (0, .ref o), (1, .int (nI k))]) hx hb dX8_hundredthsOf_128 rfl hl (by decide) rfl (fun ls hl => ?_)
              refine lv_iinc (v := (nI (i80 + 1))) (lv' := [(4, .int (nI (i80 + 1))), (3, .int 0), (2, .int y74_0), (0, .ref o), (1, .int (nI k))]) hx hb dX8_hundredthsOf_129 hl (k := 1) rfl (nI_1 i80) (by decide) rfl (fun ls hl => ?_)
              refine lv_goto (tgt := 80) hx hb dX8_hundredthsOf_132 (by decide) ?_
              exact ih80 0 _ _ ls hlt80 ⟨(by show _ = iX8_hundredthsOf_80 S k i80 (lX8_hundredthsOf_80 S k i80); rw [← hz80]; exact hB80.symm), hI, lv_sub hl [0, 1, 2, 3, 4] rfl⟩
            · have hB80 := hB80.trans (if_pos c_7)
              refine lv_iconst (v := 1) hx hb dX8_hundredthsOf_123 (by decide) ?_
              refine lv_goto (tgt := 128) hx hb dX8_hundredthsOf_124 (by decide) ?_
              refine lv_istore_n (lv' := [(3, .int 1), (4, .int (nI i80)), (2, .int y74_0), (0, .ref o), (1, .int (nI k))]) hx hb dX8_hundredthsOf_128 rfl hl (by decide) rfl (fun ls hl => ?_)
              refine lv_iinc (v := (nI (i80 + 1))) (lv' := [(4, .int (nI (i80 + 1))), (3, .int 1), (2, .int y74_0), (0, .ref o), (1, .int (nI k))]) hx hb dX8_hundredthsOf_129 hl (k := 1) rfl (nI_1 i80) (by decide) rfl (fun ls hl => ?_)
              refine lv_goto (tgt := 80) hx hb dX8_hundredthsOf_132 (by decide) ?_
              exact ih80 1 _ _ ls hlt80 ⟨(by show _ = iX8_hundredthsOf_80 S k i80 (lX8_hundredthsOf_80 S k i80); rw [← hz80]; exact hB80.symm), hI, lv_sub hl [0, 1, 2, 3, 4] rfl⟩
    · have hB74 : jX8_hundredthsOf_74 S k = jX8_hundredthsOf_74 S k := rfl
      refine lv_icmp_ne (tgt := 63) hx hb dX8_hundredthsOf_48 (by decide) (fun c_2 => ?_) (fun c_2 => ?_)
      · have hB74 := hB74.trans (if_neg c_2)
        refine lv_bipush (v := 25) hx hb dX8_hundredthsOf_63 (by decide) ?_
        refine lv_aload_n hx hb dX8_hundredthsOf_65 rfl (lv_at hl 0 rfl) ?_
        refine mr_ga hC hin hI 38 (by decide) k_104 dX8_hundredthsOf_66 ?_
        refine lv_iload_n hx hb dX8_hundredthsOf_69 rfl (lv_at hl 1 rfl) ?_
        refine mr_ld hC hI 38 (by decide) (by decide) (show vp_in (nI k) 12 from vp_in_nI (by omega) (by decide)) (v := (S 38 k)) ((congrArg (S 38) (nI_clamp (by omega))).trans rfl) dX8_hundredthsOf_70 ?_
        refine lv_iconst (v := 2) hx hb dX8_hundredthsOf_71 (by decide) ?_
        refine lv_idiv hx hb dX8_hundredthsOf_72 (by decide) ?_
        refine lv_iadd hx hb dX8_hundredthsOf_73 ?_
        exact J74 (25 + ((S 38 k) / 2)) _ _ ls ⟨hB74, hI, lv_sub hl [0, 1] rfl⟩
      · have hB74 := hB74.trans (if_pos c_2)
        refine lv_bipush (v := 15) hx hb dX8_hundredthsOf_51 (by decide) ?_
        refine lv_aload_n hx hb dX8_hundredthsOf_53 rfl (lv_at hl 0 rfl) ?_
        refine mr_ga hC hin hI 38 (by decide) k_104 dX8_hundredthsOf_54 ?_
        refine lv_iload_n hx hb dX8_hundredthsOf_57 rfl (lv_at hl 1 rfl) ?_
        refine mr_ld hC hI 38 (by decide) (by decide) (show vp_in (nI k) 12 from vp_in_nI (by omega) (by decide)) (v := (S 38 k)) ((congrArg (S 38) (nI_clamp (by omega))).trans rfl) dX8_hundredthsOf_58 ?_
        refine lv_iadd hx hb dX8_hundredthsOf_59 ?_
        refine lv_goto (tgt := 74) hx hb dX8_hundredthsOf_60 (by decide) ?_
        exact J74 (15 + (S 38 k)) _ _ ls ⟨hB74, hI, lv_sub hl [0, 1] rfl⟩
  · have hG := hG.trans (if_neg c_1)
    refine lv_aload_n hx hb dX8_hundredthsOf_10 rfl (lv_at hl 0 rfl) ?_
    refine mr_ga hC hin hI 34 (by decide) k_92 dX8_hundredthsOf_11 ?_
    refine lv_iload_n hx hb dX8_hundredthsOf_14 rfl (lv_at hl 1 rfl) ?_
    refine mr_ld hC hI 34 (by decide) (by decide) (show vp_in (nI k) 12 from vp_in_nI (by omega) (by decide)) (v := (S 34 k)) ((congrArg (S 34) (nI_clamp (by omega))).trans rfl) dX8_hundredthsOf_15 ?_
    refine lv_iconst (v := 2) hx hb dX8_hundredthsOf_16 (by decide) ?_
    refine lv_icmp_eq (tgt := 41) hx hb dX8_hundredthsOf_17 (by decide) (fun c_9 => ?_) (fun c_9 => ?_)
    · have hG := hG.trans (if_pos c_9)
      refine lv_aload_n hx hb dX8_hundredthsOf_41 rfl (lv_at hl 0 rfl) ?_
      refine mr_ga hC hin hI 34 (by decide) k_92 dX8_hundredthsOf_42 ?_
      refine lv_iload_n hx hb dX8_hundredthsOf_45 rfl (lv_at hl 1 rfl) ?_
      refine mr_ld hC hI 34 (by decide) (by decide) (show vp_in (nI k) 12 from vp_in_nI (by omega) (by decide)) (v := (S 34 k)) ((congrArg (S 34) (nI_clamp (by omega))).trans rfl) dX8_hundredthsOf_46 ?_
      refine lv_iconst (v := 1) hx hb dX8_hundredthsOf_47 (by decide) ?_
      have hG : fX8_hundredthsOf S k = bX8_hundredthsOf_74 S k (jX8_hundredthsOf_74 S k) := hG
      refine w_join (σ := Int32) 74 (fun y74_0 H locs ls => jX8_hundredthsOf_74 S k = y74_0 ∧ MI (fun _ => False) D cy o ad s S th H locs ∧ lv_has ls 5 [(0, .ref o), (1, .int (nI k))]) (fun y74_0 => [.int y74_0]) ?_ (fun J74 => ?_)
      · intro y74_0 H locs ls ⟨hy74_0, hI, hl⟩
        rw [hy74_0] at hG
        refine lv_istore_n (lv' := [(2, .int y74_0), (0, .ref o), (1, .int (nI k))]) hx hb dX8_hundredthsOf_74 rfl hl (by decide) rfl (fun ls hl => ?_)
        refine lv_iconst (v := 0) hx hb dX8_hundredthsOf_75 (by decide) ?_
        refine lv_istore_n (lv' := [(3, .int 0), (2, .int y74_0), (0, .ref o), (1, .int (nI k))]) hx hb dX8_hundredthsOf_76 rfl hl (by decide) rfl (fun ls hl => ?_)
        refine lv_iconst (v := 0) hx hb dX8_hundredthsOf_77 (by decide) ?_
        refine lv_istore (lv' := [(4, .int 0), (3, .int 0), (2, .int y74_0), (0, .ref o), (1, .int (nI k))]) hx hb dX8_hundredthsOf_78 hl (by decide) rfl (fun ls hl => ?_)
        refine w_loop (σ := Int32) (nsc S) 80 (fun i80 z H locs ls => z = lX8_hundredthsOf_80 S k i80 ∧ MI (fun _ => False) D cy o ad s S th H locs ∧ lv_has ls 5 [(4, .int (nI i80)), (3, .int z), (2, .int y74_0), (0, .ref o), (1, .int (nI k))]) ?_ 0 ⟨rfl, hI, lv_sub hl [0, 1, 2, 3, 4] rfl⟩
        intro i80 z H locs ls ⟨hz80, hI, hl⟩ hi80 ih80
        obtain ⟨x80_3, rfl⟩ : ∃ x, x = z := ⟨_, rfl⟩
        refine lv_iload hx hb dX8_hundredthsOf_80 (lv_at hl 0 rfl) ?_
        refine lv_aload_n hx hb dX8_hundredthsOf_82 rfl (lv_at hl 3 rfl) ?_
        refine mr_gi hC hin hI 7 (by decide) (by decide) (by decide) k_160 (v := (S 7 0)) rfl dX8_hundredthsOf_83 ?_
        refine lv_icmp_ge (tgt := 135) hx hb dX8_hundredthsOf_86 (by decide) (fun c_11 => ?_) (fun c_11 => ?_)
        · obtain rfl : i80 = nsc S := w_exit hN.n7 hi80 (by have := hN.b7; omega) c_11
          obtain rfl : x80_3 = (lX8_hundredthsOf_80 S k (nsc S)) := by rw [← hz80]
          refine lv_iload_n hx hb dX8_hundredthsOf_135 rfl (lv_at hl 1 rfl) ?_
          refine lv_if_eq (tgt := 145) hx hb dX8_hundredthsOf_136 (by decide) (fun c_16 => ?_) (fun c_16 => ?_)
          · have hG := hG.trans (if_pos c_16)
            refine lv_iload_n hx hb dX8_hundredthsOf_145 rfl (lv_at hl 2 rfl) ?_
            exact W.iret (v := y74_0) hx hb hr (fun t9 ht9 hW9 => ⟨⟨y74_0, (), rfl, hG.symm, trivial⟩, hI.2.F ht9⟩) hI.2.2.2 dX8_hundredthsOf_146
          · have hG := hG.trans (if_neg c_16)
            refine lv_iload_n hx hb dX8_hundredthsOf_139 rfl (lv_at hl 2 rfl) ?_
            refine lv_iconst (v := 2) hx hb dX8_hundredthsOf_140 (by decide) ?_
            refine lv_idiv hx hb dX8_hundredthsOf_141 (by decide) ?_
            refine lv_goto (tgt := 146) hx hb dX8_hundredthsOf_142 (by decide) ?_
            exact W.iret (v := (y74_0 / 2)) hx hb hr (fun t9 ht9 hW9 => ⟨⟨(y74_0 / 2), (), rfl, hG.symm, trivial⟩, hI.2.F ht9⟩) hI.2.2.2 dX8_hundredthsOf_146
        · have hlt80 : i80 < nsc S := w_in hN.n7 hi80 (by have := hN.b7; omega) c_11
          have hB80 : iX8_hundredthsOf_80 S k i80 x80_3 = iX8_hundredthsOf_80 S k i80 x80_3 := rfl
          refine lv_iload_n hx hb dX8_hundredthsOf_89 rfl (lv_at hl 1 rfl) ?_
          refine lv_if_ne (tgt := 123) hx hb dX8_hundredthsOf_90 (by decide) (fun c_13 => ?_) (fun c_13 => ?_)
          · have hB80 := hB80.trans (if_neg c_13)
            refine lv_iconst (v := 1) hx hb dX8_hundredthsOf_123 (by decide) ?_
            refine lv_goto (tgt := 128) hx hb dX8_hundredthsOf_124 (by decide) ?_
            refine lv_istore_n (lv' := [(3, .int 1), (4, .int (nI i80)), (2, .int y74_0), (0, .ref o), (1, .int (nI k))]) hx hb dX8_hundredthsOf_128 rfl hl (by decide) rfl (fun ls hl => ?_)
            refine lv_iinc (v := (nI (i80 + 1))) (lv' := [(4, .int (nI (i80 + 1))), (3, .int 1), (2, .int y74_0), (0, .ref o), (1, .int (nI k))]) hx hb dX8_hundredthsOf_129 hl (k := 1) rfl (nI_1 i80) (by decide) rfl (fun ls hl => ?_)
            refine lv_goto (tgt := 80) hx hb dX8_hundredthsOf_132 (by decide) ?_
            exact ih80 1 _ _ ls hlt80 ⟨(by show _ = iX8_hundredthsOf_80 S k i80 (lX8_hundredthsOf_80 S k i80); rw [← hz80]; exact hB80.symm), hI, lv_sub hl [0, 1, 2, 3, 4] rfl⟩
          · have hB80 := hB80.trans (if_pos c_13)
            refine lv_aload_n hx hb dX8_hundredthsOf_93 rfl (lv_at hl 3 rfl) ?_
            refine mr_ga hC hin hI 22 (by decide) k_62 dX8_hundredthsOf_94 ?_
            refine lv_aload_n hx hb dX8_hundredthsOf_97 rfl (lv_at hl 3 rfl) ?_
            refine mr_ga hC hin hI 29 (by decide) k_77 dX8_hundredthsOf_98 ?_
            refine lv_iload_n hx hb dX8_hundredthsOf_101 rfl (lv_at hl 4 rfl) ?_
            refine mr_ld hC hI 29 (by decide) (by decide) (show vp_in (nI k) 12 from vp_in_nI (by omega) (by decide)) (v := (S 29 k)) ((congrArg (S 29) (nI_clamp (by omega))).trans rfl) dX8_hundredthsOf_102 ?_
            refine mr_ld hC hI 22 (by decide) (by decide) (hN.v29 k) (v := (S 22 (ix (S 29 k)))) rfl dX8_hundredthsOf_103 ?_
            refine lv_iload hx hb dX8_hundredthsOf_104 (lv_at hl 0 rfl) ?_
            refine lv_ishr hx hb dX8_hundredthsOf_106 ?_
            refine lv_iconst (v := 1) hx hb dX8_hundredthsOf_107 (by decide) ?_
            refine lv_iand hx hb dX8_hundredthsOf_108 ?_
            refine lv_iconst (v := 1) hx hb dX8_hundredthsOf_109 (by decide) ?_
            refine lv_icmp_ne (tgt := 127) hx hb dX8_hundredthsOf_110 (by decide) (fun c_14 => ?_) (fun c_14 => ?_)
            · have hB80 := hB80.trans (if_neg c_14)
              refine lv_iconst (v := 0) hx hb dX8_hundredthsOf_127 (by decide) ?_
              refine lv_istore_n (lv' := [(3, .int 0), (4, .int (nI i80)), (2, .int y74_0), (0, .ref o), (1, .int (nI k))]) hx hb dX8_hundredthsOf_128 rfl hl (by decide) rfl (fun ls hl => ?_)
              refine lv_iinc (v := (nI (i80 + 1))) (lv' := [(4, .int (nI (i80 + 1))), (3, .int 0), (2, .int y74_0), (0, .ref o), (1, .int (nI k))]) hx hb dX8_hundredthsOf_129 hl (k := 1) rfl (nI_1 i80) (by decide) rfl (fun ls hl => ?_)
              refine lv_goto (tgt := 80) hx hb dX8_hundredthsOf_132 (by decide) ?_
              exact ih80 0 _ _ ls hlt80 ⟨(by show _ = iX8_hundredthsOf_80 S k i80 (lX8_hundredthsOf_80 S k i80); rw [← hz80]; exact hB80.symm), hI, lv_sub hl [0, 1, 2, 3, 4] rfl⟩
            · have hB80 := hB80.trans (if_pos c_14)
              refine lv_aload_n hx hb dX8_hundredthsOf_113 rfl (lv_at hl 3 rfl) ?_
              refine lv_iload_n hx hb dX8_hundredthsOf_114 rfl (lv_at hl 4 rfl) ?_
              refine lv_iload hx hb dX8_hundredthsOf_115 (lv_at hl 0 rfl) ?_
              refine mr_call (As := [.int (nI k), .int (nI i80)]) (rest := []) hC hI (qX8_bar l D cy o ad S th hN k (by omega) rfl i80 (by omega) rfl) (cwV 2 hts gX8_hundredthsOf_X8_bar rfl rfl rfl (by decide +kernel) ⟨Nat.le_of_ble_eq_true rfl, Nat.le_of_ble_eq_true rfl⟩) rfl hl.1 rfl (Nat.le_of_ble_eq_true rfl) dX8_hundredthsOf_117 ⟨Nat.zero_le _, Nat.zero_le _⟩ (fun H locs hI => ?_)
              refine lv_if_ne (tgt := 127) hx hb dX8_hundredthsOf_120 (by decide) (fun c_15 => ?_) (fun c_15 => ?_)
              · have hB80 := hB80.trans (if_neg c_15)
                refine lv_iconst (v := 0) hx hb dX8_hundredthsOf_127 (by decide) ?_
                refine lv_istore_n (lv' := [(3, .int 0), (4, .int (nI i80)), (2, .int y74_0), (0, .ref o), (1, .int (nI k))]) hx hb dX8_hundredthsOf_128 rfl hl (by decide) rfl (fun ls hl => ?_)
                refine lv_iinc (v := (nI (i80 + 1))) (lv' := [(4, .int (nI (i80 + 1))), (3, .int 0), (2, .int y74_0), (0, .ref o), (1, .int (nI k))]) hx hb dX8_hundredthsOf_129 hl (k := 1) rfl (nI_1 i80) (by decide) rfl (fun ls hl => ?_)
                refine lv_goto (tgt := 80) hx hb dX8_hundredthsOf_132 (by decide) ?_
                exact ih80 0 _ _ ls hlt80 ⟨(by show _ = iX8_hundredthsOf_80 S k i80 (lX8_hundredthsOf_80 S k i80); rw [← hz80]; exact hB80.symm), hI, lv_sub hl [0, 1, 2, 3, 4] rfl⟩
              · have hB80 := hB80.trans (if_pos c_15)
                refine lv_iconst (v := 1) hx hb dX8_hundredthsOf_123 (by decide) ?_
                refine lv_goto (tgt := 128) hx hb dX8_hundredthsOf_124 (by decide) ?_
                refine lv_istore_n (lv' := [(3, .int 1), (4, .int (nI i80)), (2, .int y74_0), (0, .ref o), (1, .int (nI k))]) hx hb dX8_hundredthsOf_128 rfl hl (by decide) rfl (fun ls hl => ?_)
                refine lv_iinc (v := (nI (i80 + 1))) (lv' := [(4, .int (nI (i80 + 1))), (3, .int 1), (2, .int y74_0), (0, .ref o), (1, .int (nI k))]) hx hb dX8_hundredthsOf_129 hl (k := 1) rfl (nI_1 i80) (by decide) rfl (fun ls hl => ?_)
                refine lv_goto (tgt := 80) hx hb dX8_hundredthsOf_132 (by decide) ?_
                exact ih80 1 _ _ ls hlt80 ⟨(by show _ = iX8_hundredthsOf_80 S k i80 (lX8_hundredthsOf_80 S k i80); rw [← hz80]; exact hB80.symm), hI, lv_sub hl [0, 1, 2, 3, 4] rfl⟩
      · have hB74 : jX8_hundredthsOf_74 S k = jX8_hundredthsOf_74 S k := rfl
        refine lv_icmp_ne (tgt := 63) hx hb dX8_hundredthsOf_48 (by decide) (fun c_10 => ?_) (fun c_10 => ?_)
        · have hB74 := hB74.trans (if_neg c_10)
          refine lv_bipush (v := 25) hx hb dX8_hundredthsOf_63 (by decide) ?_
          refine lv_aload_n hx hb dX8_hundredthsOf_65 rfl (lv_at hl 0 rfl) ?_
          refine mr_ga hC hin hI 38 (by decide) k_104 dX8_hundredthsOf_66 ?_
          refine lv_iload_n hx hb dX8_hundredthsOf_69 rfl (lv_at hl 1 rfl) ?_
          refine mr_ld hC hI 38 (by decide) (by decide) (show vp_in (nI k) 12 from vp_in_nI (by omega) (by decide)) (v := (S 38 k)) ((congrArg (S 38) (nI_clamp (by omega))).trans rfl) dX8_hundredthsOf_70 ?_
          refine lv_iconst (v := 2) hx hb dX8_hundredthsOf_71 (by decide) ?_
          refine lv_idiv hx hb dX8_hundredthsOf_72 (by decide) ?_
          refine lv_iadd hx hb dX8_hundredthsOf_73 ?_
          exact J74 (25 + ((S 38 k) / 2)) _ _ ls ⟨hB74, hI, lv_sub hl [0, 1] rfl⟩
        · have hB74 := hB74.trans (if_pos c_10)
          refine lv_bipush (v := 15) hx hb dX8_hundredthsOf_51 (by decide) ?_
          refine lv_aload_n hx hb dX8_hundredthsOf_53 rfl (lv_at hl 0 rfl) ?_
          refine mr_ga hC hin hI 38 (by decide) k_104 dX8_hundredthsOf_54 ?_
          refine lv_iload_n hx hb dX8_hundredthsOf_57 rfl (lv_at hl 1 rfl) ?_
          refine mr_ld hC hI 38 (by decide) (by decide) (show vp_in (nI k) 12 from vp_in_nI (by omega) (by decide)) (v := (S 38 k)) ((congrArg (S 38) (nI_clamp (by omega))).trans rfl) dX8_hundredthsOf_58 ?_
          refine lv_iadd hx hb dX8_hundredthsOf_59 ?_
          refine lv_goto (tgt := 74) hx hb dX8_hundredthsOf_60 (by decide) ?_
          exact J74 (15 + (S 38 k)) _ _ ls ⟨hB74, hI, lv_sub hl [0, 1] rfl⟩
    · have hG := hG.trans (if_neg c_9)
      refine lv_aload_n hx hb dX8_hundredthsOf_20 rfl (lv_at hl 0 rfl) ?_
      refine mr_ga hC hin hI 34 (by decide) k_92 dX8_hundredthsOf_21 ?_
      refine lv_iload_n hx hb dX8_hundredthsOf_24 rfl (lv_at hl 1 rfl) ?_
      refine mr_ld hC hI 34 (by decide) (by decide) (show vp_in (nI k) 12 from vp_in_nI (by omega) (by decide)) (v := (S 34 k)) ((congrArg (S 34) (nI_clamp (by omega))).trans rfl) dX8_hundredthsOf_25 ?_
      refine lv_iconst (v := 4) hx hb dX8_hundredthsOf_26 (by decide) ?_
      refine lv_icmp_ne (tgt := 39) hx hb dX8_hundredthsOf_27 (by decide) (fun c_17 => ?_) (fun c_17 => ?_)
      · have hG := hG.trans (if_neg c_17)
        refine lv_iconst (v := 0) hx hb dX8_hundredthsOf_39 (by decide) ?_
        exact W.iret (v := 0) hx hb hr (fun t9 ht9 hW9 => ⟨⟨0, (), rfl, hG.symm, trivial⟩, hI.2.F ht9⟩) hI.2.2.2 dX8_hundredthsOf_40
      · have hG := hG.trans (if_pos c_17)
        refine lv_aload_n hx hb dX8_hundredthsOf_30 rfl (lv_at hl 0 rfl) ?_
        refine mr_ga hC hin hI 41 (by decide) k_113 dX8_hundredthsOf_31 ?_
        refine lv_iload_n hx hb dX8_hundredthsOf_34 rfl (lv_at hl 1 rfl) ?_
        refine mr_ld hC hI 41 (by decide) (by decide) (show vp_in (nI k) 12 from vp_in_nI (by omega) (by decide)) (v := (S 41 k)) ((congrArg (S 41) (nI_clamp (by omega))).trans rfl) dX8_hundredthsOf_35 ?_
        refine lv_goto (tgt := 40) hx hb dX8_hundredthsOf_36 (by decide) ?_
        exact W.iret (v := (S 41 k)) hx hb hr (fun t9 ht9 hW9 => ⟨⟨S 41 k, (), rfl, hG.symm, trivial⟩, hI.2.F ht9⟩) hI.2.2.2 dX8_hundredthsOf_40
set_option maxHeartbeats 4000000 in
set_option maxRecDepth 100000 in
theorem qX8_tellsFrom (l : Launch) (D : va_G) (cy : Nat → ClassId) (o : Nat) (ad : Nat → Nat) (S : St) (th : Int32) (hN : MInv S) (f : Nat) (hf : f < 6) {x_f : Int32} (ef : x_f = nI f) (t : Nat) (ht : t < 8) {x_t : Int32} (et : x_t = nI t) : MPure l D cy o ad S th yX8_tellsFrom wsX8_tellsFrom ({ frames := 1, cells := 0, slots := 0, locals := 21 } : Room) [.int x_f, .int x_t] (fX8_tellsFrom S f t) := by
  subst ef
  subst et
  refine Met.ofW (cc := cX8_tellsFrom) (maxL := 5) (ret := (some .int)) (by decide) rfl ?_
  intro p e s m args below meth c s₁ B hml hv
  obtain ⟨rfl, hM, hK⟩ := hv
  have hx := B.exec
  have hb := B.bytes
  have hr := B.returns
  have hts := atoms_spec (ws := wsX8_tellsFrom) B.pre
  have hown : s.vm.findClass RX8 = some m.cls := findClass_of_methodNamed B.named
  have hlocks := B.notSynchronized
  have hC : MC p s m _ c cX8_tellsFrom 5 D cy wsX8_tellsFrom := ⟨⟨hx, hb, hml, hown, hts⟩, hK⟩
  have hin : ∀ w ∈ wsX80, w ∈ wsX8_tellsFrom := fun _ h => List.mem_cons_of_mem _ (List.mem_append_right _ (h))
  obtain ⟨A, hAd⟩ : ∃ A : Nat → Prop, A = fun _ => False := ⟨_, rfl⟩
  have hI : MI (fun _ => False) D cy o ad s S th s.heap [] := ⟨hM, va_S.rf⟩
  have hb7 := hN.b7
  have hb15 := hN.b15
  have hb23 := hN.b23
  have hb28 := hN.b28
  have hb42 := hN.b42
  have k_140 := hts (.fieldLink RX8 140 "RelatorsBenchModel" "toldOn" "[I") (List.mem_cons_of_mem _ (List.mem_append_left _ (List.mem_of_getElem? (i := 0) rfl)))
  have k_163 := hts (.fieldLink RX8 163 "RelatorsBenchModel" "suits" "I") (List.mem_cons_of_mem _ (List.mem_append_left _ (List.mem_of_getElem? (i := 1) rfl)))
  have k_77 := hts (.fieldLink RX8 77 "RelatorsBenchModel" "teller" "[I") (List.mem_cons_of_mem _ (List.mem_append_left _ (List.mem_of_getElem? (i := 2) rfl)))
  have k_80 := hts (.fieldLink RX8 80 "RelatorsBenchModel" "against" "[I") (List.mem_cons_of_mem _ (List.mem_append_left _ (List.mem_of_getElem? (i := 3) rfl)))
  have k_98 := hts (.fieldLink RX8 98 "RelatorsBenchModel" "opens" "[I") (List.mem_cons_of_mem _ (List.mem_append_left _ (List.mem_of_getElem? (i := 4) rfl)))
  have hl := lv_entry ([.ref o, .int (nI f), .int (nI t)]) (n := 5) (Nat.le_of_ble_eq_true rfl)
  rw [lg_entry_eq]
  generalize (lg_sl ([.ref o, .int (nI f), .int (nI t)]) ++ List.replicate (5 - (lg_sl ([.ref o, .int (nI f), .int (nI t)])).length) Slot.unset).toArray = ls at hl ⊢
  have hl : lv_has ls 5 [(0, .ref o), (1, .int (nI f)), (2, .int (nI t))] := hl
  subst hAd
  have hG : fX8_tellsFrom S f t = fX8_tellsFrom S f t := rfl
  refine lv_aload_n hx hb dX8_tellsFrom_0 rfl (lv_at hl 0 rfl) ?_
  refine mr_ga hC hin hI 51 (by decide) k_140 dX8_tellsFrom_1 ?_
  refine lv_iload_n hx hb dX8_tellsFrom_4 rfl (lv_at hl 1 rfl) ?_
  refine lv_iload_n hx hb dX8_tellsFrom_5 rfl (lv_at hl 2 rfl) ?_
  refine mr_callS (As := [.int (nI f), .int (nI t)]) (rest := [.ref (ad 51)]) hC hI (qX8_place l (nI f) (nI t)) (va_cwS 2 hts gX8_tellsFrom_X8_place rfl rfl rfl (by decide +kernel) ⟨Nat.le_of_ble_eq_true rfl, Nat.le_of_ble_eq_true rfl⟩) rfl hl.1 rfl (Nat.le_of_ble_eq_true rfl) dX8_tellsFrom_6 ⟨Nat.zero_le _, Nat.zero_le _⟩ (fun H locs hI => ?_)
  refine mr_ld hC hI 51 (by decide) (by decide) (place_in hf ht) (v := (S 51 (ix (fX8_place (nI f) (nI t))))) rfl dX8_tellsFrom_9 ?_
  refine lv_iconst (v := (-1)) hx hb dX8_tellsFrom_10 (by decide) ?_
  have hG : fX8_tellsFrom S f t = bX8_tellsFrom_30 S f t (jX8_tellsFrom_30 S f t) := hG
  refine w_join (σ := Int32) 30 (fun y30_0 H locs ls => jX8_tellsFrom_30 S f t = y30_0 ∧ MI (fun _ => False) D cy o ad s S th H locs ∧ lv_has ls 5 [(0, .ref o), (1, .int (nI f)), (2, .int (nI t))]) (fun y30_0 => [.int y30_0]) ?_ (fun J30 => ?_)
  · intro y30_0 H locs ls ⟨hy30_0, hI, hl⟩
    rw [hy30_0] at hG
    refine lv_istore_n (lv' := [(3, .int y30_0), (0, .ref o), (1, .int (nI f)), (2, .int (nI t))]) hx hb dX8_tellsFrom_30 rfl hl (by decide) rfl (fun ls hl => ?_)
    refine lv_iconst (v := 0) hx hb dX8_tellsFrom_31 (by decide) ?_
    refine lv_istore (lv' := [(4, .int 0), (3, .int y30_0), (0, .ref o), (1, .int (nI f)), (2, .int (nI t))]) hx hb dX8_tellsFrom_32 hl (by decide) rfl (fun ls hl => ?_)
    refine w_loop (σ := Int32) (nsu S) 34 (fun i34 z H locs ls => z = lX8_tellsFrom_34 S f t y30_0 i34 ∧ MI (fun _ => False) D cy o ad s S th H locs ∧ lv_has ls 5 [(4, .int (nI i34)), (3, .int z), (0, .ref o), (1, .int (nI f)), (2, .int (nI t))]) ?_ y30_0 ⟨rfl, hI, lv_sub hl [0, 1, 2, 3, 4] rfl⟩
    intro i34 z H locs ls ⟨hz34, hI, hl⟩ hi34 ih34
    obtain ⟨x34_3, rfl⟩ : ∃ x, x = z := ⟨_, rfl⟩
    refine lv_iload hx hb dX8_tellsFrom_34 (lv_at hl 0 rfl) ?_
    refine lv_aload_n hx hb dX8_tellsFrom_36 rfl (lv_at hl 2 rfl) ?_
    refine mr_gi hC hin hI 28 (by decide) (by decide) (by decide) k_163 (v := (S 28 0)) rfl dX8_tellsFrom_37 ?_
    refine lv_icmp_ge (tgt := 94) hx hb dX8_tellsFrom_40 (by decide) (fun c_2 => ?_) (fun c_2 => ?_)
    · obtain rfl : i34 = nsu S := w_exit hN.n28 hi34 (by have := hN.b28; omega) c_2
      obtain rfl : x34_3 = (lX8_tellsFrom_34 S f t y30_0 (nsu S)) := by rw [← hz34]
      refine lv_iload_n hx hb dX8_tellsFrom_94 rfl (lv_at hl 1 rfl) ?_
      exact W.iret (v := (lX8_tellsFrom_34 S f t y30_0 (nsu S))) hx hb hr (fun t9 ht9 hW9 => ⟨⟨(lX8_tellsFrom_34 S f t y30_0 (nsu S)), (), rfl, hG.symm, trivial⟩, hI.2.F ht9⟩) hI.2.2.2 dX8_tellsFrom_95
    · have hlt34 : i34 < nsu S := w_in hN.n28 hi34 (by have := hN.b28; omega) c_2
      have hB34 : iX8_tellsFrom_34 S f t i34 x34_3 = iX8_tellsFrom_34 S f t i34 x34_3 := rfl
      refine lv_aload_n hx hb dX8_tellsFrom_43 rfl (lv_at hl 2 rfl) ?_
      refine mr_ga hC hin hI 29 (by decide) k_77 dX8_tellsFrom_44 ?_
      refine lv_iload hx hb dX8_tellsFrom_47 (lv_at hl 0 rfl) ?_
      refine mr_ld hC hI 29 (by decide) (by decide) (show vp_in (nI i34) 12 from vp_in_nI (by omega) (by decide)) (v := (S 29 i34)) ((congrArg (S 29) (nI_clamp (by omega))).trans rfl) dX8_tellsFrom_49 ?_
      refine lv_iload_n hx hb dX8_tellsFrom_50 rfl (lv_at hl 4 rfl) ?_
      refine lv_icmp_ne (tgt := 86) hx hb dX8_tellsFrom_51 (by decide) (fun c_3 => ?_) (fun c_3 => ?_)
      · have hB34 := hB34.trans (if_neg c_3)
        refine lv_iload_n hx hb dX8_tellsFrom_86 rfl (lv_at hl 1 rfl) ?_
        refine lv_istore_n (lv' := [(3, .int x34_3), (4, .int (nI i34)), (0, .ref o), (1, .int (nI f)), (2, .int (nI t))]) hx hb dX8_tellsFrom_87 rfl hl (by decide) rfl (fun ls hl => ?_)
        refine lv_iinc (v := (nI (i34 + 1))) (lv' := [(4, .int (nI (i34 + 1))), (3, .int x34_3), (0, .ref o), (1, .int (nI f)), (2, .int (nI t))]) hx hb dX8_tellsFrom_88 hl (k := 1) rfl (nI_1 i34) (by decide) rfl (fun ls hl => ?_)
        refine lv_goto (tgt := 34) hx hb dX8_tellsFrom_91 (by decide) ?_
        exact ih34 x34_3 _ _ ls hlt34 ⟨(by show _ = iX8_tellsFrom_34 S f t i34 (lX8_tellsFrom_34 S f t y30_0 i34); rw [← hz34]; exact hB34.symm), hI, lv_sub hl [0, 1, 2, 3, 4] rfl⟩
      · have hB34 := hB34.trans (if_pos c_3)
        refine lv_aload_n hx hb dX8_tellsFrom_54 rfl (lv_at hl 2 rfl) ?_
        refine mr_ga hC hin hI 30 (by decide) k_80 dX8_tellsFrom_55 ?_
        refine lv_iload hx hb dX8_tellsFrom_58 (lv_at hl 0 rfl) ?_
        refine mr_ld hC hI 30 (by decide) (by decide) (show vp_in (nI i34) 12 from vp_in_nI (by omega) (by decide)) (v := (S 30 i34)) ((congrArg (S 30) (nI_clamp (by omega))).trans rfl) dX8_tellsFrom_60 ?_
        refine lv_iload_n hx hb dX8_tellsFrom_61 rfl (lv_at hl 3 rfl) ?_
        refine lv_icmp_ne (tgt := 86) hx hb dX8_tellsFrom_62 (by decide) (fun c_4 => ?_) (fun c_4 => ?_)
        · have hB34 := hB34.trans (if_neg c_4)
          refine lv_iload_n hx hb dX8_tellsFrom_86 rfl (lv_at hl 1 rfl) ?_
          refine lv_istore_n (lv' := [(3, .int x34_3), (4, .int (nI i34)), (0, .ref o), (1, .int (nI f)), (2, .int (nI t))]) hx hb dX8_tellsFrom_87 rfl hl (by decide) rfl (fun ls hl => ?_)
          refine lv_iinc (v := (nI (i34 + 1))) (lv' := [(4, .int (nI (i34 + 1))), (3, .int x34_3), (0, .ref o), (1, .int (nI f)), (2, .int (nI t))]) hx hb dX8_tellsFrom_88 hl (k := 1) rfl (nI_1 i34) (by decide) rfl (fun ls hl => ?_)
          refine lv_goto (tgt := 34) hx hb dX8_tellsFrom_91 (by decide) ?_
          exact ih34 x34_3 _ _ ls hlt34 ⟨(by show _ = iX8_tellsFrom_34 S f t i34 (lX8_tellsFrom_34 S f t y30_0 i34); rw [← hz34]; exact hB34.symm), hI, lv_sub hl [0, 1, 2, 3, 4] rfl⟩
        · have hB34 := hB34.trans (if_pos c_4)
          refine lv_aload_n hx hb dX8_tellsFrom_65 rfl (lv_at hl 2 rfl) ?_
          refine mr_ga hC hin hI 36 (by decide) k_98 dX8_tellsFrom_66 ?_
          refine lv_iload hx hb dX8_tellsFrom_69 (lv_at hl 0 rfl) ?_
          refine mr_ld hC hI 36 (by decide) (by decide) (show vp_in (nI i34) 12 from vp_in_nI (by omega) (by decide)) (v := (S 36 i34)) ((congrArg (S 36) (nI_clamp (by omega))).trans rfl) dX8_tellsFrom_71 ?_
          refine lv_iload_n hx hb dX8_tellsFrom_72 rfl (lv_at hl 1 rfl) ?_
          refine lv_icmp_ge (tgt := 86) hx hb dX8_tellsFrom_73 (by decide) (fun c_5 => ?_) (fun c_5 => ?_)
          · have hB34 := hB34.trans (if_pos c_5)
            refine lv_iload_n hx hb dX8_tellsFrom_86 rfl (lv_at hl 1 rfl) ?_
            refine lv_istore_n (lv' := [(3, .int x34_3), (4, .int (nI i34)), (0, .ref o), (1, .int (nI f)), (2, .int (nI t))]) hx hb dX8_tellsFrom_87 rfl hl (by decide) rfl (fun ls hl => ?_)
            refine lv_iinc (v := (nI (i34 + 1))) (lv' := [(4, .int (nI (i34 + 1))), (3, .int x34_3), (0, .ref o), (1, .int (nI f)), (2, .int (nI t))]) hx hb dX8_tellsFrom_88 hl (k := 1) rfl (nI_1 i34) (by decide) rfl (fun ls hl => ?_)
            refine lv_goto (tgt := 34) hx hb dX8_tellsFrom_91 (by decide) ?_
            exact ih34 x34_3 _ _ ls hlt34 ⟨(by show _ = iX8_tellsFrom_34 S f t i34 (lX8_tellsFrom_34 S f t y30_0 i34); rw [← hz34]; exact hB34.symm), hI, lv_sub hl [0, 1, 2, 3, 4] rfl⟩
          · have hB34 := hB34.trans (if_neg c_5)
            refine lv_aload_n hx hb dX8_tellsFrom_76 rfl (lv_at hl 2 rfl) ?_
            refine mr_ga hC hin hI 36 (by decide) k_98 dX8_tellsFrom_77 ?_
            refine lv_iload hx hb dX8_tellsFrom_80 (lv_at hl 0 rfl) ?_
            refine mr_ld hC hI 36 (by decide) (by decide) (show vp_in (nI i34) 12 from vp_in_nI (by omega) (by decide)) (v := (S 36 i34)) ((congrArg (S 36) (nI_clamp (by omega))).trans rfl) dX8_tellsFrom_82 ?_
            refine lv_goto (tgt := 87) hx hb dX8_tellsFrom_83 (by decide) ?_
            refine lv_istore_n (lv' := [(3, .int (S 36 i34)), (4, .int (nI i34)), (0, .ref o), (1, .int (nI f)), (2, .int (nI t))]) hx hb dX8_tellsFrom_87 rfl hl (by decide) rfl (fun ls hl => ?_)
            refine lv_iinc (v := (nI (i34 + 1))) (lv' := [(4, .int (nI (i34 + 1))), (3, .int (S 36 i34)), (0, .ref o), (1, .int (nI f)), (2, .int (nI t))]) hx hb dX8_tellsFrom_88 hl (k := 1) rfl (nI_1 i34) (by decide) rfl (fun ls hl => ?_)
            refine lv_goto (tgt := 34) hx hb dX8_tellsFrom_91 (by decide) ?_
            exact ih34 (S 36 i34) _ _ ls hlt34 ⟨(by show _ = iX8_tellsFrom_34 S f t i34 (lX8_tellsFrom_34 S f t y30_0 i34); rw [← hz34]; exact hB34.symm), hI, lv_sub hl [0, 1, 2, 3, 4] rfl⟩
  · have hB30 : jX8_tellsFrom_30 S f t = jX8_tellsFrom_30 S f t := rfl
    refine lv_icmp_ne (tgt := 20) hx hb dX8_tellsFrom_11 (by decide) (fun c_1 => ?_) (fun c_1 => ?_)
    · have hB30 := hB30.trans (if_neg c_1)
      refine lv_aload_n hx hb dX8_tellsFrom_20 rfl (lv_at hl 0 rfl) ?_
      refine mr_ga hC hin hI 51 (by decide) k_140 dX8_tellsFrom_21 ?_
      refine lv_iload_n hx hb dX8_tellsFrom_24 rfl (lv_at hl 1 rfl) ?_
      refine lv_iload_n hx hb dX8_tellsFrom_25 rfl (lv_at hl 2 rfl) ?_
      refine mr_callS (As := [.int (nI f), .int (nI t)]) (rest := [.ref (ad 51)]) hC hI (qX8_place l (nI f) (nI t)) (va_cwS 2 hts gX8_tellsFrom_X8_place rfl rfl rfl (by decide +kernel) ⟨Nat.le_of_ble_eq_true rfl, Nat.le_of_ble_eq_true rfl⟩) rfl hl.1 rfl (Nat.le_of_ble_eq_true rfl) dX8_tellsFrom_26 ⟨Nat.zero_le _, Nat.zero_le _⟩ (fun H locs hI => ?_)
      refine mr_ld hC hI 51 (by decide) (by decide) (place_in hf ht) (v := (S 51 (ix (fX8_place (nI f) (nI t))))) rfl dX8_tellsFrom_29 ?_
      exact J30 (S 51 (ix (fX8_place (nI f) (nI t)))) _ _ ls ⟨hB30, hI, lv_sub hl [0, 1, 2] rfl⟩
    · have hB30 := hB30.trans (if_pos c_1)
      refine lv_sipush (v := 9999) hx hb dX8_tellsFrom_14 (by decide) ?_
      refine lv_goto (tgt := 30) hx hb dX8_tellsFrom_17 (by decide) ?_
      exact J30 9999 _ _ ls ⟨hB30, hI, lv_sub hl [0, 1, 2] rfl⟩
set_option maxHeartbeats 4000000 in
set_option maxRecDepth 100000 in
theorem qX8_thrown (l : Launch) (D : va_G) (cy : Nat → ClassId) (o : Nat) (ad : Nat → Nat) (S : St) (th : Int32) : MPure l D cy o ad S th yX8_thrown wsX8_thrown ({ frames := 0, cells := 0, slots := 0, locals := 0 } : Room) [] (fX8_thrown th) := by
  refine Met.ofW (cc := cX8_thrown) (maxL := 1) (ret := (some .int)) (by decide) rfl ?_
  intro p e s m args below meth c s₁ B hml hv
  obtain ⟨rfl, hM, hK⟩ := hv
  have hx := B.exec
  have hb := B.bytes
  have hr := B.returns
  have hts := atoms_spec (ws := wsX8_thrown) B.pre
  have hown : s.vm.findClass RX8 = some m.cls := findClass_of_methodNamed B.named
  have hlocks := B.notSynchronized
  have hC : MC p s m _ c cX8_thrown 1 D cy wsX8_thrown := ⟨⟨hx, hb, hml, hown, hts⟩, hK⟩
  have hin : ∀ w ∈ wsX80, w ∈ wsX8_thrown := fun _ h => List.mem_cons_of_mem _ (List.mem_append_right _ (h))
  obtain ⟨A, hAd⟩ : ∃ A : Nat → Prop, A = fun _ => False := ⟨_, rfl⟩
  have hI : MI (fun _ => False) D cy o ad s S th s.heap [] := ⟨hM, va_S.rf⟩
  have k_152 := hts (.fieldLink RX8 152 "RelatorsBenchModel" "thrown" "I") (List.mem_cons_of_mem _ (List.mem_append_left _ (List.mem_of_getElem? (i := 0) rfl)))
  have hl := lv_entry ([.ref o]) (n := 1) (Nat.le_of_ble_eq_true rfl)
  rw [lg_entry_eq]
  generalize (lg_sl ([.ref o]) ++ List.replicate (1 - (lg_sl ([.ref o])).length) Slot.unset).toArray = ls at hl ⊢
  have hl : lv_has ls 1 [(0, .ref o)] := hl
  subst hAd
  have hG : fX8_thrown th = fX8_thrown th := rfl
  refine lv_aload_n hx hb dX8_thrown_0 rfl (lv_at hl 0 rfl) ?_
  refine mr_gt hC hin hI k_152 dX8_thrown_1 ?_
  exact W.iret (v := th) hx hb hr (fun t9 ht9 hW9 => ⟨⟨th, (), rfl, hG.symm, trivial⟩, hI.2.F ht9⟩) hI.2.2.2 dX8_thrown_4
