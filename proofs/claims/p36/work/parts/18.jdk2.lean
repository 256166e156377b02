/-! adding to a list of the JDK, walked: there is room (R), it is full (A), it is empty yet (0) -/
set_option maxHeartbeats 4000000 in
set_option maxRecDepth 100000 in
theorem qNL (l : Launch) (a b d : Int32) (h1 : ¬ (a + (if b < d then d else b)) ≤ 0) (h2 : ¬ 2147483639 < (a + (if b < d then d else b))) : SPure l yJ8_newLength_cabcc wsJ8_newLength_cabcc ({ frames := 1, cells := 0, slots := 0, locals := 40 } : Room) [.int a, .int b, .int d] (a + (if b < d then d else b)) := by
  refine Met.ofW (cc := cJ8_newLength_cabcc) (maxL := 4) (ret := (some .int)) (by decide) rfl ?_
  intro p e s m args below meth c s₁ B hml hv
  have hx := B.exec
  have hb := B.bytes
  have hr := B.returns
  have hts0 := atoms_spec (ws := wsJ8_newLength_cabcc) B.pre
  have hown : s.vm.findClass RJ8 = some m.cls := findClass_of_methodNamed B.named
  have hlocks := B.notSynchronized
  obtain ⟨rfl, -⟩ := hv
  have hI : va_S (fun _ => False) s.heap s.heap [] := va_S.rf
  have km := hts0 (.methodLink RJ8 194 Lib.Math.max.name) (List.mem_cons_of_mem _ (List.mem_of_getElem? (i := 0) rfl))
  have kst := hts0 (.static Lib.Math.max.name) (List.mem_cons_of_mem _ (List.mem_of_getElem? (i := 1) rfl))
  have kin := hts0 (.initialized "java/lang/Math") (List.mem_cons_of_mem _ (List.mem_of_getElem? (i := 2) rfl))
  have kco := hts0 (.code Lib.Math.max.name Lib.Math.max.code 2 (some .int)) (List.mem_cons_of_mem _ (List.mem_of_getElem? (i := 3) rfl))
  have hts := hts0
  have k_200 := hts (.constant RJ8 200 (2147483639)) (List.mem_cons_of_mem _ (List.mem_of_getElem? (i := 4) rfl))
  have hl := lv_entry ([.int a, .int b, .int d]) (n := 4) (Nat.le_of_ble_eq_true rfl)
  rw [lg_entry_eq]
  generalize (lg_sl ([.int a, .int b, .int d]) ++ List.replicate (4 - (lg_sl ([.int a, .int b, .int d])).length) Slot.unset).toArray = ls at hl ⊢
  have hl : lv_has ls 4 [(0, .int a), (1, .int b), (2, .int d)] := hl
  refine lv_iload_n hx hb dJ8_newLength_cabcc_0 rfl (lv_at hl 0 rfl) ?_
  refine lv_iload_n hx hb dJ8_newLength_cabcc_1 rfl (lv_at hl 1 rfl) ?_
  refine lv_iload_n hx hb dJ8_newLength_cabcc_2 rfl (lv_at hl 2 rfl) ?_
  refine va_mmax hx hb (hml.trans hl.1.symm) hown km kst kin kco (Nat.le_of_ble_eq_true rfl) (Nat.le_of_ble_eq_true rfl) (Nat.zero_le _) (Nat.zero_le _) dJ8_newLength_cabcc_3 ?_
  refine lv_iadd hx hb dJ8_newLength_cabcc_6 ?_
  refine lv_istore_n (lv' := [(3, .int (a + (if b < d then d else b))), (0, .int a), (1, .int b), (2, .int d)]) hx hb dJ8_newLength_cabcc_7 rfl hl (by decide) rfl (fun ls hl => ?_)
  refine lv_iconst (v := 0) hx hb dJ8_newLength_cabcc_8 (by decide) ?_
  refine lv_iload_n hx hb dJ8_newLength_cabcc_9 rfl (lv_at hl 0 rfl) ?_
  refine lv_icmp_ge (tgt := 21) hx hb dJ8_newLength_cabcc_10 (by decide) (fun c => absurd c h1) (fun _ => ?_)
  refine lv_iload_n hx hb dJ8_newLength_cabcc_13 rfl (lv_at hl 0 rfl) ?_
  refine lv_ldc hx hb hown k_200 dJ8_newLength_cabcc_14 ?_
  refine lv_icmp_gt (tgt := 21) hx hb dJ8_newLength_cabcc_16 (by decide) (fun c => absurd c h2) (fun _ => ?_)
  refine lv_iload_n hx hb dJ8_newLength_cabcc_19 rfl (lv_at hl 0 rfl) ?_
  exact W.iret (v := (a + (if b < d then d else b))) hx hb hr (fun t9 ht9 hW9 => ⟨⟨(a + (if b < d then d else b)), (), rfl, rfl, trivial⟩, hI.F ht9⟩) hI.2.2 dJ8_newLength_cabcc_20
set_option maxHeartbeats 4000000 in
set_option maxRecDepth 100000 in
theorem qCO3 (l : Launch) (D : va_G) (cy : Nat → ClassId) (e0 mi : Nat) (ea cap N sz : Nat) (f : Nat → Option Nat) (P : Nat → Prop) (hcN : cap ≤ N) (hN : N ≤ 1000) (hPf : ∀ i y, i < cap → f i = some y → P y) : Met l yJ7_copyOf_6403c wsJ7_copyOf_6403c ({ frames := 1, cells := 1, slots := N, locals := 40 } : Room) (va_Pc [.ref ea, .int (nI N), .ref mi] (ADp D cy e0 mi [(ea, arO cy cap f)] P sz)) (va_Qr (fun (u : Nat → Option Nat) => ∀ j, j < cap → u j = f j) (fun u ra t => va_P D vwCl [(ea, arO cy cap f), (ra, arO cy N u)] t.heap ∧ va_D (va_A [(ea, arO cy cap f)] sz) [(ea, arO cy cap f), (ra, arO cy N u)]) (va_A [(ea, arO cy cap f)] sz)) 1 N (va_A [(ea, arO cy cap f)] sz) := by
  refine Met.ofW (cc := cJ7_copyOf_6403c) (maxL := 4) (ret := (some (.array (.object "java/lang/Object")))) (by decide) rfl ?_
  intro p e s m args below meth c s₁ B hml hv
  have hx := B.exec
  have hb := B.bytes
  have hr := B.returns
  have hts0 := atoms_spec (ws := wsJ7_copyOf_6403c) B.pre
  have hown : s.vm.findClass RJ7 = some m.cls := findClass_of_methodNamed B.named
  have hlocks := B.notSynchronized
  obtain ⟨rfl, hsz, hP, hJ, hD0, hE⟩ := hv
  have hK := hJ.1
  subst hsz
  have hD := hD0.self (sz := s.heap.size)
  generalize hAe : va_A [(ea, arO cy cap f)] s.heap.size = A at hD hJ ⊢
  have hA : ∀ q : Nat, s.heap.size ≤ q → A q := fun q h => by rw [← hAe]; exact Or.inr h
  have hI : va_S A s.heap s.heap [] := va_S.rf
  have k110 := hts0 (.classLink RJ7 110 "[Ljava/lang/Object;") (List.mem_cons_of_mem _ (List.mem_of_getElem? (i := 0) rfl))
  have k2 := hts0 (.classLink RJ7 2 "java/lang/Object") (List.mem_cons_of_mem _ (List.mem_of_getElem? (i := 1) rfl))
  have km := hts0 (.methodLink RJ7 304 Lib.Math.min.name) (List.mem_cons_of_mem _ (List.mem_of_getElem? (i := 2) rfl))
  have kst := hts0 (.static Lib.Math.min.name) (List.mem_cons_of_mem _ (List.mem_of_getElem? (i := 3) rfl))
  have kin := hts0 (.initialized "java/lang/Math") (List.mem_cons_of_mem _ (List.mem_of_getElem? (i := 4) rfl))
  have kco := hts0 (.code Lib.Math.min.name Lib.Math.min.code 2 (some .int)) (List.mem_cons_of_mem _ (List.mem_of_getElem? (i := 5) rfl))
  have ka := hts0 (.methodLink RJ7 150 arraycopyName) (List.mem_cons_of_mem _ (List.mem_of_getElem? (i := 6) rfl))
  have kan := hts0 (.native arraycopyName) (List.mem_cons_of_mem _ (List.mem_of_getElem? (i := 7) rfl))
  have kas := hts0 (.static arraycopyName) (List.mem_cons_of_mem _ (List.mem_of_getElem? (i := 8) rfl))
  have kai := hts0 (.initialized "java/lang/System") (List.mem_cons_of_mem _ (List.mem_of_getElem? (i := 9) rfl))
  have hts := hts0
  have hl := lv_entry ([.ref ea, .int (nI N), .ref mi]) (n := 4) (Nat.le_of_ble_eq_true rfl)
  rw [lg_entry_eq]
  generalize (lg_sl ([.ref ea, .int (nI N), .ref mi]) ++ List.replicate (4 - (lg_sl ([.ref ea, .int (nI N), .ref mi])).length) Slot.unset).toArray = ls at hl ⊢
  have hl : lv_has ls 4 [(0, .ref ea), (1, .int (nI N)), (2, .ref mi)] := hl
  refine lv_aload_n hx hb dJ7_copyOf_6403c_0 rfl (lv_at hl 2 rfl) ?_
  refine va_ldcM hx hb hown k110 hJ.2.2.1 dJ7_copyOf_6403c_1 ?_
  refine lv_acmp_ne (rx := some mi) (ry := some mi) (tgt := 13) hx hb dJ7_copyOf_6403c_3 (by decide) (fun c => absurd rfl c) (fun _ => ?_)
  refine lv_iload_n hx hb dJ7_copyOf_6403c_6 rfl (lv_at hl 1 rfl) ?_
  refine va_newq (N' := N) hx hb hown k2 hJ.2.1 hK hP hD hI hA (nI_pos (by omega)) (nI_clamp (by omega)) (by omega) (Nat.le_of_ble_eq_true rfl) (show 0 + N ≤ N by omega) dJ7_copyOf_6403c_7 (fun qn cA H hK2 hP hD hI => ?_)
  obtain rfl := cA_eq hK hK2
  have hP : va_P D vwCl [(ea, arO cy cap f), (qn, arO cy N (fun _ => none))] H := hP
  have hD : va_D A [(ea, arO cy cap f), (qn, arO cy N (fun _ => none))] := hD
  refine lv_goto (tgt := 24) hx hb dJ7_copyOf_6403c_10 (by decide) ?_
  refine lv_astore_n (lv' := [(3, .ref qn), (0, .ref ea), (1, .int (nI N)), (2, .ref mi)]) hx hb dJ7_copyOf_6403c_24 rfl hl (by decide) rfl (fun ls hl => ?_)
  refine lv_aload_n hx hb dJ7_copyOf_6403c_25 rfl (lv_at hl 1 rfl) ?_
  refine lv_iconst (v := 0) hx hb dJ7_copyOf_6403c_26 (by decide) ?_
  refine lv_aload_n hx hb dJ7_copyOf_6403c_27 rfl (lv_at hl 0 rfl) ?_
  refine lv_iconst (v := 0) hx hb dJ7_copyOf_6403c_28 (by decide) ?_
  refine lv_aload_n hx hb dJ7_copyOf_6403c_29 rfl (lv_at hl 1 rfl) ?_
  refine va_alen hx hb hK hP 0 4 rfl rfl (v := nI cap) rfl dJ7_copyOf_6403c_30 ?_
  refine lv_iload_n hx hb dJ7_copyOf_6403c_31 rfl (lv_at hl 2 rfl) ?_
  refine va_mmin hx hb (hml.trans hl.1.symm) hown km kst kin kco (Nat.le_of_ble_eq_true rfl) (Nat.le_of_ble_eq_true rfl) (Nat.le_of_ble_eq_true rfl) (show 0 + N ≤ N by omega) dJ7_copyOf_6403c_32 ?_
  rw [if_neg (nI_nlt (by omega) (by omega))]
  refine va_copyM hx hb (hml.trans hl.1.symm) hown ka kan kas kai hK hP hD hI 0 1 4 4 rfl rfl rfl rfl (by decide) (by decide) (nI_pos (by omega)) (by rw [nI_clamp (by omega), sb_cl0]; omega) (by rw [nI_clamp (by omega), sb_cl0]; omega) (fun i hi y hy => by rw [nI_clamp (by omega)] at hi; rw [sb_cl0, Nat.zero_add] at hy; exact EL_now (hE y (hPf i y hi hy)) hAe hI) (Nat.le_of_ble_eq_true rfl) (Nat.le_of_ble_eq_true rfl) dJ7_copyOf_6403c_35 (fun H locs hP hD hI => ?_)
  refine lv_aload_n hx hb dJ7_copyOf_6403c_38 rfl (lv_at hl 0 rfl) ?_
  refine W.widen (k := 1) (n := N) (Nat.le_refl _) (show 0 + N ≤ N by omega) ?_
  exact W.aret (v := .ref qn) hx hb hr (Or.inr ⟨_, rfl⟩) (Or.inr ⟨_, rfl⟩) (fun t9 ht9 hW9 => ⟨⟨_, qn, rfl, fun j hj => cpy_in (g := fun _ => none) (by omega) hj, by rw [ht9]; exact hP, hD⟩, hI.F ht9⟩) hI.2.2 dJ7_copyOf_6403c_39
set_option maxHeartbeats 4000000 in
set_option maxRecDepth 100000 in
theorem qCO2 (l : Launch) (D : va_G) (cy : Nat → ClassId) (e0 mi : Nat) (ea cap N sz : Nat) (f : Nat → Option Nat) (P : Nat → Prop) (hcN : cap ≤ N) (hN : N ≤ 1000) (hPf : ∀ i y, i < cap → f i = some y → P y) : Met l yJ7_copyOf_1904c wsJ7_copyOf_1904c ({ frames := 2, cells := 1, slots := N, locals := 63 } : Room) (va_Pc [.ref ea, .int (nI N)] (ADp D cy e0 mi [(ea, arO cy cap f)] P sz)) (va_Qr (fun (u : Nat → Option Nat) => ∀ j, j < cap → u j = f j) (fun u ra t => va_P D vwCl [(ea, arO cy cap f), (ra, arO cy N u)] t.heap ∧ va_D (va_A [(ea, arO cy cap f)] sz) [(ea, arO cy cap f), (ra, arO cy N u)]) (va_A [(ea, arO cy cap f)] sz)) 1 N (va_A [(ea, arO cy cap f)] sz) := by
  refine Met.ofW (cc := cJ7_copyOf_1904c) (maxL := 2) (ret := (some (.array (.object "java/lang/Object")))) (by decide) rfl ?_
  intro p e s m args below meth c s₁ B hml hv
  have hx := B.exec
  have hb := B.bytes
  have hr := B.returns
  have hts0 := atoms_spec (ws := wsJ7_copyOf_1904c) B.pre
  have hown : s.vm.findClass RJ7 = some m.cls := findClass_of_methodNamed B.named
  have hlocks := B.notSynchronized
  obtain ⟨rfl, hsz, hP, hJ, hD0, hE⟩ := hv
  have hK := hJ.1
  subst hsz
  have hD := hD0.self (sz := s.heap.size)
  generalize hAe : va_A [(ea, arO cy cap f)] s.heap.size = A at hD hJ ⊢
  have hA : ∀ q : Nat, s.heap.size ≤ q → A q := fun q h => by rw [← hAe]; exact Or.inr h
  have hI : va_S A s.heap s.heap [] := va_S.rf
  have kl := hts0 (.methodLink RJ7 86 ⟨"java/lang/Object", "getClass", "()Ljava/lang/Class;"⟩) (List.mem_cons_of_mem _ (List.mem_of_getElem? (i := 0) rfl))
  have ksl := hts0 (.selects "[Ljava/lang/Object;" ⟨"java/lang/Object", "getClass", "()Ljava/lang/Class;"⟩ ⟨"java/lang/Object", "getClass", "()Ljava/lang/Class;"⟩) (List.mem_cons_of_mem _ (List.mem_of_getElem? (i := 1) rfl))
  have kim := hts0 (.instanceMethod ⟨"java/lang/Object", "getClass", "()Ljava/lang/Class;"⟩) (List.mem_cons_of_mem _ (List.mem_of_getElem? (i := 2) rfl))
  have knt := hts0 (.native ⟨"java/lang/Object", "getClass", "()Ljava/lang/Class;"⟩) (List.mem_cons_of_mem _ (List.mem_of_getElem? (i := 3) rfl))
  have hts := hts0
  have hl := lv_entry ([.ref ea, .int (nI N)]) (n := 2) (Nat.le_of_ble_eq_true rfl)
  rw [lg_entry_eq]
  generalize (lg_sl ([.ref ea, .int (nI N)]) ++ List.replicate (2 - (lg_sl ([.ref ea, .int (nI N)])).length) Slot.unset).toArray = ls at hl ⊢
  have hl : lv_has ls 2 [(0, .ref ea), (1, .int (nI N))] := hl
  refine lv_aload_n hx hb dJ7_copyOf_1904c_0 rfl (lv_at hl 0 rfl) ?_
  refine lv_iload_n hx hb dJ7_copyOf_1904c_1 rfl (lv_at hl 1 rfl) ?_
  refine lv_aload_n hx hb dJ7_copyOf_1904c_2 rfl (lv_at hl 0 rfl) ?_
  refine va_getC hx hb (hml.trans hl.1.symm) hown kl (hJ.2.2.2.1).use ksl kim knt hJ.2.2.1 (arO_recv hK (hP 0 _ rfl)) (Nat.le_of_ble_eq_true rfl) (Nat.le_of_ble_eq_true rfl) dJ7_copyOf_1904c_3 ?_
  have hF := va_free (wc := [(ea, arO cy cap f)]) hD hI hA [0] rfl
  refine va_callr (va_runS (As := [.ref ea, .int (nI N), .ref mi]) (rest := []) ⟨hx, hb, hml, hown, hts⟩ (qCO3 l D cy e0 mi ea cap N s.heap.size f P hcN hN hPf) (va_cwS 3 hts gJ7_copyOf_1904c_J7_copyOf_6403c rfl rfl rfl (by decide +kernel) ⟨Nat.le_of_ble_eq_true rfl, Nat.le_of_ble_eq_true rfl⟩) ⟨AD_blind, AD_pre hAe hJ hI hP hD hA hE _⟩ rfl rfl hl.1 rfl (lv_room (Nat.le_of_ble_eq_true rfl)) dJ7_copyOf_1904c_6 ⟨Nat.le_of_ble_eq_true rfl, show 0 + N ≤ N by omega⟩) hI (fun q _ h => hF q h) hF (fun u ra t H1 locs ht hvm hw hB hz1 hk1 hI => ?_)
  obtain ⟨hP1, hD1⟩ := hB
  rw [ht] at hP1
  refine W.widen (k := 1) (n := N) (Nat.le_refl _) (show 0 + N ≤ N by omega) ?_
  exact W.aret (v := .ref ra) hx hb hr (Or.inr ⟨_, rfl⟩) (Or.inr ⟨_, rfl⟩) (fun t9 ht9 hW9 => ⟨⟨u, ra, rfl, hw, by rw [ht9]; exact hP1, hD1.weaken (fun _ _ _ h => hF _ h)⟩, hI.F ht9⟩) hI.2.2 dJ7_copyOf_1904c_9
set_option maxHeartbeats 4000000 in
set_option maxRecDepth 100000 in
theorem qGR1A (l : Launch) (D : va_G) (cy : Nat → ClassId) (e0 mi : Nat) (a ea n sz : Nat) (md : Int32) (f : Nat → Option Nat) (P : Nat → Prop) (h2n : 2 ≤ n) (hn : n ≤ 100) (hPf : ∀ i y, i < n → f i = some y → P y) : Met l yJx4a65c_grow_92f84 wsJx4a65c_grow_92f84 ({ frames := 3, cells := 1, slots := (n + n / 2), locals := 84 } : Room) (va_Pc [.ref a, .int (nI (n + 1))] (ADp D cy e0 mi [(a, alC md ea (nI n)), (ea, arO cy n f)] P sz)) (va_Qr (fun (u : Nat → Option Nat) => ∀ j, j < n → u j = f j) (fun u ra t => va_P D vwCl [(a, alC md ra (nI n)), (ra, arO cy (n + n / 2) u)] t.heap ∧ va_D (va_A [(a, alC md ea (nI n)), (ea, arO cy n f)] sz) [(a, alC md ra (nI n)), (ra, arO cy (n + n / 2) u)]) (va_A [(a, alC md ea (nI n)), (ea, arO cy n f)] sz)) 1 (n + n / 2) (va_A [(a, alC md ea (nI n)), (ea, arO cy n f)] sz) := by
  refine Met.ofW (cc := cJx4a65c_grow_92f84) (maxL := 4) (ret := (some (.array (.object "java/lang/Object")))) (by decide) rfl ?_
  intro p e s m args below meth c s₁ B hml hv
  have hx := B.exec
  have hb := B.bytes
  have hr := B.returns
  have hts0 := atoms_spec (ws := wsJx4a65c_grow_92f84) B.pre
  have hown : s.vm.findClass RJx4a65c = some m.cls := findClass_of_methodNamed B.named
  have hlocks := B.notSynchronized
  obtain ⟨rfl, hsz, hP, hJ, hD0, hE⟩ := hv
  have hK := hJ.1
  subst hsz
  have hD := hD0.self (sz := s.heap.size)
  generalize hAe : va_A [(a, alC md ea (nI n)), (ea, arO cy n f)] s.heap.size = A at hD hJ ⊢
  have hA : ∀ q : Nat, s.heap.size ≤ q → A q := fun q h => by rw [← hAe]; exact Or.inr h
  have hI : va_S A s.heap s.heap [] := va_S.rf
  have hin : ∀ w ∈ wsJx4a65c0, w ∈ wsJx4a65c_grow_92f84 := fun _ h => List.mem_cons_of_mem _ (List.mem_append_right _ (h))
  have k_9 := hts0 (.fieldLink RJx4a65c 9 "java/util/ArrayList" "elementData" "[Ljava/lang/Object;") (List.mem_cons_of_mem _ (List.mem_append_left _ (List.mem_append_left _ (List.mem_of_getElem? (i := 0) rfl))))
  have k_39 := hts0 (.fieldLink RJx4a65c 39 "java/util/ArrayList" "DEFAULTCAPACITY_EMPTY_ELEMENTDATA" "[Ljava/lang/Object;") (List.mem_cons_of_mem _ (List.mem_append_left _ (List.mem_append_left _ (List.mem_of_getElem? (i := 1) rfl))))
  have km := hts0 (.methodLink RJx4a65c 79 Lib.Math.max.name) (List.mem_cons_of_mem _ (List.mem_append_left _ (List.mem_append_left _ (List.mem_of_getElem? (i := 2) rfl))))
  have kst := hts0 (.static Lib.Math.max.name) (List.mem_cons_of_mem _ (List.mem_append_left _ (List.mem_append_left _ (List.mem_of_getElem? (i := 3) rfl))))
  have kin := hts0 (.initialized "java/lang/Math") (List.mem_cons_of_mem _ (List.mem_append_left _ (List.mem_append_left _ (List.mem_of_getElem? (i := 4) rfl))))
  have kco := hts0 (.code Lib.Math.max.name Lib.Math.max.code 2 (some .int)) (List.mem_cons_of_mem _ (List.mem_append_left _ (List.mem_append_left _ (List.mem_of_getElem? (i := 5) rfl))))
  have k7 := hts0 (.classLink RJx4a65c 7 "java/lang/Object") (List.mem_cons_of_mem _ (List.mem_append_left _ (List.mem_append_left _ (List.mem_of_getElem? (i := 6) rfl))))
  have hpos : (0 : Int32) < nI n := nI_lt (a := 0) (by omega) (by omega)
  have hts := hts0
  have hl := lv_entry ([.ref a, .int (nI (n + 1))]) (n := 4) (Nat.le_of_ble_eq_true rfl)
  rw [lg_entry_eq]
  generalize (lg_sl ([.ref a, .int (nI (n + 1))]) ++ List.replicate (4 - (lg_sl ([.ref a, .int (nI (n + 1))])).length) Slot.unset).toArray = ls at hl ⊢
  have hl : lv_has ls 4 [(0, .ref a), (1, .int (nI (n + 1)))] := hl
  refine lv_aload_n hx hb dJx4a65c_grow_92f84_0 rfl (lv_at hl 0 rfl) ?_
  refine va_get (D := D) (ci := 0) (v := .ref ea) (C := RJx4a65c) (T := TJx4a65c) (N := 3) hx hb hts hin hown hK hP 0 rfl rfl 1 (by decide) k_9 (fun _ h => h) rfl dJx4a65c_grow_92f84_1 ?_
  refine va_alen hx hb hK hP 1 4 rfl rfl (v := nI n) rfl dJx4a65c_grow_92f84_4 ?_
  refine lv_istore_n (lv' := [(2, .int (nI n)), (0, .ref a), (1, .int (nI (n + 1)))]) hx hb dJx4a65c_grow_92f84_5 rfl hl (by decide) rfl (fun ls hl => ?_)
  refine lv_iload_n hx hb dJx4a65c_grow_92f84_6 rfl (lv_at hl 0 rfl) ?_
  refine lv_if_gt (tgt := 20) hx hb dJx4a65c_grow_92f84_7 (by decide) (fun _ => ?_) (fun c => absurd hpos c)
  refine lv_iload_n hx hb dJx4a65c_grow_92f84_20 rfl (lv_at hl 0 rfl) ?_
  refine lv_iload_n hx hb dJx4a65c_grow_92f84_21 rfl (lv_at hl 2 rfl) ?_
  refine lv_iload_n hx hb dJx4a65c_grow_92f84_22 rfl (lv_at hl 0 rfl) ?_
  refine lv_isub hx hb dJx4a65c_grow_92f84_23 ?_
  refine lv_iload_n hx hb dJx4a65c_grow_92f84_24 rfl (lv_at hl 0 rfl) ?_
  refine lv_iconst (v := 1) hx hb dJx4a65c_grow_92f84_25 (by decide) ?_
  refine lv_ishr hx hb dJx4a65c_grow_92f84_26 ?_
  refine sr_call (As := [.int (nI n), .int ((nI (n + 1)) - (nI n)), .int ((nI n) >>> (1 &&& 31))]) (rest := []) ⟨hx, hb, hml, hown, hts⟩ hI (qNL l (nI n) ((nI (n + 1)) - (nI n)) ((nI n) >>> (1 &&& 31)) (by rw [nl_eq h2n (by omega)]; exact nI_nle (by omega) (by omega)) (by rw [nl_eq h2n (by omega)]; exact (show ¬ nI 2147483639 < nI (n + n / 2) from nI_nlt (by omega) (by decide)))) (va_cwS 3 hts gJx4a65c_grow_92f84_J8_newLength_cabcc rfl rfl rfl (by decide +kernel) ⟨Nat.le_of_ble_eq_true rfl, Nat.le_of_ble_eq_true rfl⟩) rfl hl.1 rfl (Nat.le_of_ble_eq_true rfl) dJx4a65c_grow_92f84_27 ⟨Nat.zero_le _, Nat.zero_le _⟩ (fun H locs hk _ hI => ?_)
  have hP := va_Pk hP hk
  rw [nl_eq h2n (by omega)]
  refine lv_istore_n (lv' := [(3, .int (nI (n + n / 2))), (2, .int (nI n)), (0, .ref a), (1, .int (nI (n + 1)))]) hx hb dJx4a65c_grow_92f84_30 rfl hl (by decide) rfl (fun ls hl => ?_)
  refine lv_aload_n hx hb dJx4a65c_grow_92f84_31 rfl (lv_at hl 2 rfl) ?_
  refine lv_aload_n hx hb dJx4a65c_grow_92f84_32 rfl (lv_at hl 2 rfl) ?_
  refine va_get (D := D) (ci := 0) (v := .ref ea) (C := RJx4a65c) (T := TJx4a65c) (N := 3) hx hb hts hin hown hK hP 0 rfl rfl 1 (by decide) k_9 (fun _ h => h) rfl dJx4a65c_grow_92f84_33 ?_
  refine lv_iload_n hx hb dJx4a65c_grow_92f84_36 rfl (lv_at hl 0 rfl) ?_
  have hPc := hP.sub (ws' := [(ea, arO cy n f)]) [1] rfl
  have hDc := hD.sub (ws' := [(ea, arO cy n f)]) [1] (by decide) rfl
  have hF := va_free (wc := [(ea, arO cy n f)]) hD hI hA [1] rfl
  refine va_callr (va_runS (As := [.ref ea, .int (nI (n + n / 2))]) (rest := [.ref a]) ⟨hx, hb, hml, hown, hts⟩ (qCO2 l D cy e0 mi ea n (n + n / 2) H.size f P (by omega) (by omega) hPf) (va_cwS 2 hts gJx4a65c_grow_92f84_J7_copyOf_1904c rfl rfl rfl (by decide +kernel) ⟨Nat.le_of_ble_eq_true rfl, Nat.le_of_ble_eq_true rfl⟩) ⟨AD_blind, AD_pre hAe hJ hI hPc hDc hA hE _⟩ rfl rfl hl.1 rfl (lv_room (Nat.le_of_ble_eq_true rfl)) dJx4a65c_grow_92f84_37 ⟨Nat.le_of_ble_eq_true rfl, show 0 + (n + n / 2) ≤ n + n / 2 by omega⟩) hI (fun q _ h => hF q h) hF (fun u ra t H1 locs ht hvm hw hB hz1 hk1 hI => ?_)
  obtain ⟨hP1, hD1⟩ := hB
  rw [ht] at hP1
  obtain ⟨hP, hD⟩ := va_join (wr := [(a, alC md ea (nI n))]) (w1 := [(ea, arO cy n f), (ra, arO cy (n + n / 2) u)]) hP hD [1] [0] rfl rfl (by decide) (by decide) hk1 hF hP1 hD1
  have hP : va_P D vwCl [(a, alC md ea (nI n)), (ea, arO cy n f), (ra, arO cy (n + n / 2) u)] H1 := hP
  have hD : va_D A [(a, alC md ea (nI n)), (ea, arO cy n f), (ra, arO cy (n + n / 2) u)] := hD
  refine lv_dup_x1 hx hb dJx4a65c_grow_92f84_40 rfl rfl ?_
  refine va_put (D := D) (ci := 0) (v := .ref ra) (ty := (.array (.object "java/lang/Object"))) (C := RJx4a65c) (T := TJx4a65c) (N := 3) hx hb hts hin tyJx4a65c tyJx4a65c_ok nmJx4a65c hown hK hP hD hI 0 rfl rfl 1 (by decide) k_9 (fun _ h => h) rfl (by decide +kernel) rfl rfl (Nat.le_of_ble_eq_true rfl) dJx4a65c_grow_92f84_41 (fun H locs hP hD hI => ?_)
  have hP : va_P D vwCl [(a, alC md ra (nI n)), (ea, arO cy n f), (ra, arO cy (n + n / 2) u)] H := hP
  have hD : va_D A [(a, alC md ra (nI n)), (ea, arO cy n f), (ra, arO cy (n + n / 2) u)] := hD
  refine W.widen (k := 1) (n := n + n / 2) (Nat.le_refl _) (show 0 + (n + n / 2) ≤ n + n / 2 by omega) ?_
  exact W.aret (v := .ref ra) hx hb hr (Or.inr ⟨_, rfl⟩) (Or.inr ⟨_, rfl⟩) (fun t9 ht9 hW9 => ⟨⟨u, ra, rfl, hw, by rw [ht9]; exact hP.sub [0, 2] rfl, hD.sub [0, 2] (by decide) rfl⟩, hI.F ht9⟩) hI.2.2 dJx4a65c_grow_92f84_44
set_option maxHeartbeats 4000000 in
set_option maxRecDepth 100000 in
theorem qGR10 (l : Launch) (D : va_G) (cy : Nat → ClassId) (e0 mi : Nat) (a sz : Nat) (md : Int32) (P : Nat → Prop) : Met l yJx4a65c_grow_92f84 wsJx4a65c_grow_92f84 ({ frames := 1, cells := 1, slots := 10, locals := 60 } : Room) (va_Pc [.ref a, .int (nI 1)] (ADp D cy e0 mi [(a, alC md e0 (nI 0))] P sz)) (va_Qr (fun (u : Nat → Option Nat) => True) (fun u ra t => va_P D vwCl [(a, alC md ra (nI 0)), (ra, arO cy 10 u)] t.heap ∧ va_D (va_A [(a, alC md e0 (nI 0))] sz) [(a, alC md ra (nI 0)), (ra, arO cy 10 u)]) (va_A [(a, alC md e0 (nI 0))] sz)) 1 10 (va_A [(a, alC md e0 (nI 0))] sz) := by
  refine Met.ofW (cc := cJx4a65c_grow_92f84) (maxL := 4) (ret := (some (.array (.object "java/lang/Object")))) (by decide) rfl ?_
  intro p e s m args below meth c s₁ B hml hv
  have hx := B.exec
  have hb := B.bytes
  have hr := B.returns
  have hts0 := atoms_spec (ws := wsJx4a65c_grow_92f84) B.pre
  have hown : s.vm.findClass RJx4a65c = some m.cls := findClass_of_methodNamed B.named
  have hlocks := B.notSynchronized
  obtain ⟨rfl, hsz, hP, hJ, hD0, hE⟩ := hv
  have hK := hJ.1
  subst hsz
  have hD := hD0.self (sz := s.heap.size)
  generalize hAe : va_A [(a, alC md e0 (nI 0))] s.heap.size = A at hD hJ ⊢
  have hA : ∀ q : Nat, s.heap.size ≤ q → A q := fun q h => by rw [← hAe]; exact Or.inr h
  have hI : va_S A s.heap s.heap [] := va_S.rf
  have hin : ∀ w ∈ wsJx4a65c0, w ∈ wsJx4a65c_grow_92f84 := fun _ h => List.mem_cons_of_mem _ (List.mem_append_right _ (h))
  have k_9 := hts0 (.fieldLink RJx4a65c 9 "java/util/ArrayList" "elementData" "[Ljava/lang/Object;") (List.mem_cons_of_mem _ (List.mem_append_left _ (List.mem_append_left _ (List.mem_of_getElem? (i := 0) rfl))))
  have k_39 := hts0 (.fieldLink RJx4a65c 39 "java/util/ArrayList" "DEFAULTCAPACITY_EMPTY_ELEMENTDATA" "[Ljava/lang/Object;") (List.mem_cons_of_mem _ (List.mem_append_left _ (List.mem_append_left _ (List.mem_of_getElem? (i := 1) rfl))))
  have km := hts0 (.methodLink RJx4a65c 79 Lib.Math.max.name) (List.mem_cons_of_mem _ (List.mem_append_left _ (List.mem_append_left _ (List.mem_of_getElem? (i := 2) rfl))))
  have kst := hts0 (.static Lib.Math.max.name) (List.mem_cons_of_mem _ (List.mem_append_left _ (List.mem_append_left _ (List.mem_of_getElem? (i := 3) rfl))))
  have kin := hts0 (.initialized "java/lang/Math") (List.mem_cons_of_mem _ (List.mem_append_left _ (List.mem_append_left _ (List.mem_of_getElem? (i := 4) rfl))))
  have kco := hts0 (.code Lib.Math.max.name Lib.Math.max.code 2 (some .int)) (List.mem_cons_of_mem _ (List.mem_append_left _ (List.mem_append_left _ (List.mem_of_getElem? (i := 5) rfl))))
  have k7 := hts0 (.classLink RJx4a65c 7 "java/lang/Object") (List.mem_cons_of_mem _ (List.mem_append_left _ (List.mem_append_left _ (List.mem_of_getElem? (i := 6) rfl))))
  have hts := hts0
  have hl := lv_entry ([.ref a, .int (nI 1)]) (n := 4) (Nat.le_of_ble_eq_true rfl)
  rw [lg_entry_eq]
  generalize (lg_sl ([.ref a, .int (nI 1)]) ++ List.replicate (4 - (lg_sl ([.ref a, .int (nI 1)])).length) Slot.unset).toArray = ls at hl ⊢
  have hl : lv_has ls 4 [(0, .ref a), (1, .int (nI 1))] := hl
  refine lv_aload_n hx hb dJx4a65c_grow_92f84_0 rfl (lv_at hl 0 rfl) ?_
  refine va_get (D := D) (ci := 0) (v := .ref e0) (C := RJx4a65c) (T := TJx4a65c) (N := 3) hx hb hts hin hown hK hP 0 rfl rfl 1 (by decide) k_9 (fun _ h => h) rfl dJx4a65c_grow_92f84_1 ?_
  refine va_tlen hx hb hJ.2.2.2.2.2 hI (v := 0) rfl dJx4a65c_grow_92f84_4 ?_
  refine lv_istore_n (lv' := [(2, .int 0), (0, .ref a), (1, .int (nI 1))]) hx hb dJx4a65c_grow_92f84_5 rfl hl (by decide) rfl (fun ls hl => ?_)
  refine lv_iload_n hx hb dJx4a65c_grow_92f84_6 rfl (lv_at hl 0 rfl) ?_
  refine lv_if_gt (tgt := 20) hx hb dJx4a65c_grow_92f84_7 (by decide) (fun c => absurd c (by decide : ¬ (0 : Int32) < 0)) (fun _ => ?_)
  refine lv_aload_n hx hb dJx4a65c_grow_92f84_10 rfl (lv_at hl 1 rfl) ?_
  refine va_get (D := D) (ci := 0) (v := .ref e0) (C := RJx4a65c) (T := TJx4a65c) (N := 3) hx hb hts hin hown hK hP 0 rfl rfl 1 (by decide) k_9 (fun _ h => h) rfl dJx4a65c_grow_92f84_11 ?_
  refine va_gets hx hb hJ.2.2.2.2.1 hI hown k_39 (fun _ h => h) dJx4a65c_grow_92f84_14 ?_
  refine lv_acmp_eq (rx := some e0) (ry := some e0) (tgt := 45) hx hb dJx4a65c_grow_92f84_17 (by decide) (fun _ => ?_) (fun c => absurd rfl c)
  refine lv_aload_n hx hb dJx4a65c_grow_92f84_45 rfl (lv_at hl 1 rfl) ?_
  refine lv_bipush (v := 10) hx hb dJx4a65c_grow_92f84_46 (by decide) ?_
  refine lv_iload_n hx hb dJx4a65c_grow_92f84_48 rfl (lv_at hl 2 rfl) ?_
  refine va_mmax hx hb (hml.trans hl.1.symm) hown km kst kin kco (Nat.le_of_ble_eq_true rfl) (Nat.le_of_ble_eq_true rfl) (Nat.le_of_ble_eq_true rfl) (Nat.le_of_ble_eq_true rfl) dJx4a65c_grow_92f84_49 ?_
  rw [show (if (10 : Int32) < nI 1 then nI 1 else 10) = 10 by decide]
  refine va_newq (N' := 10) hx hb hown k7 hJ.2.1 hK hP hD hI hA (by decide) (by decide) (by decide) (Nat.le_of_ble_eq_true rfl) (Nat.le_of_ble_eq_true rfl) dJx4a65c_grow_92f84_52 (fun qn cA H hK2 hP hD hI => ?_)
  obtain rfl := cA_eq hK hK2
  have hP : va_P D vwCl [(a, alC md e0 (nI 0)), (qn, arO cy 10 (fun _ => none))] H := hP
  have hD : va_D A [(a, alC md e0 (nI 0)), (qn, arO cy 10 (fun _ => none))] := hD
  refine lv_dup_x1 hx hb dJx4a65c_grow_92f84_55 rfl rfl ?_
  refine va_put (D := D) (ci := 0) (v := .ref qn) (ty := (.array (.object "java/lang/Object"))) (C := RJx4a65c) (T := TJx4a65c) (N := 3) hx hb hts hin tyJx4a65c tyJx4a65c_ok nmJx4a65c hown hK hP hD hI 0 rfl rfl 1 (by decide) k_9 (fun _ h => h) rfl (by decide +kernel) rfl rfl (Nat.le_of_ble_eq_true rfl) dJx4a65c_grow_92f84_56 (fun H locs hP hD hI => ?_)
  have hP : va_P D vwCl [(a, alC md qn (nI 0)), (qn, arO cy 10 (fun _ => none))] H := hP
  have hD : va_D A [(a, alC md qn (nI 0)), (qn, arO cy 10 (fun _ => none))] := hD
  exact W.aret (v := .ref qn) hx hb hr (Or.inr ⟨_, rfl⟩) (Or.inr ⟨_, rfl⟩) (fun t9 ht9 hW9 => ⟨⟨(fun _ => none), qn, rfl, trivial, by rw [ht9]; exact hP.sub [0, 1] rfl, hD.sub [0, 1] (by decide) rfl⟩, hI.F ht9⟩) hI.2.2 dJx4a65c_grow_92f84_59
set_option maxHeartbeats 4000000 in
set_option maxRecDepth 100000 in
theorem qGR0A (l : Launch) (D : va_G) (cy : Nat → ClassId) (e0 mi : Nat) (a ea n sz : Nat) (md : Int32) (f : Nat → Option Nat) (P : Nat → Prop) (h2n : 2 ≤ n) (hn : n ≤ 100) (hPf : ∀ i y, i < n → f i = some y → P y) : Met l yJx4a65c_grow_d5877 wsJx4a65c_grow_d5877 ({ frames := 4, cells := 1, slots := (n + n / 2), locals := 107 } : Room) (va_Pc [.ref a] (ADp D cy e0 mi [(a, alC md ea (nI n)), (ea, arO cy n f)] P sz)) (va_Qr (fun (u : Nat → Option Nat) => ∀ j, j < n → u j = f j) (fun u ra t => va_P D vwCl [(a, alC md ra (nI n)), (ra, arO cy (n + n / 2) u)] t.heap ∧ va_D (va_A [(a, alC md ea (nI n)), (ea, arO cy n f)] sz) [(a, alC md ra (nI n)), (ra, arO cy (n + n / 2) u)]) (va_A [(a, alC md ea (nI n)), (ea, arO cy n f)] sz)) 1 (n + n / 2) (va_A [(a, alC md ea (nI n)), (ea, arO cy n f)] sz) := by
  refine Met.ofW (cc := cJx4a65c_grow_d5877) (maxL := 1) (ret := (some (.array (.object "java/lang/Object")))) (by decide) rfl ?_
  intro p e s m args below meth c s₁ B hml hv
  have hx := B.exec
  have hb := B.bytes
  have hr := B.returns
  have hts0 := atoms_spec (ws := wsJx4a65c_grow_d5877) B.pre
  have hown : s.vm.findClass RJx4a65c = some m.cls := findClass_of_methodNamed B.named
  have hlocks := B.notSynchronized
  obtain ⟨rfl, hsz, hP, hJ, hD0, hE⟩ := hv
  have hK := hJ.1
  subst hsz
  have hD := hD0.self (sz := s.heap.size)
  generalize hAe : va_A [(a, alC md ea (nI n)), (ea, arO cy n f)] s.heap.size = A at hD hJ ⊢
  have hA : ∀ q : Nat, s.heap.size ≤ q → A q := fun q h => by rw [← hAe]; exact Or.inr h
  have hI : va_S A s.heap s.heap [] := va_S.rf
  have hin : ∀ w ∈ wsJx4a65c0, w ∈ wsJx4a65c_grow_d5877 := fun _ h => List.mem_cons_of_mem _ (List.mem_append_right _ (h))
  have k_48 := hts0 (.fieldLink RJx4a65c 48 "java/util/ArrayList" "size" "I") (List.mem_cons_of_mem _ (List.mem_append_left _ (List.mem_append_left _ (List.mem_of_getElem? (i := 0) rfl))))
  have hts := hts0
  have hl := lv_entry ([.ref a]) (n := 1) (Nat.le_of_ble_eq_true rfl)
  rw [lg_entry_eq]
  generalize (lg_sl ([.ref a]) ++ List.replicate (1 - (lg_sl ([.ref a])).length) Slot.unset).toArray = ls at hl ⊢
  have hl : lv_has ls 1 [(0, .ref a)] := hl
  refine lv_aload_n hx hb dJx4a65c_grow_d5877_0 rfl (lv_at hl 0 rfl) ?_
  refine lv_aload_n hx hb dJx4a65c_grow_d5877_1 rfl (lv_at hl 0 rfl) ?_
  refine va_get (D := D) (ci := 0) (v := .int (nI n)) (C := RJx4a65c) (T := TJx4a65c) (N := 3) hx hb hts hin hown hK hP 0 rfl rfl 2 (by decide) k_48 (fun _ h => h) rfl dJx4a65c_grow_d5877_2 ?_
  refine lv_iconst (v := 1) hx hb dJx4a65c_grow_d5877_5 (by decide) ?_
  refine lv_iadd hx hb dJx4a65c_grow_d5877_6 ?_
  rw [show nI n + 1 = nI (n + 1) from nI_1 n]
  have hF := va_free (wc := [(a, alC md ea (nI n)), (ea, arO cy n f)]) hD hI hA [0, 1] rfl
  refine va_callr (va_runV (As := [.int (nI (n + 1))]) (rest := []) ⟨hx, hb, hml, hown, hts⟩ (qGR1A l D cy e0 mi a ea n s.heap.size md f P h2n hn hPf) (cwV 1 hts gJx4a65c_grow_d5877_Jx4a65c_grow_92f84 rfl rfl rfl (by decide +kernel) ⟨Nat.le_of_ble_eq_true rfl, Nat.le_of_ble_eq_true rfl⟩) ⟨AD_blind, va_recv hK hP (ci := 0) (q0 := 0) rfl rfl, AD_pre hAe hJ hI hP hD hA hE (.ref a :: [.int (nI (n + 1))])⟩ rfl rfl hl.1 rfl (lv_room (Nat.le_of_ble_eq_true rfl)) dJx4a65c_grow_d5877_7 ⟨Nat.le_of_ble_eq_true rfl, show 0 + (n + n / 2) ≤ (n + n / 2) by omega⟩) hI (fun q _ h => hF q h) hF (fun u ra t H1 locs ht hvm hw hB hz1 hk1 hI => ?_)
  obtain ⟨hP1, hD1⟩ := hB
  rw [ht] at hP1
  refine W.widen (k := 1) (n := (n + n / 2)) (Nat.le_refl _) (show 0 + (n + n / 2) ≤ (n + n / 2) by omega) ?_
  exact W.aret (v := .ref ra) hx hb hr (Or.inr ⟨_, rfl⟩) (Or.inr ⟨_, rfl⟩) (fun t9 ht9 hW9 => ⟨⟨u, ra, rfl, hw, by rw [ht9]; exact hP1, hD1.weaken (fun _ _ _ h => hF _ h)⟩, hI.F ht9⟩) hI.2.2 dJx4a65c_grow_d5877_10
set_option maxHeartbeats 4000000 in
set_option maxRecDepth 100000 in
theorem qGR00 (l : Launch) (D : va_G) (cy : Nat → ClassId) (e0 mi : Nat) (a sz : Nat) (md : Int32) (P : Nat → Prop) : Met l yJx4a65c_grow_d5877 wsJx4a65c_grow_d5877 ({ frames := 2, cells := 1, slots := 10, locals := 83 } : Room) (va_Pc [.ref a] (ADp D cy e0 mi [(a, alC md e0 (nI 0))] P sz)) (va_Qr (fun (u : Nat → Option Nat) => True) (fun u ra t => va_P D vwCl [(a, alC md ra (nI 0)), (ra, arO cy 10 u)] t.heap ∧ va_D (va_A [(a, alC md e0 (nI 0))] sz) [(a, alC md ra (nI 0)), (ra, arO cy 10 u)]) (va_A [(a, alC md e0 (nI 0))] sz)) 1 10 (va_A [(a, alC md e0 (nI 0))] sz) := by
  refine Met.ofW (cc := cJx4a65c_grow_d5877) (maxL := 1) (ret := (some (.array (.object "java/lang/Object")))) (by decide) rfl ?_
  intro p e s m args below meth c s₁ B hml hv
  have hx := B.exec
  have hb := B.bytes
  have hr := B.returns
  have hts0 := atoms_spec (ws := wsJx4a65c_grow_d5877) B.pre
  have hown : s.vm.findClass RJx4a65c = some m.cls := findClass_of_methodNamed B.named
  have hlocks := B.notSynchronized
  obtain ⟨rfl, hsz, hP, hJ, hD0, hE⟩ := hv
  have hK := hJ.1
  subst hsz
  have hD := hD0.self (sz := s.heap.size)
  generalize hAe : va_A [(a, alC md e0 (nI 0))] s.heap.size = A at hD hJ ⊢
  have hA : ∀ q : Nat, s.heap.size ≤ q → A q := fun q h => by rw [← hAe]; exact Or.inr h
  have hI : va_S A s.heap s.heap [] := va_S.rf
  have hin : ∀ w ∈ wsJx4a65c0, w ∈ wsJx4a65c_grow_d5877 := fun _ h => List.mem_cons_of_mem _ (List.mem_append_right _ (h))
  have k_48 := hts0 (.fieldLink RJx4a65c 48 "java/util/ArrayList" "size" "I") (List.mem_cons_of_mem _ (List.mem_append_left _ (List.mem_append_left _ (List.mem_of_getElem? (i := 0) rfl))))
  have hts := hts0
  have hl := lv_entry ([.ref a]) (n := 1) (Nat.le_of_ble_eq_true rfl)
  rw [lg_entry_eq]
  generalize (lg_sl ([.ref a]) ++ List.replicate (1 - (lg_sl ([.ref a])).length) Slot.unset).toArray = ls at hl ⊢
  have hl : lv_has ls 1 [(0, .ref a)] := hl
  refine lv_aload_n hx hb dJx4a65c_grow_d5877_0 rfl (lv_at hl 0 rfl) ?_
  refine lv_aload_n hx hb dJx4a65c_grow_d5877_1 rfl (lv_at hl 0 rfl) ?_
  refine va_get (D := D) (ci := 0) (v := .int (nI 0)) (C := RJx4a65c) (T := TJx4a65c) (N := 3) hx hb hts hin hown hK hP 0 rfl rfl 2 (by decide) k_48 (fun _ h => h) rfl dJx4a65c_grow_d5877_2 ?_
  refine lv_iconst (v := 1) hx hb dJx4a65c_grow_d5877_5 (by decide) ?_
  refine lv_iadd hx hb dJx4a65c_grow_d5877_6 ?_
  rw [show nI 0 + 1 = nI (0 + 1) from nI_1 0]
  have hF := va_free (wc := [(a, alC md e0 (nI 0))]) hD hI hA [0] rfl
  refine va_callr (va_runV (As := [.int (nI (0 + 1))]) (rest := []) ⟨hx, hb, hml, hown, hts⟩ (qGR10 l D cy e0 mi a s.heap.size md P) (cwV 1 hts gJx4a65c_grow_d5877_Jx4a65c_grow_92f84 rfl rfl rfl (by decide +kernel) ⟨Nat.le_of_ble_eq_true rfl, Nat.le_of_ble_eq_true rfl⟩) ⟨AD_blind, va_recv hK hP (ci := 0) (q0 := 0) rfl rfl, AD_pre hAe hJ hI hP hD hA hE (.ref a :: [.int (nI (0 + 1))])⟩ rfl rfl hl.1 rfl (lv_room (Nat.le_of_ble_eq_true rfl)) dJx4a65c_grow_d5877_7 ⟨Nat.le_of_ble_eq_true rfl, show 0 + 10 ≤ 10 by omega⟩) hI (fun q _ h => hF q h) hF (fun u ra t H1 locs ht hvm hw hB hz1 hk1 hI => ?_)
  obtain ⟨hP1, hD1⟩ := hB
  rw [ht] at hP1
  refine W.widen (k := 1) (n := 10) (Nat.le_refl _) (show 0 + 10 ≤ 10 by omega) ?_
  exact W.aret (v := .ref ra) hx hb hr (Or.inr ⟨_, rfl⟩) (Or.inr ⟨_, rfl⟩) (fun t9 ht9 hW9 => ⟨⟨u, ra, rfl, hw, by rw [ht9]; exact hP1, hD1.weaken (fun _ _ _ h => hF _ h)⟩, hI.F ht9⟩) hI.2.2 dJx4a65c_grow_d5877_10
set_option maxHeartbeats 4000000 in
set_option maxRecDepth 100000 in
theorem qAD3R (l : Launch) (D : va_G) (cy : Nat → ClassId) (e0 mi : Nat) (a ea n cap q sz : Nat) (md : Int32) (f : Nat → Option Nat) (P : Nat → Prop) (hn : n < cap) (h2c : 2 ≤ cap) (hcap : cap ≤ 150) (hq : P q) : Met l yJx4a65c_add_72be8 wsJx4a65c_add_72be8 ({ frames := 0, cells := 1, slots := 150, locals := 0 } : Room) (va_Pc [.ref a, .ref q, .ref ea, .int (nI n)] (ADp D cy e0 mi [(a, alC md ea (nI n)), (ea, arO cy cap f)] P sz)) (va_Qv (fun (u : Int32 × Nat × Nat × (Nat → Option Nat)) => n + 1 ≤ u.2.2.1 ∧ 2 ≤ u.2.2.1 ∧ u.2.2.1 ≤ 150 ∧ (∀ j, j < n → u.2.2.2 j = f j) ∧ u.2.2.2 n = some q) (fun u t => va_P D vwCl [(a, alC u.1 u.2.1 (nI (n + 1))), (u.2.1, arO cy u.2.2.1 u.2.2.2)] t.heap ∧ va_D (va_A [(a, alC md ea (nI n)), (ea, arO cy cap f)] sz) [(a, alC u.1 u.2.1 (nI (n + 1))), (u.2.1, arO cy u.2.2.1 u.2.2.2)]) (va_A [(a, alC md ea (nI n)), (ea, arO cy cap f)] sz)) 1 150 (va_A [(a, alC md ea (nI n)), (ea, arO cy cap f)] sz) := by
  refine Met.ofW (cc := cJx4a65c_add_72be8) (maxL := 4) (ret := none) (by decide) rfl ?_
  intro p e s m args below meth c s₁ B hml hv
  have hx := B.exec
  have hb := B.bytes
  have hr := B.returns
  have hts0 := atoms_spec (ws := wsJx4a65c_add_72be8) B.pre
  have hown : s.vm.findClass RJx4a65c = some m.cls := findClass_of_methodNamed B.named
  have hlocks := B.notSynchronized
  obtain ⟨rfl, hsz, hP, hJ, hD0, hE⟩ := hv
  have hK := hJ.1
  subst hsz
  have hD := hD0.self (sz := s.heap.size)
  generalize hAe : va_A [(a, alC md ea (nI n)), (ea, arO cy cap f)] s.heap.size = A at hD hJ ⊢
  have hA : ∀ q : Nat, s.heap.size ≤ q → A q := fun q h => by rw [← hAe]; exact Or.inr h
  have hI : va_S A s.heap s.heap [] := va_S.rf
  have hin : ∀ w ∈ wsJx4a65c0, w ∈ wsJx4a65c_add_72be8 := fun _ h => List.mem_cons_of_mem _ (List.mem_append_right _ (h))
  have k_48 := hts0 (.fieldLink RJx4a65c 48 "java/util/ArrayList" "size" "I") (List.mem_cons_of_mem _ (List.mem_append_left _ (List.mem_append_left _ (List.mem_of_getElem? (i := 0) rfl))))
  have hne : ¬ nI n = nI cap := fun h => by rw [nI_eq (by omega) (by omega)] at h; omega
  have hts := hts0
  have hl := lv_entry ([.ref a, .ref q, .ref ea, .int (nI n)]) (n := 4) (Nat.le_of_ble_eq_true rfl)
  rw [lg_entry_eq]
  generalize (lg_sl ([.ref a, .ref q, .ref ea, .int (nI n)]) ++ List.replicate (4 - (lg_sl ([.ref a, .ref q, .ref ea, .int (nI n)])).length) Slot.unset).toArray = ls at hl ⊢
  have hl : lv_has ls 4 [(0, .ref a), (1, .ref q), (2, .ref ea), (3, .int (nI n))] := hl
  refine lv_iload_n hx hb dJx4a65c_add_72be8_0 rfl (lv_at hl 3 rfl) ?_
  refine lv_aload_n hx hb dJx4a65c_add_72be8_1 rfl (lv_at hl 2 rfl) ?_
  refine va_alen hx hb hK hP 1 4 rfl rfl (v := nI cap) rfl dJx4a65c_add_72be8_2 ?_
  refine lv_icmp_ne (tgt := 11) hx hb dJx4a65c_add_72be8_3 (by decide) (fun _ => ?_) (fun c => absurd c hne)
  refine lv_aload_n hx hb dJx4a65c_add_72be8_11 rfl (lv_at hl 2 rfl) ?_
  refine lv_iload_n hx hb dJx4a65c_add_72be8_12 rfl (lv_at hl 3 rfl) ?_
  refine lv_aload_n hx hb dJx4a65c_add_72be8_13 rfl (lv_at hl 1 rfl) ?_
  refine va_astqM hx hb hK hP hD hI 1 4 rfl rfl (EL_now (hE q hq) hAe hI) (vp_in_nI (by omega) (by omega)) dJx4a65c_add_72be8_14 (fun H locs hP hD hI => ?_)
  rw [nI_clamp (by omega)] at hP hD
  have hP : va_P D vwCl [(a, alC md ea (nI n)), (ea, arO cy cap (va_up f n (some q)))] H := hP
  have hD : va_D A [(a, alC md ea (nI n)), (ea, arO cy cap (va_up f n (some q)))] := hD
  refine lv_aload_n hx hb dJx4a65c_add_72be8_15 rfl (lv_at hl 0 rfl) ?_
  refine lv_iload_n hx hb dJx4a65c_add_72be8_16 rfl (lv_at hl 3 rfl) ?_
  refine lv_iconst (v := 1) hx hb dJx4a65c_add_72be8_17 (by decide) ?_
  refine lv_iadd hx hb dJx4a65c_add_72be8_18 ?_
  rw [show nI n + 1 = nI (n + 1) from nI_1 n]
  refine va_put (D := D) (ci := 0) (v := .int (nI (n + 1))) (ty := .int) (C := RJx4a65c) (T := TJx4a65c) (N := 3) hx hb hts hin tyJx4a65c tyJx4a65c_ok nmJx4a65c hown hK hP hD hI 0 rfl rfl 2 (by decide) k_48 (fun _ h => h) rfl (by decide +kernel) rfl rfl (Nat.le_of_ble_eq_true rfl) dJx4a65c_add_72be8_19 (fun H locs hP hD hI => ?_)
  have hP : va_P D vwCl [(a, alC md ea (nI (n + 1))), (ea, arO cy cap (va_up f n (some q)))] H := hP
  have hD : va_D A [(a, alC md ea (nI (n + 1))), (ea, arO cy cap (va_up f n (some q)))] := hD
  refine W.widen (k := 1) (n := 150) (by omega) (by omega) ?_
  exact W.vret hx hb hr (fun t9 ht9 hW9 => ⟨⟨(md, ea, cap, va_up f n (some q)), rfl, ⟨by show n + 1 ≤ cap; omega, h2c, hcap, fun j hj => va_up_ne _ _ (by omega), va_up_self _ _ _⟩, by rw [ht9]; exact hP, hD⟩, hI.F ht9⟩) hI.2.2 dJx4a65c_add_72be8_22
set_option maxHeartbeats 4000000 in
set_option maxRecDepth 100000 in
theorem qAD3A (l : Launch) (D : va_G) (cy : Nat → ClassId) (e0 mi : Nat) (a ea n q sz : Nat) (md : Int32) (f : Nat → Option Nat) (P : Nat → Prop) (h2n : 2 ≤ n) (hn : n ≤ 100) (hPf : ∀ i y, i < n → f i = some y → P y) (hq : P q) : Met l yJx4a65c_add_72be8 wsJx4a65c_add_72be8 ({ frames := 5, cells := 1, slots := 150, locals := 127 } : Room) (va_Pc [.ref a, .ref q, .ref ea, .int (nI n)] (ADp D cy e0 mi [(a, alC md ea (nI n)), (ea, arO cy n f)] P sz)) (va_Qv (fun (u : Int32 × Nat × Nat × (Nat → Option Nat)) => n + 1 ≤ u.2.2.1 ∧ 2 ≤ u.2.2.1 ∧ u.2.2.1 ≤ 150 ∧ (∀ j, j < n → u.2.2.2 j = f j) ∧ u.2.2.2 n = some q) (fun u t => va_P D vwCl [(a, alC u.1 u.2.1 (nI (n + 1))), (u.2.1, arO cy u.2.2.1 u.2.2.2)] t.heap ∧ va_D (va_A [(a, alC md ea (nI n)), (ea, arO cy n f)] sz) [(a, alC u.1 u.2.1 (nI (n + 1))), (u.2.1, arO cy u.2.2.1 u.2.2.2)]) (va_A [(a, alC md ea (nI n)), (ea, arO cy n f)] sz)) 1 150 (va_A [(a, alC md ea (nI n)), (ea, arO cy n f)] sz) := by
  refine Met.ofW (cc := cJx4a65c_add_72be8) (maxL := 4) (ret := none) (by decide) rfl ?_
  intro p e s m args below meth c s₁ B hml hv
  have hx := B.exec
  have hb := B.bytes
  have hr := B.returns
  have hts0 := atoms_spec (ws := wsJx4a65c_add_72be8) B.pre
  have hown : s.vm.findClass RJx4a65c = some m.cls := findClass_of_methodNamed B.named
  have hlocks := B.notSynchronized
  obtain ⟨rfl, hsz, hP, hJ, hD0, hE⟩ := hv
  have hK := hJ.1
  subst hsz
  have hD := hD0.self (sz := s.heap.size)
  generalize hAe : va_A [(a, alC md ea (nI n)), (ea, arO cy n f)] s.heap.size = A at hD hJ ⊢
  have hA : ∀ q : Nat, s.heap.size ≤ q → A q := fun q h => by rw [← hAe]; exact Or.inr h
  have hI : va_S A s.heap s.heap [] := va_S.rf
  have hin : ∀ w ∈ wsJx4a65c0, w ∈ wsJx4a65c_add_72be8 := fun _ h => List.mem_cons_of_mem _ (List.mem_append_right _ (h))
  have k_48 := hts0 (.fieldLink RJx4a65c 48 "java/util/ArrayList" "size" "I") (List.mem_cons_of_mem _ (List.mem_append_left _ (List.mem_append_left _ (List.mem_of_getElem? (i := 0) rfl))))
  have heq : nI n = nI n := rfl
  have hts := hts0
  have hl := lv_entry ([.ref a, .ref q, .ref ea, .int (nI n)]) (n := 4) (Nat.le_of_ble_eq_true rfl)
  rw [lg_entry_eq]
  generalize (lg_sl ([.ref a, .ref q, .ref ea, .int (nI n)]) ++ List.replicate (4 - (lg_sl ([.ref a, .ref q, .ref ea, .int (nI n)])).length) Slot.unset).toArray = ls at hl ⊢
  have hl : lv_has ls 4 [(0, .ref a), (1, .ref q), (2, .ref ea), (3, .int (nI n))] := hl
  refine lv_iload_n hx hb dJx4a65c_add_72be8_0 rfl (lv_at hl 3 rfl) ?_
  refine lv_aload_n hx hb dJx4a65c_add_72be8_1 rfl (lv_at hl 2 rfl) ?_
  refine va_alen hx hb hK hP 1 4 rfl rfl (v := nI n) rfl dJx4a65c_add_72be8_2 ?_
  refine lv_icmp_ne (tgt := 11) hx hb dJx4a65c_add_72be8_3 (by decide) (fun c => absurd heq c) (fun _ => ?_)
  refine lv_aload_n hx hb dJx4a65c_add_72be8_6 rfl (lv_at hl 0 rfl) ?_
  have hF := va_free (wc := [(a, alC md ea (nI n)), (ea, arO cy n f)]) hD hI hA [0, 1] rfl
  refine va_callr (va_runV (As := []) (rest := []) ⟨hx, hb, hml, hown, hts⟩ (qGR0A l D cy e0 mi a ea n s.heap.size md f P h2n hn hPf) (cwV 0 hts gJx4a65c_add_72be8_Jx4a65c_grow_d5877 rfl rfl rfl (by decide +kernel) ⟨Nat.le_of_ble_eq_true rfl, Nat.le_of_ble_eq_true rfl⟩) ⟨AD_blind, va_recv hK hP (ci := 0) (q0 := 0) rfl rfl, AD_pre hAe hJ hI hP hD hA hE (.ref a :: [])⟩ rfl rfl hl.1 rfl (lv_room (Nat.le_of_ble_eq_true rfl)) dJx4a65c_add_72be8_7 ⟨Nat.le_of_ble_eq_true rfl, show 0 + (n + n / 2) ≤ 150 by omega⟩) hI (fun q _ h => hF q h) hF (fun u ra t H1 locs ht hvm hw hB hz1 hk1 hI => ?_)
  obtain ⟨hP, hD1⟩ := hB
  rw [ht] at hP
  have hD := hD1.weaken (fun _ _ _ h => hF _ h)
  have hP : va_P D vwCl [(a, alC md ra (nI n)), (ra, arO cy (n + n / 2) u)] H1 := hP
  have hD : va_D A [(a, alC md ra (nI n)), (ra, arO cy (n + n / 2) u)] := hD
  refine lv_astore_n (lv' := [(2, .ref ra), (0, .ref a), (1, .ref q), (3, .int (nI n))]) hx hb dJx4a65c_add_72be8_10 rfl hl (by decide) rfl (fun ls hl => ?_)
  refine lv_aload_n hx hb dJx4a65c_add_72be8_11 rfl (lv_at hl 0 rfl) ?_
  refine lv_iload_n hx hb dJx4a65c_add_72be8_12 rfl (lv_at hl 3 rfl) ?_
  refine lv_aload_n hx hb dJx4a65c_add_72be8_13 rfl (lv_at hl 2 rfl) ?_
  refine va_astqM hx hb hK hP hD hI 1 4 rfl rfl (EL_now (hE q hq) hAe hI) (vp_in_nI (by omega) (by omega)) dJx4a65c_add_72be8_14 (fun H locs hP hD hI => ?_)
  rw [nI_clamp (by omega)] at hP hD
  have hP : va_P D vwCl [(a, alC md ra (nI n)), (ra, arO cy (n + n / 2) (va_up u n (some q)))] H := hP
  have hD : va_D A [(a, alC md ra (nI n)), (ra, arO cy (n + n / 2) (va_up u n (some q)))] := hD
  refine lv_aload_n hx hb dJx4a65c_add_72be8_15 rfl (lv_at hl 1 rfl) ?_
  refine lv_iload_n hx hb dJx4a65c_add_72be8_16 rfl (lv_at hl 3 rfl) ?_
  refine lv_iconst (v := 1) hx hb dJx4a65c_add_72be8_17 (by decide) ?_
  refine lv_iadd hx hb dJx4a65c_add_72be8_18 ?_
  rw [show nI n + 1 = nI (n + 1) from nI_1 n]
  refine va_put (D := D) (ci := 0) (v := .int (nI (n + 1))) (ty := .int) (C := RJx4a65c) (T := TJx4a65c) (N := 3) hx hb hts hin tyJx4a65c tyJx4a65c_ok nmJx4a65c hown hK hP hD hI 0 rfl rfl 2 (by decide) k_48 (fun _ h => h) rfl (by decide +kernel) rfl rfl (Nat.le_of_ble_eq_true rfl) dJx4a65c_add_72be8_19 (fun H locs hP hD hI => ?_)
  have hP : va_P D vwCl [(a, alC md ra (nI (n + 1))), (ra, arO cy (n + n / 2) (va_up u n (some q)))] H := hP
  have hD : va_D A [(a, alC md ra (nI (n + 1))), (ra, arO cy (n + n / 2) (va_up u n (some q)))] := hD
  refine W.widen (k := 1) (n := 150) (by omega) (by omega) ?_
  exact W.vret hx hb hr (fun t9 ht9 hW9 => ⟨⟨(md, ra, (n + n / 2), va_up u n (some q)), rfl, ⟨by show n + 1 ≤ n + n / 2; omega, by show 2 ≤ n + n / 2; omega, by show n + n / 2 ≤ 150; omega, fun j hj => (va_up_ne _ _ (by omega)).trans (hw j hj), va_up_self _ _ _⟩, by rw [ht9]; exact hP, hD⟩, hI.F ht9⟩) hI.2.2 dJx4a65c_add_72be8_22
set_option maxHeartbeats 4000000 in
set_option maxRecDepth 100000 in
theorem qAD30 (l : Launch) (D : va_G) (cy : Nat → ClassId) (e0 mi : Nat) (a q sz : Nat) (md : Int32) (P : Nat → Prop) (hq : P q) : Met l yJx4a65c_add_72be8 wsJx4a65c_add_72be8 ({ frames := 3, cells := 1, slots := 150, locals := 103 } : Room) (va_Pc [.ref a, .ref q, .ref e0, .int (nI 0)] (ADp D cy e0 mi [(a, alC md e0 (nI 0))] P sz)) (va_Qv (fun (u : Int32 × Nat × Nat × (Nat → Option Nat)) => 0 + 1 ≤ u.2.2.1 ∧ 2 ≤ u.2.2.1 ∧ u.2.2.1 ≤ 150 ∧ u.2.2.2 0 = some q) (fun u t => va_P D vwCl [(a, alC u.1 u.2.1 (nI (0 + 1))), (u.2.1, arO cy u.2.2.1 u.2.2.2)] t.heap ∧ va_D (va_A [(a, alC md e0 (nI 0))] sz) [(a, alC u.1 u.2.1 (nI (0 + 1))), (u.2.1, arO cy u.2.2.1 u.2.2.2)]) (va_A [(a, alC md e0 (nI 0))] sz)) 1 150 (va_A [(a, alC md e0 (nI 0))] sz) := by
  refine Met.ofW (cc := cJx4a65c_add_72be8) (maxL := 4) (ret := none) (by decide) rfl ?_
  intro p e s m args below meth c s₁ B hml hv
  have hx := B.exec
  have hb := B.bytes
  have hr := B.returns
  have hts0 := atoms_spec (ws := wsJx4a65c_add_72be8) B.pre
  have hown : s.vm.findClass RJx4a65c = some m.cls := findClass_of_methodNamed B.named
  have hlocks := B.notSynchronized
  obtain ⟨rfl, hsz, hP, hJ, hD0, hE⟩ := hv
  have hK := hJ.1
  subst hsz
  have hD := hD0.self (sz := s.heap.size)
  generalize hAe : va_A [(a, alC md e0 (nI 0))] s.heap.size = A at hD hJ ⊢
  have hA : ∀ q : Nat, s.heap.size ≤ q → A q := fun q h => by rw [← hAe]; exact Or.inr h
  have hI : va_S A s.heap s.heap [] := va_S.rf
  have hin : ∀ w ∈ wsJx4a65c0, w ∈ wsJx4a65c_add_72be8 := fun _ h => List.mem_cons_of_mem _ (List.mem_append_right _ (h))
  have k_48 := hts0 (.fieldLink RJx4a65c 48 "java/util/ArrayList" "size" "I") (List.mem_cons_of_mem _ (List.mem_append_left _ (List.mem_append_left _ (List.mem_of_getElem? (i := 0) rfl))))
  have heq : nI 0 = nI 0 := rfl
  have hts := hts0
  have hl := lv_entry ([.ref a, .ref q, .ref e0, .int (nI 0)]) (n := 4) (Nat.le_of_ble_eq_true rfl)
  rw [lg_entry_eq]
  generalize (lg_sl ([.ref a, .ref q, .ref e0, .int (nI 0)]) ++ List.replicate (4 - (lg_sl ([.ref a, .ref q, .ref e0, .int (nI 0)])).length) Slot.unset).toArray = ls at hl ⊢
  have hl : lv_has ls 4 [(0, .ref a), (1, .ref q), (2, .ref e0), (3, .int (nI 0))] := hl
  refine lv_iload_n hx hb dJx4a65c_add_72be8_0 rfl (lv_at hl 3 rfl) ?_
  refine lv_aload_n hx hb dJx4a65c_add_72be8_1 rfl (lv_at hl 2 rfl) ?_
  refine va_tlen hx hb hJ.2.2.2.2.2 hI (v := nI 0) rfl dJx4a65c_add_72be8_2 ?_
  refine lv_icmp_ne (tgt := 11) hx hb dJx4a65c_add_72be8_3 (by decide) (fun c => absurd heq c) (fun _ => ?_)
  refine lv_aload_n hx hb dJx4a65c_add_72be8_6 rfl (lv_at hl 0 rfl) ?_
  have hF := va_free (wc := [(a, alC md e0 (nI 0))]) hD hI hA [0] rfl
  refine va_callr (va_runV (As := []) (rest := []) ⟨hx, hb, hml, hown, hts⟩ (qGR00 l D cy e0 mi a s.heap.size md P) (cwV 0 hts gJx4a65c_add_72be8_Jx4a65c_grow_d5877 rfl rfl rfl (by decide +kernel) ⟨Nat.le_of_ble_eq_true rfl, Nat.le_of_ble_eq_true rfl⟩) ⟨AD_blind, va_recv hK hP (ci := 0) (q0 := 0) rfl rfl, AD_pre hAe hJ hI hP hD hA hE (.ref a :: [])⟩ rfl rfl hl.1 rfl (lv_room (Nat.le_of_ble_eq_true rfl)) dJx4a65c_add_72be8_7 ⟨Nat.le_of_ble_eq_true rfl, show 0 + 10 ≤ 150 by omega⟩) hI (fun q _ h => hF q h) hF (fun u ra t H1 locs ht hvm hw hB hz1 hk1 hI => ?_)
  obtain ⟨hP, hD1⟩ := hB
  rw [ht] at hP
  have hD := hD1.weaken (fun _ _ _ h => hF _ h)
  have hP : va_P D vwCl [(a, alC md ra (nI 0)), (ra, arO cy 10 u)] H1 := hP
  have hD : va_D A [(a, alC md ra (nI 0)), (ra, arO cy 10 u)] := hD
  refine lv_astore_n (lv' := [(2, .ref ra), (0, .ref a), (1, .ref q), (3, .int (nI 0))]) hx hb dJx4a65c_add_72be8_10 rfl hl (by decide) rfl (fun ls hl => ?_)
  refine lv_aload_n hx hb dJx4a65c_add_72be8_11 rfl (lv_at hl 0 rfl) ?_
  refine lv_iload_n hx hb dJx4a65c_add_72be8_12 rfl (lv_at hl 3 rfl) ?_
  refine lv_aload_n hx hb dJx4a65c_add_72be8_13 rfl (lv_at hl 2 rfl) ?_
  refine va_astqM hx hb hK hP hD hI 1 4 rfl rfl (EL_now (hE q hq) hAe hI) (vp_in_nI (by omega) (by omega)) dJx4a65c_add_72be8_14 (fun H locs hP hD hI => ?_)
  rw [nI_clamp (by omega)] at hP hD
  have hP : va_P D vwCl [(a, alC md ra (nI 0)), (ra, arO cy 10 (va_up u 0 (some q)))] H := hP
  have hD : va_D A [(a, alC md ra (nI 0)), (ra, arO cy 10 (va_up u 0 (some q)))] := hD
  refine lv_aload_n hx hb dJx4a65c_add_72be8_15 rfl (lv_at hl 1 rfl) ?_
  refine lv_iload_n hx hb dJx4a65c_add_72be8_16 rfl (lv_at hl 3 rfl) ?_
  refine lv_iconst (v := 1) hx hb dJx4a65c_add_72be8_17 (by decide) ?_
  refine lv_iadd hx hb dJx4a65c_add_72be8_18 ?_
  rw [show nI 0 + 1 = nI (0 + 1) from nI_1 0]
  refine va_put (D := D) (ci := 0) (v := .int (nI (0 + 1))) (ty := .int) (C := RJx4a65c) (T := TJx4a65c) (N := 3) hx hb hts hin tyJx4a65c tyJx4a65c_ok nmJx4a65c hown hK hP hD hI 0 rfl rfl 2 (by decide) k_48 (fun _ h => h) rfl (by decide +kernel) rfl rfl (Nat.le_of_ble_eq_true rfl) dJx4a65c_add_72be8_19 (fun H locs hP hD hI => ?_)
  have hP : va_P D vwCl [(a, alC md ra (nI (0 + 1))), (ra, arO cy 10 (va_up u 0 (some q)))] H := hP
  have hD : va_D A [(a, alC md ra (nI (0 + 1))), (ra, arO cy 10 (va_up u 0 (some q)))] := hD
  refine W.widen (k := 1) (n := 150) (by omega) (by omega) ?_
  exact W.vret hx hb hr (fun t9 ht9 hW9 => ⟨⟨(md, ra, 10, va_up u 0 (some q)), rfl, ⟨by show 0 + 1 ≤ 10; decide, by show 2 ≤ 10; decide, by show 10 ≤ 150; decide, by show va_up u 0 (some q) 0 = some q; exact va_up_self _ _ _⟩, by rw [ht9]; exact hP, hD⟩, hI.F ht9⟩) hI.2.2 dJx4a65c_add_72be8_22
set_option maxHeartbeats 4000000 in
set_option maxRecDepth 100000 in
theorem qADR (l : Launch) (D : va_G) (cy : Nat → ClassId) (e0 mi : Nat) (a ea n cap q sz : Nat) (md : Int32) (f : Nat → Option Nat) (P : Nat → Prop) (hn : n < cap) (h2c : 2 ≤ cap) (hcap : cap ≤ 150) (hq : P q) : Met l yJx4a65c_add_9ea2d wsJx4a65c_add_9ea2d ({ frames := 1, cells := 1, slots := 150, locals := 23 } : Room) (va_Pc [.ref a, .ref q] (ADp D cy e0 mi [(a, alC md ea (nI n)), (ea, arO cy cap f)] P sz)) (va_Qi (fun r u => r = 1 ∧ (fun (u : Int32 × Nat × Nat × (Nat → Option Nat)) => n + 1 ≤ u.2.2.1 ∧ 2 ≤ u.2.2.1 ∧ u.2.2.1 ≤ 150 ∧ (∀ j, j < n → u.2.2.2 j = f j) ∧ u.2.2.2 n = some q) u) (fun u t => va_P D vwCl [(a, alC u.1 u.2.1 (nI (n + 1))), (u.2.1, arO cy u.2.2.1 u.2.2.2)] t.heap ∧ va_D (va_A [(a, alC md ea (nI n)), (ea, arO cy cap f)] sz) [(a, alC u.1 u.2.1 (nI (n + 1))), (u.2.1, arO cy u.2.2.1 u.2.2.2)]) (va_A [(a, alC md ea (nI n)), (ea, arO cy cap f)] sz)) 1 150 (va_A [(a, alC md ea (nI n)), (ea, arO cy cap f)] sz) := by
  refine Met.ofW (cc := cJx4a65c_add_9ea2d) (maxL := 2) (ret := (some .boolean)) (by decide) rfl ?_
  intro p e s m args below meth c s₁ B hml hv
  have hx := B.exec
  have hb := B.bytes
  have hr := B.returns
  have hts0 := atoms_spec (ws := wsJx4a65c_add_9ea2d) B.pre
  have hown : s.vm.findClass RJx4a65c = some m.cls := findClass_of_methodNamed B.named
  have hlocks := B.notSynchronized
  obtain ⟨rfl, hsz, hP, hJ, hD0, hE⟩ := hv
  have hK := hJ.1
  subst hsz
  have hD := hD0.self (sz := s.heap.size)
  generalize hAe : va_A [(a, alC md ea (nI n)), (ea, arO cy cap f)] s.heap.size = A at hD hJ ⊢
  have hA : ∀ q : Nat, s.heap.size ≤ q → A q := fun q h => by rw [← hAe]; exact Or.inr h
  have hI : va_S A s.heap s.heap [] := va_S.rf
  have hin : ∀ w ∈ wsJx4a65c0, w ∈ wsJx4a65c_add_9ea2d := fun _ h => List.mem_cons_of_mem _ (List.mem_append_right _ (h))
  have k_48 := hts0 (.fieldLink RJx4a65c 48 "java/util/ArrayList" "size" "I") (List.mem_cons_of_mem _ (List.mem_append_left _ (List.mem_append_left _ (List.mem_of_getElem? (i := 3) rfl))))
  have k_63 := hts0 (.fieldLink RJx4a65c 63 "java/util/ArrayList" "modCount" "I") (List.mem_cons_of_mem _ (List.mem_append_left _ (List.mem_append_left _ (List.mem_of_getElem? (i := 0) rfl))))
  have ksf := hts0 (.sameField "java/util/ArrayList" "java/util/AbstractList" "modCount" "I") (List.mem_cons_of_mem _ (List.mem_append_left _ (List.mem_append_left _ (List.mem_of_getElem? (i := 1) rfl))))
  have k_9 := hts0 (.fieldLink RJx4a65c 9 "java/util/ArrayList" "elementData" "[Ljava/lang/Object;") (List.mem_cons_of_mem _ (List.mem_append_left _ (List.mem_append_left _ (List.mem_of_getElem? (i := 2) rfl))))
  have hts := hts0
  have hl := lv_entry ([.ref a, .ref q]) (n := 2) (Nat.le_of_ble_eq_true rfl)
  rw [lg_entry_eq]
  generalize (lg_sl ([.ref a, .ref q]) ++ List.replicate (2 - (lg_sl ([.ref a, .ref q])).length) Slot.unset).toArray = ls at hl ⊢
  have hl : lv_has ls 2 [(0, .ref a), (1, .ref q)] := hl
  refine lv_aload_n hx hb dJx4a65c_add_9ea2d_0 rfl (lv_at hl 0 rfl) ?_
  refine lv_dup hx hb dJx4a65c_add_9ea2d_1 rfl ?_
  refine va_get (D := D) (ci := 0) (v := .int md) (C := RJx4a65c) (T := TJx4a65c) (N := 3) hx hb hts hin hown hK hP 0 rfl rfl 0 (by decide) k_63 (sm_field ksf) rfl dJx4a65c_add_9ea2d_2 ?_
  refine lv_iconst (v := 1) hx hb dJx4a65c_add_9ea2d_5 (by decide) ?_
  refine lv_iadd hx hb dJx4a65c_add_9ea2d_6 ?_
  refine va_put (D := D) (ci := 0) (v := .int (md + 1)) (ty := .int) (C := RJx4a65c) (T := TJx4a65c) (N := 3) hx hb hts hin tyJx4a65c tyJx4a65c_ok nmJx4a65c hown hK hP hD hI 0 rfl rfl 0 (by decide) k_63 (sm_field ksf) rfl (by decide +kernel) rfl rfl (Nat.le_of_ble_eq_true rfl) dJx4a65c_add_9ea2d_7 (fun H locs hP hD hI => ?_)
  have hP : va_P D vwCl [(a, alC (md + 1) ea (nI n)), (ea, arO cy cap f)] H := hP
  have hD : va_D A [(a, alC (md + 1) ea (nI n)), (ea, arO cy cap f)] := hD
  refine lv_aload_n hx hb dJx4a65c_add_9ea2d_10 rfl (lv_at hl 0 rfl) ?_
  refine lv_aload_n hx hb dJx4a65c_add_9ea2d_11 rfl (lv_at hl 1 rfl) ?_
  refine lv_aload_n hx hb dJx4a65c_add_9ea2d_12 rfl (lv_at hl 0 rfl) ?_
  refine va_get (D := D) (ci := 0) (v := .ref ea) (C := RJx4a65c) (T := TJx4a65c) (N := 3) hx hb hts hin hown hK hP 0 rfl rfl 1 (by decide) k_9 (fun _ h => h) rfl dJx4a65c_add_9ea2d_13 ?_
  refine lv_aload_n hx hb dJx4a65c_add_9ea2d_16 rfl (lv_at hl 0 rfl) ?_
  refine va_get (D := D) (ci := 0) (v := .int (nI n)) (C := RJx4a65c) (T := TJx4a65c) (N := 3) hx hb hts hin hown hK hP 0 rfl rfl 2 (by decide) k_48 (fun _ h => h) rfl dJx4a65c_add_9ea2d_17 ?_
  have hF := va_free (wc := [(a, alC (md + 1) ea (nI n)), (ea, arO cy cap f)]) hD hI hA [0, 1] rfl
  refine va_callv (va_runV (As := [.ref q, .ref ea, .int (nI n)]) (rest := []) ⟨hx, hb, hml, hown, hts⟩ (qAD3R l D cy e0 mi a ea n cap q H.size (md + 1) f P hn h2c hcap hq) (cwV 3 hts gJx4a65c_add_9ea2d_Jx4a65c_add_72be8 rfl rfl rfl (by decide +kernel) ⟨Nat.le_of_ble_eq_true rfl, Nat.le_of_ble_eq_true rfl⟩) ⟨AD_blind, va_recv hK hP (ci := 0) (q0 := 0) rfl rfl, AD_pre hAe hJ hI hP hD hA hE (.ref a :: [.ref q, .ref ea, .int (nI n)])⟩ rfl rfl hl.1 rfl (lv_room (Nat.le_of_ble_eq_true rfl)) dJx4a65c_add_9ea2d_20 ⟨Nat.le_of_ble_eq_true rfl, Nat.le_of_ble_eq_true rfl⟩) hI (fun q _ h => hF q h) hF (fun u t H1 locs ht hvm hw hB hz1 hk1 hI => ?_)
  obtain ⟨hP1, hD1⟩ := hB
  rw [ht] at hP1
  refine lv_iconst (v := 1) hx hb dJx4a65c_add_9ea2d_23 (by decide) ?_
  refine W.widen (k := 1) (n := 150) (by omega) (by omega) ?_
  exact W.zret (v := 1) (ty := .boolean) hx hb hr rfl (fun t9 ht9 hW9 => ⟨⟨1, u, rfl, ⟨rfl, hw⟩, by rw [ht9]; exact hP1, hD1.weaken (fun _ _ _ h => hF _ h)⟩, hI.F ht9⟩) hI.2.2 dJx4a65c_add_9ea2d_24
set_option maxHeartbeats 4000000 in
set_option maxRecDepth 100000 in
theorem qADA (l : Launch) (D : va_G) (cy : Nat → ClassId) (e0 mi : Nat) (a ea n q sz : Nat) (md : Int32) (f : Nat → Option Nat) (P : Nat → Prop) (h2n : 2 ≤ n) (hn : n ≤ 100) (hPf : ∀ i y, i < n → f i = some y → P y) (hq : P q) : Met l yJx4a65c_add_9ea2d wsJx4a65c_add_9ea2d ({ frames := 6, cells := 1, slots := 150, locals := 150 } : Room) (va_Pc [.ref a, .ref q] (ADp D cy e0 mi [(a, alC md ea (nI n)), (ea, arO cy n f)] P sz)) (va_Qi (fun r u => r = 1 ∧ (fun (u : Int32 × Nat × Nat × (Nat → Option Nat)) => n + 1 ≤ u.2.2.1 ∧ 2 ≤ u.2.2.1 ∧ u.2.2.1 ≤ 150 ∧ (∀ j, j < n → u.2.2.2 j = f j) ∧ u.2.2.2 n = some q) u) (fun u t => va_P D vwCl [(a, alC u.1 u.2.1 (nI (n + 1))), (u.2.1, arO cy u.2.2.1 u.2.2.2)] t.heap ∧ va_D (va_A [(a, alC md ea (nI n)), (ea, arO cy n f)] sz) [(a, alC u.1 u.2.1 (nI (n + 1))), (u.2.1, arO cy u.2.2.1 u.2.2.2)]) (va_A [(a, alC md ea (nI n)), (ea, arO cy n f)] sz)) 1 150 (va_A [(a, alC md ea (nI n)), (ea, arO cy n f)] sz) := by
  refine Met.ofW (cc := cJx4a65c_add_9ea2d) (maxL := 2) (ret := (some .boolean)) (by decide) rfl ?_
  intro p e s m args below meth c s₁ B hml hv
  have hx := B.exec
  have hb := B.bytes
  have hr := B.returns
  have hts0 := atoms_spec (ws := wsJx4a65c_add_9ea2d) B.pre
  have hown : s.vm.findClass RJx4a65c = some m.cls := findClass_of_methodNamed B.named
  have hlocks := B.notSynchronized
  obtain ⟨rfl, hsz, hP, hJ, hD0, hE⟩ := hv
  have hK := hJ.1
  subst hsz
  have hD := hD0.self (sz := s.heap.size)
  generalize hAe : va_A [(a, alC md ea (nI n)), (ea, arO cy n f)] s.heap.size = A at hD hJ ⊢
  have hA : ∀ q : Nat, s.heap.size ≤ q → A q := fun q h => by rw [← hAe]; exact Or.inr h
  have hI : va_S A s.heap s.heap [] := va_S.rf
  have hin : ∀ w ∈ wsJx4a65c0, w ∈ wsJx4a65c_add_9ea2d := fun _ h => List.mem_cons_of_mem _ (List.mem_append_right _ (h))
  have k_48 := hts0 (.fieldLink RJx4a65c 48 "java/util/ArrayList" "size" "I") (List.mem_cons_of_mem _ (List.mem_append_left _ (List.mem_append_left _ (List.mem_of_getElem? (i := 3) rfl))))
  have k_63 := hts0 (.fieldLink RJx4a65c 63 "java/util/ArrayList" "modCount" "I") (List.mem_cons_of_mem _ (List.mem_append_left _ (List.mem_append_left _ (List.mem_of_getElem? (i := 0) rfl))))
  have ksf := hts0 (.sameField "java/util/ArrayList" "java/util/AbstractList" "modCount" "I") (List.mem_cons_of_mem _ (List.mem_append_left _ (List.mem_append_left _ (List.mem_of_getElem? (i := 1) rfl))))
  have k_9 := hts0 (.fieldLink RJx4a65c 9 "java/util/ArrayList" "elementData" "[Ljava/lang/Object;") (List.mem_cons_of_mem _ (List.mem_append_left _ (List.mem_append_left _ (List.mem_of_getElem? (i := 2) rfl))))
  have hts := hts0
  have hl := lv_entry ([.ref a, .ref q]) (n := 2) (Nat.le_of_ble_eq_true rfl)
  rw [lg_entry_eq]
  generalize (lg_sl ([.ref a, .ref q]) ++ List.replicate (2 - (lg_sl ([.ref a, .ref q])).length) Slot.unset).toArray = ls at hl ⊢
  have hl : lv_has ls 2 [(0, .ref a), (1, .ref q)] := hl
  refine lv_aload_n hx hb dJx4a65c_add_9ea2d_0 rfl (lv_at hl 0 rfl) ?_
  refine lv_dup hx hb dJx4a65c_add_9ea2d_1 rfl ?_
  refine va_get (D := D) (ci := 0) (v := .int md) (C := RJx4a65c) (T := TJx4a65c) (N := 3) hx hb hts hin hown hK hP 0 rfl rfl 0 (by decide) k_63 (sm_field ksf) rfl dJx4a65c_add_9ea2d_2 ?_
  refine lv_iconst (v := 1) hx hb dJx4a65c_add_9ea2d_5 (by decide) ?_
  refine lv_iadd hx hb dJx4a65c_add_9ea2d_6 ?_
  refine va_put (D := D) (ci := 0) (v := .int (md + 1)) (ty := .int) (C := RJx4a65c) (T := TJx4a65c) (N := 3) hx hb hts hin tyJx4a65c tyJx4a65c_ok nmJx4a65c hown hK hP hD hI 0 rfl rfl 0 (by decide) k_63 (sm_field ksf) rfl (by decide +kernel) rfl rfl (Nat.le_of_ble_eq_true rfl) dJx4a65c_add_9ea2d_7 (fun H locs hP hD hI => ?_)
  have hP : va_P D vwCl [(a, alC (md + 1) ea (nI n)), (ea, arO cy n f)] H := hP
  have hD : va_D A [(a, alC (md + 1) ea (nI n)), (ea, arO cy n f)] := hD
  refine lv_aload_n hx hb dJx4a65c_add_9ea2d_10 rfl (lv_at hl 0 rfl) ?_
  refine lv_aload_n hx hb dJx4a65c_add_9ea2d_11 rfl (lv_at hl 1 rfl) ?_
  refine lv_aload_n hx hb dJx4a65c_add_9ea2d_12 rfl (lv_at hl 0 rfl) ?_
  refine va_get (D := D) (ci := 0) (v := .ref ea) (C := RJx4a65c) (T := TJx4a65c) (N := 3) hx hb hts hin hown hK hP 0 rfl rfl 1 (by decide) k_9 (fun _ h => h) rfl dJx4a65c_add_9ea2d_13 ?_
  refine lv_aload_n hx hb dJx4a65c_add_9ea2d_16 rfl (lv_at hl 0 rfl) ?_
  refine va_get (D := D) (ci := 0) (v := .int (nI n)) (C := RJx4a65c) (T := TJx4a65c) (N := 3) hx hb hts hin hown hK hP 0 rfl rfl 2 (by decide) k_48 (fun _ h => h) rfl dJx4a65c_add_9ea2d_17 ?_
  have hF := va_free (wc := [(a, alC (md + 1) ea (nI n)), (ea, arO cy n f)]) hD hI hA [0, 1] rfl
  refine va_callv (va_runV (As := [.ref q, .ref ea, .int (nI n)]) (rest := []) ⟨hx, hb, hml, hown, hts⟩ (qAD3A l D cy e0 mi a ea n q H.size (md + 1) f P h2n hn hPf hq) (cwV 3 hts gJx4a65c_add_9ea2d_Jx4a65c_add_72be8 rfl rfl rfl (by decide +kernel) ⟨Nat.le_of_ble_eq_true rfl, Nat.le_of_ble_eq_true rfl⟩) ⟨AD_blind, va_recv hK hP (ci := 0) (q0 := 0) rfl rfl, AD_pre hAe hJ hI hP hD hA hE (.ref a :: [.ref q, .ref ea, .int (nI n)])⟩ rfl rfl hl.1 rfl (lv_room (Nat.le_of_ble_eq_true rfl)) dJx4a65c_add_9ea2d_20 ⟨Nat.le_of_ble_eq_true rfl, Nat.le_of_ble_eq_true rfl⟩) hI (fun q _ h => hF q h) hF (fun u t H1 locs ht hvm hw hB hz1 hk1 hI => ?_)
  obtain ⟨hP1, hD1⟩ := hB
  rw [ht] at hP1
  refine lv_iconst (v := 1) hx hb dJx4a65c_add_9ea2d_23 (by decide) ?_
  refine W.widen (k := 1) (n := 150) (by omega) (by omega) ?_
  exact W.zret (v := 1) (ty := .boolean) hx hb hr rfl (fun t9 ht9 hW9 => ⟨⟨1, u, rfl, ⟨rfl, hw⟩, by rw [ht9]; exact hP1, hD1.weaken (fun _ _ _ h => hF _ h)⟩, hI.F ht9⟩) hI.2.2 dJx4a65c_add_9ea2d_24
set_option maxHeartbeats 4000000 in
set_option maxRecDepth 100000 in
theorem qAD0 (l : Launch) (D : va_G) (cy : Nat → ClassId) (e0 mi : Nat) (a q sz : Nat) (md : Int32) (P : Nat → Prop) (hq : P q) : Met l yJx4a65c_add_9ea2d wsJx4a65c_add_9ea2d ({ frames := 4, cells := 1, slots := 150, locals := 126 } : Room) (va_Pc [.ref a, .ref q] (ADp D cy e0 mi [(a, alC md e0 (nI 0))] P sz)) (va_Qi (fun r u => r = 1 ∧ (fun (u : Int32 × Nat × Nat × (Nat → Option Nat)) => 0 + 1 ≤ u.2.2.1 ∧ 2 ≤ u.2.2.1 ∧ u.2.2.1 ≤ 150 ∧ u.2.2.2 0 = some q) u) (fun u t => va_P D vwCl [(a, alC u.1 u.2.1 (nI (0 + 1))), (u.2.1, arO cy u.2.2.1 u.2.2.2)] t.heap ∧ va_D (va_A [(a, alC md e0 (nI 0))] sz) [(a, alC u.1 u.2.1 (nI (0 + 1))), (u.2.1, arO cy u.2.2.1 u.2.2.2)]) (va_A [(a, alC md e0 (nI 0))] sz)) 1 150 (va_A [(a, alC md e0 (nI 0))] sz) := by
  refine Met.ofW (cc := cJx4a65c_add_9ea2d) (maxL := 2) (ret := (some .boolean)) (by decide) rfl ?_
  intro p e s m args below meth c s₁ B hml hv
  have hx := B.exec
  have hb := B.bytes
  have hr := B.returns
  have hts0 := atoms_spec (ws := wsJx4a65c_add_9ea2d) B.pre
  have hown : s.vm.findClass RJx4a65c = some m.cls := findClass_of_methodNamed B.named
  have hlocks := B.notSynchronized
  obtain ⟨rfl, hsz, hP, hJ, hD0, hE⟩ := hv
  have hK := hJ.1
  subst hsz
  have hD := hD0.self (sz := s.heap.size)
  generalize hAe : va_A [(a, alC md e0 (nI 0))] s.heap.size = A at hD hJ ⊢
  have hA : ∀ q : Nat, s.heap.size ≤ q → A q := fun q h => by rw [← hAe]; exact Or.inr h
  have hI : va_S A s.heap s.heap [] := va_S.rf
  have hin : ∀ w ∈ wsJx4a65c0, w ∈ wsJx4a65c_add_9ea2d := fun _ h => List.mem_cons_of_mem _ (List.mem_append_right _ (h))
  have k_48 := hts0 (.fieldLink RJx4a65c 48 "java/util/ArrayList" "size" "I") (List.mem_cons_of_mem _ (List.mem_append_left _ (List.mem_append_left _ (List.mem_of_getElem? (i := 3) rfl))))
  have k_63 := hts0 (.fieldLink RJx4a65c 63 "java/util/ArrayList" "modCount" "I") (List.mem_cons_of_mem _ (List.mem_append_left _ (List.mem_append_left _ (List.mem_of_getElem? (i := 0) rfl))))
  have ksf := hts0 (.sameField "java/util/ArrayList" "java/util/AbstractList" "modCount" "I") (List.mem_cons_of_mem _ (List.mem_append_left _ (List.mem_append_left _ (List.mem_of_getElem? (i := 1) rfl))))
  have k_9 := hts0 (.fieldLink RJx4a65c 9 "java/util/ArrayList" "elementData" "[Ljava/lang/Object;") (List.mem_cons_of_mem _ (List.mem_append_left _ (List.mem_append_left _ (List.mem_of_getElem? (i := 2) rfl))))
  have hts := hts0
  have hl := lv_entry ([.ref a, .ref q]) (n := 2) (Nat.le_of_ble_eq_true rfl)
  rw [lg_entry_eq]
  generalize (lg_sl ([.ref a, .ref q]) ++ List.replicate (2 - (lg_sl ([.ref a, .ref q])).length) Slot.unset).toArray = ls at hl ⊢
  have hl : lv_has ls 2 [(0, .ref a), (1, .ref q)] := hl
  refine lv_aload_n hx hb dJx4a65c_add_9ea2d_0 rfl (lv_at hl 0 rfl) ?_
  refine lv_dup hx hb dJx4a65c_add_9ea2d_1 rfl ?_
  refine va_get (D := D) (ci := 0) (v := .int md) (C := RJx4a65c) (T := TJx4a65c) (N := 3) hx hb hts hin hown hK hP 0 rfl rfl 0 (by decide) k_63 (sm_field ksf) rfl dJx4a65c_add_9ea2d_2 ?_
  refine lv_iconst (v := 1) hx hb dJx4a65c_add_9ea2d_5 (by decide) ?_
  refine lv_iadd hx hb dJx4a65c_add_9ea2d_6 ?_
  refine va_put (D := D) (ci := 0) (v := .int (md + 1)) (ty := .int) (C := RJx4a65c) (T := TJx4a65c) (N := 3) hx hb hts hin tyJx4a65c tyJx4a65c_ok nmJx4a65c hown hK hP hD hI 0 rfl rfl 0 (by decide) k_63 (sm_field ksf) rfl (by decide +kernel) rfl rfl (Nat.le_of_ble_eq_true rfl) dJx4a65c_add_9ea2d_7 (fun H locs hP hD hI => ?_)
  have hP : va_P D vwCl [(a, alC (md + 1) e0 (nI 0))] H := hP
  have hD : va_D A [(a, alC (md + 1) e0 (nI 0))] := hD
  refine lv_aload_n hx hb dJx4a65c_add_9ea2d_10 rfl (lv_at hl 0 rfl) ?_
  refine lv_aload_n hx hb dJx4a65c_add_9ea2d_11 rfl (lv_at hl 1 rfl) ?_
  refine lv_aload_n hx hb dJx4a65c_add_9ea2d_12 rfl (lv_at hl 0 rfl) ?_
  refine va_get (D := D) (ci := 0) (v := .ref e0) (C := RJx4a65c) (T := TJx4a65c) (N := 3) hx hb hts hin hown hK hP 0 rfl rfl 1 (by decide) k_9 (fun _ h => h) rfl dJx4a65c_add_9ea2d_13 ?_
  refine lv_aload_n hx hb dJx4a65c_add_9ea2d_16 rfl (lv_at hl 0 rfl) ?_
  refine va_get (D := D) (ci := 0) (v := .int (nI 0)) (C := RJx4a65c) (T := TJx4a65c) (N := 3) hx hb hts hin hown hK hP 0 rfl rfl 2 (by decide) k_48 (fun _ h => h) rfl dJx4a65c_add_9ea2d_17 ?_
  have hF := va_free (wc := [(a, alC (md + 1) e0 (nI 0))]) hD hI hA [0] rfl
  refine va_callv (va_runV (As := [.ref q, .ref e0, .int (nI 0)]) (rest := []) ⟨hx, hb, hml, hown, hts⟩ (qAD30 l D cy e0 mi a q H.size (md + 1) P hq) (cwV 3 hts gJx4a65c_add_9ea2d_Jx4a65c_add_72be8 rfl rfl rfl (by decide +kernel) ⟨Nat.le_of_ble_eq_true rfl, Nat.le_of_ble_eq_true rfl⟩) ⟨AD_blind, va_recv hK hP (ci := 0) (q0 := 0) rfl rfl, AD_pre hAe hJ hI hP hD hA hE (.ref a :: [.ref q, .ref e0, .int (nI 0)])⟩ rfl rfl hl.1 rfl (lv_room (Nat.le_of_ble_eq_true rfl)) dJx4a65c_add_9ea2d_20 ⟨Nat.le_of_ble_eq_true rfl, Nat.le_of_ble_eq_true rfl⟩) hI (fun q _ h => hF q h) hF (fun u t H1 locs ht hvm hw hB hz1 hk1 hI => ?_)
  obtain ⟨hP1, hD1⟩ := hB
  rw [ht] at hP1
  refine lv_iconst (v := 1) hx hb dJx4a65c_add_9ea2d_23 (by decide) ?_
  refine W.widen (k := 1) (n := 150) (by omega) (by omega) ?_
  exact W.zret (v := 1) (ty := .boolean) hx hb hr rfl (fun t9 ht9 hW9 => ⟨⟨1, u, rfl, ⟨rfl, hw⟩, by rw [ht9]; exact hP1, hD1.weaken (fun _ _ _ h => hF _ h)⟩, hI.F ht9⟩) hI.2.2 dJx4a65c_add_9ea2d_24
