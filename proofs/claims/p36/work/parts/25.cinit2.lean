/-! constructors -/
set_option maxHeartbeats 4000000 in
/-- Arrays.fill of an int array -/
theorem qfill (l : Launch) (D : va_G) (cy : Nat → ClassId) (a N : Nat) (hN : N < 2 ^ 31) (f : Nat → Int32) (x : Int32) : Met l yJ7_fill_53178 wsJ7_fill_53178 ({ frames := 0, cells := 0, slots := 0, locals := 0 } : Room) (va_Pc [.ref a, .int x] (fun U => at1 D a (arI cy N f) U.heap ∧ KK D cy U)) (va_Qv (fun _ : Unit => True) (fun _ t => at1 D a (arI cy N (fun _ => x)) t.heap) (fun z => z = a)) 0 0 (fun z => z = a) := by
  refine Met.ofW (cc := cJ7_fill_53178) (maxL := 4) (ret := none) (by decide) rfl ?_
  intro p e s m args below meth c s₁ B hml hv
  obtain ⟨rfl, hM, hK⟩ := hv
  have hx := B.exec
  have hb := B.bytes
  have hr := B.returns
  have hlocks := B.notSynchronized
  have hl := lv_entry ([.ref a, .int x]) (n := 4) (Nat.le_of_ble_eq_true rfl)
  rw [lg_entry_eq]
  generalize (lg_sl ([.ref a, .int x]) ++ List.replicate (4 - (lg_sl ([.ref a, .int x])).length) Slot.unset).toArray = ls at hl ⊢
  have hl : lv_has ls 4 [(0, .ref a), (1, .int x)] := hl
  refine lv_iconst (v := 0) hx hb dJ7_fill_53178_0 (by decide) ?_
  refine lv_istore_n (lv' := [(2, .int 0), (0, .ref a), (1, .int x)]) hx hb dJ7_fill_53178_1 rfl hl (by decide) rfl (fun ls hl => ?_)
  refine lv_aload_n hx hb dJ7_fill_53178_2 rfl (lv_at hl 1 rfl) ?_
  refine ww_alen (v := nI N) hx hb hK 0 hM rfl rfl dJ7_fill_53178_3 ?_
  refine lv_istore_n (lv' := [(3, .int (nI N)), (2, .int 0), (0, .ref a), (1, .int x)]) hx hb dJ7_fill_53178_4 rfl hl (by decide) rfl (fun ls hl => ?_)
  refine w_loop (σ := Unit) N 5 (fun i z H locs ls => at1 D a (arI cy N (fun j => if j < i then x else f j)) H ∧ va_S (fun z => z = a) s.heap H locs ∧ lv_has ls 4 [(3, .int (nI N)), (2, .int (nI i)), (0, .ref a), (1, .int x)]) ?_ () ⟨arI_congr (fun t _ => by simp) hM, va_S.rf, hl⟩
  intro i z H locs ls ⟨hO, hS, hl⟩ hi ih
  refine lv_iload_n hx hb dJ7_fill_53178_5 rfl (lv_at hl 1 rfl) ?_
  refine lv_iload_n hx hb dJ7_fill_53178_6 rfl (lv_at hl 0 rfl) ?_
  refine lv_icmp_ge (tgt := 20) hx hb dJ7_fill_53178_7 (by decide) (fun c => ?_) (fun c => ?_)
  · obtain rfl : i = N := w_exit rfl hi hN c
    exact W.vret hx hb hr (fun t9 ht9 hW9 => ⟨⟨(), rfl, trivial, by show at1 D a _ t9.heap; rw [ht9]; exact arI_congr (fun t ht => if_pos ht) hO⟩, hS.F ht9⟩) hS.2.2 dJ7_fill_53178_20
  · have hlt : i < N := w_in rfl hi hN c
    refine lv_aload_n hx hb dJ7_fill_53178_10 rfl (lv_at hl 2 rfl) ?_
    refine lv_iload_n hx hb dJ7_fill_53178_11 rfl (lv_at hl 1 rfl) ?_
    refine lv_iload_n hx hb dJ7_fill_53178_12 rfl (lv_at hl 3 rfl) ?_
    refine ww_iast hx hb hK 0 hO rfl (vp_in_nI hlt hN) dJ7_fill_53178_13 (fun H j h1 z oq => ?_)
    rw [nI_clamp (by omega), fill_in] at h1
    have hS := S_put j hS z oq rfl
    refine lv_iinc (v := (nI (i + 1))) (lv' := [(2, .int (nI (i + 1))), (3, .int (nI N)), (0, .ref a), (1, .int x)]) hx hb dJ7_fill_53178_14 hl (k := 1) rfl (nI_1 i) (by decide) rfl (fun ls hl => ?_)
    refine lv_goto (tgt := 5) hx hb dJ7_fill_53178_17 (by decide) ?_
    exact ih () _ _ ls hlt ⟨h1, hS, lv_sub hl [1, 0, 2, 3] rfl⟩

set_option maxHeartbeats 4000000 in
set_option maxRecDepth 100000 in
theorem qX0_init (l : Launch) (D : va_G) (cy : Nat → ClassId) (q : Nat) (a0 : Int32) (a1 : Int32) (a2 : Int32) : CInit l D cy yX0_init wsX0_init ({ frames := 1, cells := 0, slots := 0, locals := 19 } : Room) q [.int a0, .int a1, .int a2] 1 [.int 0, .int 0, .int 0, .int 0] [.int a0, .int a1, .int a2, .int (-1)] := by
  refine Met.ofW (cc := cX0_init) (maxL := 4) (ret := none) (by decide) rfl ?_
  intro p e s m args below meth c s₁ B hml hv
  obtain ⟨rfl, hO, hK⟩ := hv
  have hx := B.exec
  have hb := B.bytes
  have hr := B.returns
  have hts := atoms_spec (ws := wsX0_init) B.pre
  have hown : s.vm.findClass RX0 = some m.cls := findClass_of_methodNamed B.named
  have hlocks := B.notSynchronized
  have hini : meth.name = "<init>" := (name_of_methodNamed B.named B.method).1
  have hC : CC p s m _ c cX0_init 4 RX0 D cy wsX0_init := ⟨⟨hx, hb, hml, hown, hts⟩, hK⟩
  have hS : va_S (fun z => z = q) s.heap s.heap [] := va_S.rf
  have ko1 := hts (.methodLink RX0 3 objectInit) (List.mem_cons_of_mem _ (List.mem_append_left _ (List.mem_of_getElem? (i := 0) rfl)))
  have ko2 := hts (.instanceMethod objectInit) (List.mem_cons_of_mem _ (List.mem_append_left _ (List.mem_of_getElem? (i := 1) rfl)))
  have ko3 := hts (.code objectInit ⟨#[0xb1]⟩ 1 none) (List.mem_cons_of_mem _ (List.mem_append_left _ (List.mem_of_getElem? (i := 2) rfl)))
  have k_9 := hts (.fieldLink RX0 9 "RelatorsBench$Claim" "paidBy" "I") (List.mem_cons_of_mem _ (List.mem_append_left _ (List.mem_of_getElem? (i := 3) rfl)))
  have hinX0 : ∀ w ∈ wsX00, w ∈ wsX0_init := fun _ h => List.mem_cons_of_mem _ (List.mem_append_right _ (h))
  have k_15 := hts (.fieldLink RX0 15 "RelatorsBench$Claim" "scheme" "I") (List.mem_cons_of_mem _ (List.mem_append_left _ (List.mem_of_getElem? (i := 4) rfl)))
  have k_18 := hts (.fieldLink RX0 18 "RelatorsBench$Claim" "amount" "I") (List.mem_cons_of_mem _ (List.mem_append_left _ (List.mem_of_getElem? (i := 5) rfl)))
  have k_21 := hts (.fieldLink RX0 21 "RelatorsBench$Claim" "day" "I") (List.mem_cons_of_mem _ (List.mem_append_left _ (List.mem_of_getElem? (i := 6) rfl)))
  have hl := lv_entry ([.ref q, .int a0, .int a1, .int a2]) (n := 4) (Nat.le_of_ble_eq_true rfl)
  rw [lg_entry_eq]
  generalize (lg_sl ([.ref q, .int a0, .int a1, .int a2]) ++ List.replicate (4 - (lg_sl ([.ref q, .int a0, .int a1, .int a2])).length) Slot.unset).toArray = ls at hl ⊢
  have hl : lv_has ls 4 [(0, .ref q), (1, .int a0), (2, .int a1), (3, .int a2)] := hl
  refine lv_aload_n hx hb dX0_init_0 rfl (lv_at hl 0 rfl) ?_
  refine oi_obj (a := q) hC ko1 ko2 ko3 hl.1 (Nat.le_of_ble_eq_true rfl) (Nat.le_of_ble_eq_true rfl) dX0_init_1 ?_
  refine lv_aload_n hx hb dX0_init_4 rfl (lv_at hl 0 rfl) ?_
  refine lv_iconst (v := (-1)) hx hb dX0_init_5 (by decide) ?_
  refine oi_put (ty := .int) hC hO hS rfl rfl hinX0 tyX0 tyX0_ok nmX0 3 (by decide) k_9 (fun _ h => h) (Or.inl rfl) (by decide +kernel) rfl rfl (Nat.le_of_ble_eq_true rfl) dX0_init_6 (fun H locs hO hq hz hS => ?_)
  have hO : at1 D q (.inr (1, [.int 0, .int 0, .int 0, .int (-1)])) H := hO
  refine lv_aload_n hx hb dX0_init_9 rfl (lv_at hl 0 rfl) ?_
  refine lv_iload_n hx hb dX0_init_10 rfl (lv_at hl 1 rfl) ?_
  refine oi_put (ty := .int) hC hO hS rfl rfl hinX0 tyX0 tyX0_ok nmX0 0 (by decide) k_15 (fun _ h => h) (Or.inr ⟨rfl, hini, rfl⟩) (by decide +kernel) rfl rfl (Nat.le_of_ble_eq_true rfl) dX0_init_11 (fun H locs hO hq hz hS => ?_)
  have hO : at1 D q (.inr (1, [.int a0, .int 0, .int 0, .int (-1)])) H := hO
  refine lv_aload_n hx hb dX0_init_14 rfl (lv_at hl 0 rfl) ?_
  refine lv_iload_n hx hb dX0_init_15 rfl (lv_at hl 2 rfl) ?_
  refine oi_put (ty := .int) hC hO hS rfl rfl hinX0 tyX0 tyX0_ok nmX0 1 (by decide) k_18 (fun _ h => h) (Or.inr ⟨rfl, hini, rfl⟩) (by decide +kernel) rfl rfl (Nat.le_of_ble_eq_true rfl) dX0_init_16 (fun H locs hO hq hz hS => ?_)
  have hO : at1 D q (.inr (1, [.int a0, .int a1, .int 0, .int (-1)])) H := hO
  refine lv_aload_n hx hb dX0_init_19 rfl (lv_at hl 0 rfl) ?_
  refine lv_iload_n hx hb dX0_init_20 rfl (lv_at hl 3 rfl) ?_
  refine oi_put (ty := .int) hC hO hS rfl rfl hinX0 tyX0 tyX0_ok nmX0 2 (by decide) k_21 (fun _ h => h) (Or.inr ⟨rfl, hini, rfl⟩) (by decide +kernel) rfl rfl (Nat.le_of_ble_eq_true rfl) dX0_init_21 (fun H locs hO hq hz hS => ?_)
  have hO : at1 D q (.inr (1, [.int a0, .int a1, .int a2, .int (-1)])) H := hO
  exact W.vret hx hb hr (fun t9 ht9 hW9 => ⟨⟨(), rfl, trivial, by show at1 D q _ t9.heap; rw [ht9]; exact hO⟩, hS.F ht9⟩) hS.2.2 dX0_init_24
set_option maxHeartbeats 4000000 in
set_option maxRecDepth 100000 in
theorem qX1_init (l : Launch) (D : va_G) (cy : Nat → ClassId) (q : Nat) (a0 : Int32) (a1 : Int32) (a2 : Int32) (a3 : Int32) : CInit l D cy yX1_init wsX1_init ({ frames := 1, cells := 0, slots := 0, locals := 19 } : Room) q [.int a0, .int a1, .int a2, .int a3] 2 [.int 0, .int 0, .int 0, .int 0] [.int a0, .int a1, .int a2, .int a3] := by
  refine Met.ofW (cc := cX1_init) (maxL := 5) (ret := none) (by decide) rfl ?_
  intro p e s m args below meth c s₁ B hml hv
  obtain ⟨rfl, hO, hK⟩ := hv
  have hx := B.exec
  have hb := B.bytes
  have hr := B.returns
  have hts := atoms_spec (ws := wsX1_init) B.pre
  have hown : s.vm.findClass RX1 = some m.cls := findClass_of_methodNamed B.named
  have hlocks := B.notSynchronized
  have hini : meth.name = "<init>" := (name_of_methodNamed B.named B.method).1
  have hC : CC p s m _ c cX1_init 5 RX1 D cy wsX1_init := ⟨⟨hx, hb, hml, hown, hts⟩, hK⟩
  have hS : va_S (fun z => z = q) s.heap s.heap [] := va_S.rf
  have ko1 := hts (.methodLink RX1 1 objectInit) (List.mem_cons_of_mem _ (List.mem_append_left _ (List.mem_of_getElem? (i := 0) rfl)))
  have ko2 := hts (.instanceMethod objectInit) (List.mem_cons_of_mem _ (List.mem_append_left _ (List.mem_of_getElem? (i := 1) rfl)))
  have ko3 := hts (.code objectInit ⟨#[0xb1]⟩ 1 none) (List.mem_cons_of_mem _ (List.mem_append_left _ (List.mem_of_getElem? (i := 2) rfl)))
  have k_7 := hts (.fieldLink RX1 7 "RelatorsBench$Deal" "teller" "I") (List.mem_cons_of_mem _ (List.mem_append_left _ (List.mem_of_getElem? (i := 3) rfl)))
  have hinX1 : ∀ w ∈ wsX10, w ∈ wsX1_init := fun _ h => List.mem_cons_of_mem _ (List.mem_append_right _ (h))
  have k_13 := hts (.fieldLink RX1 13 "RelatorsBench$Deal" "other" "I") (List.mem_cons_of_mem _ (List.mem_append_left _ (List.mem_of_getElem? (i := 4) rfl)))
  have k_16 := hts (.fieldLink RX1 16 "RelatorsBench$Deal" "hundredths" "I") (List.mem_cons_of_mem _ (List.mem_append_left _ (List.mem_of_getElem? (i := 5) rfl)))
  have k_19 := hts (.fieldLink RX1 19 "RelatorsBench$Deal" "day" "I") (List.mem_cons_of_mem _ (List.mem_append_left _ (List.mem_of_getElem? (i := 6) rfl)))
  have hl := lv_entry ([.ref q, .int a0, .int a1, .int a2, .int a3]) (n := 5) (Nat.le_of_ble_eq_true rfl)
  rw [lg_entry_eq]
  generalize (lg_sl ([.ref q, .int a0, .int a1, .int a2, .int a3]) ++ List.replicate (5 - (lg_sl ([.ref q, .int a0, .int a1, .int a2, .int a3])).length) Slot.unset).toArray = ls at hl ⊢
  have hl : lv_has ls 5 [(0, .ref q), (1, .int a0), (2, .int a1), (3, .int a2), (4, .int a3)] := hl
  refine lv_aload_n hx hb dX1_init_0 rfl (lv_at hl 0 rfl) ?_
  refine oi_obj (a := q) hC ko1 ko2 ko3 hl.1 (Nat.le_of_ble_eq_true rfl) (Nat.le_of_ble_eq_true rfl) dX1_init_1 ?_
  refine lv_aload_n hx hb dX1_init_4 rfl (lv_at hl 0 rfl) ?_
  refine lv_iload_n hx hb dX1_init_5 rfl (lv_at hl 1 rfl) ?_
  refine oi_put (ty := .int) hC hO hS rfl rfl hinX1 tyX1 tyX1_ok nmX1 0 (by decide) k_7 (fun _ h => h) (Or.inr ⟨rfl, hini, rfl⟩) (by decide +kernel) rfl rfl (Nat.le_of_ble_eq_true rfl) dX1_init_6 (fun H locs hO hq hz hS => ?_)
  have hO : at1 D q (.inr (2, [.int a0, .int 0, .int 0, .int 0])) H := hO
  refine lv_aload_n hx hb dX1_init_9 rfl (lv_at hl 0 rfl) ?_
  refine lv_iload_n hx hb dX1_init_10 rfl (lv_at hl 2 rfl) ?_
  refine oi_put (ty := .int) hC hO hS rfl rfl hinX1 tyX1 tyX1_ok nmX1 1 (by decide) k_13 (fun _ h => h) (Or.inr ⟨rfl, hini, rfl⟩) (by decide +kernel) rfl rfl (Nat.le_of_ble_eq_true rfl) dX1_init_11 (fun H locs hO hq hz hS => ?_)
  have hO : at1 D q (.inr (2, [.int a0, .int a1, .int 0, .int 0])) H := hO
  refine lv_aload_n hx hb dX1_init_14 rfl (lv_at hl 0 rfl) ?_
  refine lv_iload_n hx hb dX1_init_15 rfl (lv_at hl 3 rfl) ?_
  refine oi_put (ty := .int) hC hO hS rfl rfl hinX1 tyX1 tyX1_ok nmX1 2 (by decide) k_16 (fun _ h => h) (Or.inr ⟨rfl, hini, rfl⟩) (by decide +kernel) rfl rfl (Nat.le_of_ble_eq_true rfl) dX1_init_16 (fun H locs hO hq hz hS => ?_)
  have hO : at1 D q (.inr (2, [.int a0, .int a1, .int a2, .int 0])) H := hO
  refine lv_aload_n hx hb dX1_init_19 rfl (lv_at hl 0 rfl) ?_
  refine lv_iload hx hb dX1_init_20 (lv_at hl 4 rfl) ?_
  refine oi_put (ty := .int) hC hO hS rfl rfl hinX1 tyX1 tyX1_ok nmX1 3 (by decide) k_19 (fun _ h => h) (Or.inr ⟨rfl, hini, rfl⟩) (by decide +kernel) rfl rfl (Nat.le_of_ble_eq_true rfl) dX1_init_22 (fun H locs hO hq hz hS => ?_)
  have hO : at1 D q (.inr (2, [.int a0, .int a1, .int a2, .int a3])) H := hO
  exact W.vret hx hb hr (fun t9 ht9 hW9 => ⟨⟨(), rfl, trivial, by show at1 D q _ t9.heap; rw [ht9]; exact hO⟩, hS.F ht9⟩) hS.2.2 dX1_init_25
set_option maxHeartbeats 4000000 in
set_option maxRecDepth 100000 in
theorem qX3_init (l : Launch) (D : va_G) (cy : Nat → ClassId) (q : Nat) (a0 : Int32) (a1 : Int32) : CInit l D cy yX3_init wsX3_init ({ frames := 1, cells := 0, slots := 0, locals := 19 } : Room) q [.int a0, .int a1] 4 [.int 0, .int 0] [.int a0, .int a1] := by
  refine Met.ofW (cc := cX3_init) (maxL := 3) (ret := none) (by decide) rfl ?_
  intro p e s m args below meth c s₁ B hml hv
  obtain ⟨rfl, hO, hK⟩ := hv
  have hx := B.exec
  have hb := B.bytes
  have hr := B.returns
  have hts := atoms_spec (ws := wsX3_init) B.pre
  have hown : s.vm.findClass RX3 = some m.cls := findClass_of_methodNamed B.named
  have hlocks := B.notSynchronized
  have hini : meth.name = "<init>" := (name_of_methodNamed B.named B.method).1
  have hC : CC p s m _ c cX3_init 3 RX3 D cy wsX3_init := ⟨⟨hx, hb, hml, hown, hts⟩, hK⟩
  have hS : va_S (fun z => z = q) s.heap s.heap [] := va_S.rf
  have ko1 := hts (.methodLink RX3 1 objectInit) (List.mem_cons_of_mem _ (List.mem_append_left _ (List.mem_of_getElem? (i := 0) rfl)))
  have ko2 := hts (.instanceMethod objectInit) (List.mem_cons_of_mem _ (List.mem_append_left _ (List.mem_of_getElem? (i := 1) rfl)))
  have ko3 := hts (.code objectInit ⟨#[0xb1]⟩ 1 none) (List.mem_cons_of_mem _ (List.mem_append_left _ (List.mem_of_getElem? (i := 2) rfl)))
  have k_7 := hts (.fieldLink RX3 7 "RelatorsBench$Paper" "facts" "I") (List.mem_cons_of_mem _ (List.mem_append_left _ (List.mem_of_getElem? (i := 3) rfl)))
  have hinX3 : ∀ w ∈ wsX30, w ∈ wsX3_init := fun _ h => List.mem_cons_of_mem _ (List.mem_append_right _ (h))
  have k_13 := hts (.fieldLink RX3 13 "RelatorsBench$Paper" "day" "I") (List.mem_cons_of_mem _ (List.mem_append_left _ (List.mem_of_getElem? (i := 4) rfl)))
  have hl := lv_entry ([.ref q, .int a0, .int a1]) (n := 3) (Nat.le_of_ble_eq_true rfl)
  rw [lg_entry_eq]
  generalize (lg_sl ([.ref q, .int a0, .int a1]) ++ List.replicate (3 - (lg_sl ([.ref q, .int a0, .int a1])).length) Slot.unset).toArray = ls at hl ⊢
  have hl : lv_has ls 3 [(0, .ref q), (1, .int a0), (2, .int a1)] := hl
  refine lv_aload_n hx hb dX3_init_0 rfl (lv_at hl 0 rfl) ?_
  refine oi_obj (a := q) hC ko1 ko2 ko3 hl.1 (Nat.le_of_ble_eq_true rfl) (Nat.le_of_ble_eq_true rfl) dX3_init_1 ?_
  refine lv_aload_n hx hb dX3_init_4 rfl (lv_at hl 0 rfl) ?_
  refine lv_iload_n hx hb dX3_init_5 rfl (lv_at hl 1 rfl) ?_
  refine oi_put (ty := .int) hC hO hS rfl rfl hinX3 tyX3 tyX3_ok nmX3 0 (by decide) k_7 (fun _ h => h) (Or.inr ⟨rfl, hini, rfl⟩) (by decide +kernel) rfl rfl (Nat.le_of_ble_eq_true rfl) dX3_init_6 (fun H locs hO hq hz hS => ?_)
  have hO : at1 D q (.inr (4, [.int a0, .int 0])) H := hO
  refine lv_aload_n hx hb dX3_init_9 rfl (lv_at hl 0 rfl) ?_
  refine lv_iload_n hx hb dX3_init_10 rfl (lv_at hl 2 rfl) ?_
  refine oi_put (ty := .int) hC hO hS rfl rfl hinX3 tyX3 tyX3_ok nmX3 1 (by decide) k_13 (fun _ h => h) (Or.inr ⟨rfl, hini, rfl⟩) (by decide +kernel) rfl rfl (Nat.le_of_ble_eq_true rfl) dX3_init_11 (fun H locs hO hq hz hS => ?_)
  have hO : at1 D q (.inr (4, [.int a0, .int a1])) H := hO
  exact W.vret hx hb hr (fun t9 ht9 hW9 => ⟨⟨(), rfl, trivial, by show at1 D q _ t9.heap; rw [ht9]; exact hO⟩, hS.F ht9⟩) hS.2.2 dX3_init_14
set_option maxHeartbeats 4000000 in
set_option maxRecDepth 100000 in
theorem qX4_init (l : Launch) (D : va_G) (cy : Nat → ClassId) (q : Nat) (a0 : Int32) (a1 : Int32) (a2 : Int32) (a3 : Int32) : CInit l D cy yX4_init wsX4_init ({ frames := 1, cells := 0, slots := 0, locals := 19 } : Room) q [.int a0, .int a1, .int a2, .int a3] 5 [.int 0, .int 0, .int 0, .int 0, .int 0, .int 0, .int 0, .int 0, .int 0] [.int a0, .int a1, .int a2, .int a3, .int 1, .int 0, .int (-1), .int 0, .int 0] := by
  refine Met.ofW (cc := cX4_init) (maxL := 5) (ret := none) (by decide) rfl ?_
  intro p e s m args below meth c s₁ B hml hv
  obtain ⟨rfl, hO, hK⟩ := hv
  have hx := B.exec
  have hb := B.bytes
  have hr := B.returns
  have hts := atoms_spec (ws := wsX4_init) B.pre
  have hown : s.vm.findClass RX4 = some m.cls := findClass_of_methodNamed B.named
  have hlocks := B.notSynchronized
  have hini : meth.name = "<init>" := (name_of_methodNamed B.named B.method).1
  have hC : CC p s m _ c cX4_init 5 RX4 D cy wsX4_init := ⟨⟨hx, hb, hml, hown, hts⟩, hK⟩
  have hS : va_S (fun z => z = q) s.heap s.heap [] := va_S.rf
  have ko1 := hts (.methodLink RX4 3 objectInit) (List.mem_cons_of_mem _ (List.mem_append_left _ (List.mem_of_getElem? (i := 0) rfl)))
  have ko2 := hts (.instanceMethod objectInit) (List.mem_cons_of_mem _ (List.mem_append_left _ (List.mem_of_getElem? (i := 1) rfl)))
  have ko3 := hts (.code objectInit ⟨#[0xb1]⟩ 1 none) (List.mem_cons_of_mem _ (List.mem_append_left _ (List.mem_of_getElem? (i := 2) rfl)))
  have k_9 := hts (.fieldLink RX4 9 "RelatorsBench$Scheme" "looked" "I") (List.mem_cons_of_mem _ (List.mem_append_left _ (List.mem_of_getElem? (i := 3) rfl)))
  have hinX4 : ∀ w ∈ wsX40, w ∈ wsX4_init := fun _ h => List.mem_cons_of_mem _ (List.mem_append_right _ (h))
  have k_15 := hts (.fieldLink RX4 15 "RelatorsBench$Scheme" "wrong" "I") (List.mem_cons_of_mem _ (List.mem_append_left _ (List.mem_of_getElem? (i := 4) rfl)))
  have k_18 := hts (.fieldLink RX4 18 "RelatorsBench$Scheme" "knownFrom" "I") (List.mem_cons_of_mem _ (List.mem_append_left _ (List.mem_of_getElem? (i := 5) rfl)))
  have k_21 := hts (.fieldLink RX4 21 "RelatorsBench$Scheme" "isAdmitted" "Z") (List.mem_cons_of_mem _ (List.mem_append_left _ (List.mem_of_getElem? (i := 6) rfl)))
  have k_25 := hts (.fieldLink RX4 25 "RelatorsBench$Scheme" "planners" "I") (List.mem_cons_of_mem _ (List.mem_append_left _ (List.mem_of_getElem? (i := 7) rfl)))
  have k_28 := hts (.fieldLink RX4 28 "RelatorsBench$Scheme" "number" "I") (List.mem_cons_of_mem _ (List.mem_append_left _ (List.mem_of_getElem? (i := 8) rfl)))
  have k_31 := hts (.fieldLink RX4 31 "RelatorsBench$Scheme" "firm" "I") (List.mem_cons_of_mem _ (List.mem_append_left _ (List.mem_of_getElem? (i := 9) rfl)))
  have k_34 := hts (.fieldLink RX4 34 "RelatorsBench$Scheme" "facts" "I") (List.mem_cons_of_mem _ (List.mem_append_left _ (List.mem_of_getElem? (i := 10) rfl)))
  have k_37 := hts (.fieldLink RX4 37 "RelatorsBench$Scheme" "ground" "I") (List.mem_cons_of_mem _ (List.mem_append_left _ (List.mem_of_getElem? (i := 11) rfl)))
  have hl := lv_entry ([.ref q, .int a0, .int a1, .int a2, .int a3]) (n := 5) (Nat.le_of_ble_eq_true rfl)
  rw [lg_entry_eq]
  generalize (lg_sl ([.ref q, .int a0, .int a1, .int a2, .int a3]) ++ List.replicate (5 - (lg_sl ([.ref q, .int a0, .int a1, .int a2, .int a3])).length) Slot.unset).toArray = ls at hl ⊢
  have hl : lv_has ls 5 [(0, .ref q), (1, .int a0), (2, .int a1), (3, .int a2), (4, .int a3)] := hl
  refine lv_aload_n hx hb dX4_init_0 rfl (lv_at hl 0 rfl) ?_
  refine oi_obj (a := q) hC ko1 ko2 ko3 hl.1 (Nat.le_of_ble_eq_true rfl) (Nat.le_of_ble_eq_true rfl) dX4_init_1 ?_
  refine lv_aload_n hx hb dX4_init_4 rfl (lv_at hl 0 rfl) ?_
  refine lv_iconst (v := 1) hx hb dX4_init_5 (by decide) ?_
  refine oi_put (ty := .int) hC hO hS rfl rfl hinX4 tyX4 tyX4_ok nmX4 4 (by decide) k_9 (fun _ h => h) (Or.inl rfl) (by decide +kernel) rfl rfl (Nat.le_of_ble_eq_true rfl) dX4_init_6 (fun H locs hO hq hz hS => ?_)
  have hO : at1 D q (.inr (5, [.int 0, .int 0, .int 0, .int 0, .int 1, .int 0, .int 0, .int 0, .int 0])) H := hO
  refine lv_aload_n hx hb dX4_init_9 rfl (lv_at hl 0 rfl) ?_
  refine lv_iconst (v := 0) hx hb dX4_init_10 (by decide) ?_
  refine oi_put (ty := .int) hC hO hS rfl rfl hinX4 tyX4 tyX4_ok nmX4 5 (by decide) k_15 (fun _ h => h) (Or.inl rfl) (by decide +kernel) rfl rfl (Nat.le_of_ble_eq_true rfl) dX4_init_11 (fun H locs hO hq hz hS => ?_)
  have hO : at1 D q (.inr (5, [.int 0, .int 0, .int 0, .int 0, .int 1, .int 0, .int 0, .int 0, .int 0])) H := hO
  refine lv_aload_n hx hb dX4_init_14 rfl (lv_at hl 0 rfl) ?_
  refine lv_iconst (v := (-1)) hx hb dX4_init_15 (by decide) ?_
  refine oi_put (ty := .int) hC hO hS rfl rfl hinX4 tyX4 tyX4_ok nmX4 6 (by decide) k_18 (fun _ h => h) (Or.inl rfl) (by decide +kernel) rfl rfl (Nat.le_of_ble_eq_true rfl) dX4_init_16 (fun H locs hO hq hz hS => ?_)
  have hO : at1 D q (.inr (5, [.int 0, .int 0, .int 0, .int 0, .int 1, .int 0, .int (-1), .int 0, .int 0])) H := hO
  refine lv_aload_n hx hb dX4_init_19 rfl (lv_at hl 0 rfl) ?_
  refine lv_iconst (v := 0) hx hb dX4_init_20 (by decide) ?_
  refine oi_put (ty := .boolean) hC hO hS rfl rfl hinX4 tyX4 tyX4_ok nmX4 7 (by decide) k_21 (fun _ h => h) (Or.inl rfl) (by decide +kernel) rfl rfl (Nat.le_of_ble_eq_true rfl) dX4_init_21 (fun H locs hO hq hz hS => ?_)
  have hO : at1 D q (.inr (5, [.int 0, .int 0, .int 0, .int 0, .int 1, .int 0, .int (-1), .int 0, .int 0])) H := hO
  refine lv_aload_n hx hb dX4_init_24 rfl (lv_at hl 0 rfl) ?_
  refine lv_iconst (v := 0) hx hb dX4_init_25 (by decide) ?_
  refine oi_put (ty := .int) hC hO hS rfl rfl hinX4 tyX4 tyX4_ok nmX4 8 (by decide) k_25 (fun _ h => h) (Or.inl rfl) (by decide +kernel) rfl rfl (Nat.le_of_ble_eq_true rfl) dX4_init_26 (fun H locs hO hq hz hS => ?_)
  have hO : at1 D q (.inr (5, [.int 0, .int 0, .int 0, .int 0, .int 1, .int 0, .int (-1), .int 0, .int 0])) H := hO
  refine lv_aload_n hx hb dX4_init_29 rfl (lv_at hl 0 rfl) ?_
  refine lv_iload_n hx hb dX4_init_30 rfl (lv_at hl 1 rfl) ?_
  refine oi_put (ty := .int) hC hO hS rfl rfl hinX4 tyX4 tyX4_ok nmX4 0 (by decide) k_28 (fun _ h => h) (Or.inr ⟨rfl, hini, rfl⟩) (by decide +kernel) rfl rfl (Nat.le_of_ble_eq_true rfl) dX4_init_31 (fun H locs hO hq hz hS => ?_)
  have hO : at1 D q (.inr (5, [.int a0, .int 0, .int 0, .int 0, .int 1, .int 0, .int (-1), .int 0, .int 0])) H := hO
  refine lv_aload_n hx hb dX4_init_34 rfl (lv_at hl 0 rfl) ?_
  refine lv_iload_n hx hb dX4_init_35 rfl (lv_at hl 2 rfl) ?_
  refine oi_put (ty := .int) hC hO hS rfl rfl hinX4 tyX4 tyX4_ok nmX4 1 (by decide) k_31 (fun _ h => h) (Or.inr ⟨rfl, hini, rfl⟩) (by decide +kernel) rfl rfl (Nat.le_of_ble_eq_true rfl) dX4_init_36 (fun H locs hO hq hz hS => ?_)
  have hO : at1 D q (.inr (5, [.int a0, .int a1, .int 0, .int 0, .int 1, .int 0, .int (-1), .int 0, .int 0])) H := hO
  refine lv_aload_n hx hb dX4_init_39 rfl (lv_at hl 0 rfl) ?_
  refine lv_iload_n hx hb dX4_init_40 rfl (lv_at hl 3 rfl) ?_
  refine oi_put (ty := .int) hC hO hS rfl rfl hinX4 tyX4 tyX4_ok nmX4 2 (by decide) k_34 (fun _ h => h) (Or.inr ⟨rfl, hini, rfl⟩) (by decide +kernel) rfl rfl (Nat.le_of_ble_eq_true rfl) dX4_init_41 (fun H locs hO hq hz hS => ?_)
  have hO : at1 D q (.inr (5, [.int a0, .int a1, .int a2, .int 0, .int 1, .int 0, .int (-1), .int 0, .int 0])) H := hO
  refine lv_aload_n hx hb dX4_init_44 rfl (lv_at hl 0 rfl) ?_
  refine lv_iload hx hb dX4_init_45 (lv_at hl 4 rfl) ?_
  refine oi_put (ty := .int) hC hO hS rfl rfl hinX4 tyX4 tyX4_ok nmX4 3 (by decide) k_37 (fun _ h => h) (Or.inr ⟨rfl, hini, rfl⟩) (by decide +kernel) rfl rfl (Nat.le_of_ble_eq_true rfl) dX4_init_47 (fun H locs hO hq hz hS => ?_)
  have hO : at1 D q (.inr (5, [.int a0, .int a1, .int a2, .int a3, .int 1, .int 0, .int (-1), .int 0, .int 0])) H := hO
  exact W.vret hx hb hr (fun t9 ht9 hW9 => ⟨⟨(), rfl, trivial, by show at1 D q _ t9.heap; rw [ht9]; exact hO⟩, hS.F ht9⟩) hS.2.2 dX4_init_50
set_option maxHeartbeats 4000000 in
set_option maxRecDepth 100000 in
theorem qX6_init (l : Launch) (D : va_G) (cy : Nat → ClassId) (q : Nat) : CInit l D cy yX6_init wsX6_init ({ frames := 1, cells := 0, slots := 0, locals := 19 } : Room) q [] 7 [.int 0, .int 0, .int 0, .int 0, .int 0, .int 0, .int 0] [.int 0, .int 0, .int (-1), .int 0, .int 0, .int 0, .int 0] := by
  refine Met.ofW (cc := cX6_init) (maxL := 1) (ret := none) (by decide) rfl ?_
  intro p e s m args below meth c s₁ B hml hv
  obtain ⟨rfl, hO, hK⟩ := hv
  have hx := B.exec
  have hb := B.bytes
  have hr := B.returns
  have hts := atoms_spec (ws := wsX6_init) B.pre
  have hown : s.vm.findClass RX6 = some m.cls := findClass_of_methodNamed B.named
  have hlocks := B.notSynchronized
  have hini : meth.name = "<init>" := (name_of_methodNamed B.named B.method).1
  have hC : CC p s m _ c cX6_init 1 RX6 D cy wsX6_init := ⟨⟨hx, hb, hml, hown, hts⟩, hK⟩
  have hS : va_S (fun z => z = q) s.heap s.heap [] := va_S.rf
  have ko1 := hts (.methodLink RX6 3 objectInit) (List.mem_cons_of_mem _ (List.mem_append_left _ (List.mem_of_getElem? (i := 0) rfl)))
  have ko2 := hts (.instanceMethod objectInit) (List.mem_cons_of_mem _ (List.mem_append_left _ (List.mem_of_getElem? (i := 1) rfl)))
  have ko3 := hts (.code objectInit ⟨#[0xb1]⟩ 1 none) (List.mem_cons_of_mem _ (List.mem_append_left _ (List.mem_of_getElem? (i := 2) rfl)))
  have k_9 := hts (.fieldLink RX6 9 "RelatorsBench$Teller" "facts" "I") (List.mem_cons_of_mem _ (List.mem_append_left _ (List.mem_of_getElem? (i := 3) rfl)))
  have hinX6 : ∀ w ∈ wsX60, w ∈ wsX6_init := fun _ h => List.mem_cons_of_mem _ (List.mem_append_right _ (h))
  have k_15 := hts (.fieldLink RX6 15 "RelatorsBench$Teller" "givenAway" "I") (List.mem_cons_of_mem _ (List.mem_append_left _ (List.mem_of_getElem? (i := 4) rfl)))
  have k_18 := hts (.fieldLink RX6 18 "RelatorsBench$Teller" "employer" "I") (List.mem_cons_of_mem _ (List.mem_append_left _ (List.mem_of_getElem? (i := 5) rfl)))
  have k_21 := hts (.fieldLink RX6 21 "RelatorsBench$Teller" "wage" "I") (List.mem_cons_of_mem _ (List.mem_append_left _ (List.mem_of_getElem? (i := 6) rfl)))
  have k_24 := hts (.fieldLink RX6 24 "RelatorsBench$Teller" "ownShares" "I") (List.mem_cons_of_mem _ (List.mem_append_left _ (List.mem_of_getElem? (i := 7) rfl)))
  have k_27 := hts (.fieldLink RX6 27 "RelatorsBench$Teller" "parts" "I") (List.mem_cons_of_mem _ (List.mem_append_left _ (List.mem_of_getElem? (i := 8) rfl)))
  have k_30 := hts (.fieldLink RX6 30 "RelatorsBench$Teller" "awards" "I") (List.mem_cons_of_mem _ (List.mem_append_left _ (List.mem_of_getElem? (i := 9) rfl)))
  have hl := lv_entry ([.ref q]) (n := 1) (Nat.le_of_ble_eq_true rfl)
  rw [lg_entry_eq]
  generalize (lg_sl ([.ref q]) ++ List.replicate (1 - (lg_sl ([.ref q])).length) Slot.unset).toArray = ls at hl ⊢
  have hl : lv_has ls 1 [(0, .ref q)] := hl
  refine lv_aload_n hx hb dX6_init_0 rfl (lv_at hl 0 rfl) ?_
  refine oi_obj (a := q) hC ko1 ko2 ko3 hl.1 (Nat.le_of_ble_eq_true rfl) (Nat.le_of_ble_eq_true rfl) dX6_init_1 ?_
  refine lv_aload_n hx hb dX6_init_4 rfl (lv_at hl 0 rfl) ?_
  refine lv_iconst (v := 0) hx hb dX6_init_5 (by decide) ?_
  refine oi_put (ty := .int) hC hO hS rfl rfl hinX6 tyX6 tyX6_ok nmX6 0 (by decide) k_9 (fun _ h => h) (Or.inl rfl) (by decide +kernel) rfl rfl (Nat.le_of_ble_eq_true rfl) dX6_init_6 (fun H locs hO hq hz hS => ?_)
  have hO : at1 D q (.inr (7, [.int 0, .int 0, .int 0, .int 0, .int 0, .int 0, .int 0])) H := hO
  refine lv_aload_n hx hb dX6_init_9 rfl (lv_at hl 0 rfl) ?_
  refine lv_iconst (v := 0) hx hb dX6_init_10 (by decide) ?_
  refine oi_put (ty := .int) hC hO hS rfl rfl hinX6 tyX6 tyX6_ok nmX6 1 (by decide) k_15 (fun _ h => h) (Or.inl rfl) (by decide +kernel) rfl rfl (Nat.le_of_ble_eq_true rfl) dX6_init_11 (fun H locs hO hq hz hS => ?_)
  have hO : at1 D q (.inr (7, [.int 0, .int 0, .int 0, .int 0, .int 0, .int 0, .int 0])) H := hO
  refine lv_aload_n hx hb dX6_init_14 rfl (lv_at hl 0 rfl) ?_
  refine lv_iconst (v := (-1)) hx hb dX6_init_15 (by decide) ?_
  refine oi_put (ty := .int) hC hO hS rfl rfl hinX6 tyX6 tyX6_ok nmX6 2 (by decide) k_18 (fun _ h => h) (Or.inl rfl) (by decide +kernel) rfl rfl (Nat.le_of_ble_eq_true rfl) dX6_init_16 (fun H locs hO hq hz hS => ?_)
  have hO : at1 D q (.inr (7, [.int 0, .int 0, .int (-1), .int 0, .int 0, .int 0, .int 0])) H := hO
  refine lv_aload_n hx hb dX6_init_19 rfl (lv_at hl 0 rfl) ?_
  refine lv_iconst (v := 0) hx hb dX6_init_20 (by decide) ?_
  refine oi_put (ty := .int) hC hO hS rfl rfl hinX6 tyX6 tyX6_ok nmX6 3 (by decide) k_21 (fun _ h => h) (Or.inl rfl) (by decide +kernel) rfl rfl (Nat.le_of_ble_eq_true rfl) dX6_init_21 (fun H locs hO hq hz hS => ?_)
  have hO : at1 D q (.inr (7, [.int 0, .int 0, .int (-1), .int 0, .int 0, .int 0, .int 0])) H := hO
  refine lv_aload_n hx hb dX6_init_24 rfl (lv_at hl 0 rfl) ?_
  refine lv_iconst (v := 0) hx hb dX6_init_25 (by decide) ?_
  refine oi_put (ty := .int) hC hO hS rfl rfl hinX6 tyX6 tyX6_ok nmX6 4 (by decide) k_24 (fun _ h => h) (Or.inl rfl) (by decide +kernel) rfl rfl (Nat.le_of_ble_eq_true rfl) dX6_init_26 (fun H locs hO hq hz hS => ?_)
  have hO : at1 D q (.inr (7, [.int 0, .int 0, .int (-1), .int 0, .int 0, .int 0, .int 0])) H := hO
  refine lv_aload_n hx hb dX6_init_29 rfl (lv_at hl 0 rfl) ?_
  refine lv_iconst (v := 0) hx hb dX6_init_30 (by decide) ?_
  refine oi_put (ty := .int) hC hO hS rfl rfl hinX6 tyX6 tyX6_ok nmX6 5 (by decide) k_27 (fun _ h => h) (Or.inl rfl) (by decide +kernel) rfl rfl (Nat.le_of_ble_eq_true rfl) dX6_init_31 (fun H locs hO hq hz hS => ?_)
  have hO : at1 D q (.inr (7, [.int 0, .int 0, .int (-1), .int 0, .int 0, .int 0, .int 0])) H := hO
  refine lv_aload_n hx hb dX6_init_34 rfl (lv_at hl 0 rfl) ?_
  refine lv_iconst (v := 0) hx hb dX6_init_35 (by decide) ?_
  refine oi_put (ty := .int) hC hO hS rfl rfl hinX6 tyX6 tyX6_ok nmX6 6 (by decide) k_30 (fun _ h => h) (Or.inl rfl) (by decide +kernel) rfl rfl (Nat.le_of_ble_eq_true rfl) dX6_init_36 (fun H locs hO hq hz hS => ?_)
  have hO : at1 D q (.inr (7, [.int 0, .int 0, .int (-1), .int 0, .int 0, .int 0, .int 0])) H := hO
  exact W.vret hx hb hr (fun t9 ht9 hW9 => ⟨⟨(), rfl, trivial, by show at1 D q _ t9.heap; rw [ht9]; exact hO⟩, hS.F ht9⟩) hS.2.2 dX6_init_39
set_option maxHeartbeats 4000000 in
theorem qAC_init (l : Launch) (q : Nat) : Met l yJxa1e45_init_da8c8 wsJxa1e45_init_da8c8 ({ frames := 1, cells := 0, slots := 0, locals := 12 } : Room) (va_Pc [.ref q] (fun _ => True)) (va_Qv (fun _ : Unit => True) (fun _ _ => True) (fun _ => False)) 0 0 (fun _ => False) := by
  refine Met.ofW (cc := cJxa1e45_init_da8c8) (maxL := 1) (ret := none) (by decide) rfl ?_
  intro p e s m args below meth c s₁ B hml hv
  have hx := B.exec
  have hb := B.bytes
  have hr := B.returns
  have hts := atoms_spec (ws := wsJxa1e45_init_da8c8) B.pre
  have hown : s.vm.findClass RJxa1e45 = some m.cls := findClass_of_methodNamed B.named
  have hlocks := B.notSynchronized
  obtain ⟨rfl, -⟩ := hv
  have hS : va_S (fun _ => False) s.heap s.heap [] := va_S.rf
  have ko1 := hts (.methodLink RJxa1e45 1 objectInit) (List.mem_cons_of_mem _ (List.mem_of_getElem? (i := 0) rfl))
  have ko2 := hts (.instanceMethod objectInit) (List.mem_cons_of_mem _ (List.mem_of_getElem? (i := 1) rfl))
  have ko3 := hts (.code objectInit ⟨#[0xb1]⟩ 1 none) (List.mem_cons_of_mem _ (List.mem_of_getElem? (i := 2) rfl))
  have hl := lv_entry ([.ref q]) (n := 1) (Nat.le_of_ble_eq_true rfl)
  rw [lg_entry_eq]
  generalize (lg_sl ([.ref q]) ++ List.replicate (1 - (lg_sl ([.ref q])).length) Slot.unset).toArray = ls at hl ⊢
  have hl : lv_has ls 1 [(0, .ref q)] := hl
  refine lv_aload_n hx hb dJxa1e45_init_da8c8_0 rfl (lv_at hl 0 rfl) ?_
  refine W.objInit hx hb hown ko1 ko2 ko3 (g := F0 m 1 ls [.ref q]) rfl (hl.1.trans hml.symm) rfl dJxa1e45_init_da8c8_1 (Nat.le_of_ble_eq_true rfl) (Nat.le_of_ble_eq_true rfl) ?_
  exact W.vret hx hb hr (fun t9 ht9 hW9 => ⟨⟨(), rfl, trivial, trivial⟩, hS.F ht9⟩) hS.2.2 dJxa1e45_init_da8c8_4
set_option maxHeartbeats 4000000 in
theorem qAL1_init (l : Launch) (D : va_G) (cy : Nat → ClassId) (q : Nat) : CInit l D cy yJxc12de_init_da8c8 wsJxc12de_init_da8c8 ({ frames := 2, cells := 0, slots := 0, locals := 32 } : Room) q [] 0 [.int 0, .null, .int 0] [.int 0, .null, .int 0] := by
  refine Met.ofW (cc := cJxc12de_init_da8c8) (maxL := 1) (ret := none) (by decide) rfl ?_
  intro p e s m args below meth c s₁ B hml hv
  have hx := B.exec
  have hb := B.bytes
  have hr := B.returns
  have hts := atoms_spec (ws := wsJxc12de_init_da8c8) B.pre
  have hown : s.vm.findClass RJxc12de = some m.cls := findClass_of_methodNamed B.named
  have hlocks := B.notSynchronized
  obtain ⟨rfl, hO, hK⟩ := hv
  have hS : va_S (fun z => z = q) s.heap s.heap [] := va_S.rf
  have hC : CC p s m _ c cJxc12de_init_da8c8 1 RJxc12de D cy wsJxc12de_init_da8c8 := ⟨⟨hx, hb, hml, hown, hts⟩, hK⟩
  have k1 := hts (.initialized RJxa1e45) (List.mem_cons_of_mem _ (List.mem_append_left _ (List.mem_of_getElem? (i := 3) rfl)))
  have k2 := hts (.methodLink RJxc12de 1 yJxa1e45_init_da8c8) (List.mem_cons_of_mem _ (List.mem_append_left _ (List.mem_of_getElem? (i := 1) rfl)))
  have k3 := hts (.instanceMethod yJxa1e45_init_da8c8) (List.mem_cons_of_mem _ (List.mem_append_left _ (List.mem_of_getElem? (i := 2) rfl)))
  have k_7 := hts (.fieldLink RJxc12de 7 "java/util/AbstractList" "modCount" "I") (List.mem_cons_of_mem _ (List.mem_append_left _ (List.mem_of_getElem? (i := 0) rfl)))
  have hin : ∀ w ∈ wsJx4a65c0, w ∈ wsJxc12de_init_da8c8 := fun _ h => List.mem_cons_of_mem _ (List.mem_append_right _ (h))
  have hl := lv_entry ([.ref q]) (n := 1) (Nat.le_of_ble_eq_true rfl)
  rw [lg_entry_eq]
  generalize (lg_sl ([.ref q]) ++ List.replicate (1 - (lg_sl ([.ref q])).length) Slot.unset).toArray = ls at hl ⊢
  have hl : lv_has ls 1 [(0, .ref q)] := hl
  refine lv_aload_n hx hb dJxc12de_init_da8c8_0 rfl (lv_at hl 0 rfl) ?_
  refine va_callv (va_runI (As := []) (rest := []) hC.1 (qAC_init l q) (cwI 0 hts gJxc12de_init_da8c8_Jxa1e45_init_da8c8 rfl rfl rfl k1 k2 k3 rfl (by decide +kernel) ⟨Nat.le_of_ble_eq_true rfl, Nat.le_of_ble_eq_true rfl⟩) ⟨SP_blind, fun U hU hW => ⟨rfl, trivial⟩⟩ rfl rfl hl.1 rfl (lv_room (Nat.le_of_ble_eq_true rfl)) dJxc12de_init_da8c8_1 ⟨Nat.zero_le _, Nat.zero_le _⟩) hS (fun q _ h => h.elim) (fun q h => h.elim) (fun u t H locs ht hvm hw hB hz1 hk1 hS => ?_)
  have hO := at_keep hO (fun q hq => hk1 q hq (fun h => h))
  refine lv_aload_n hx hb dJxc12de_init_da8c8_4 rfl (lv_at hl 0 rfl) ?_
  refine lv_iconst (v := 0) hx hb dJxc12de_init_da8c8_5 (by decide) ?_
  refine oi_put (ty := .int) hC hO hS rfl rfl hin tyJx4a65c tyJx4a65c_ok nmJx4a65c 0 (by decide) k_7 (fun _ h => h) (Or.inl rfl) (by decide +kernel) rfl rfl (Nat.le_of_ble_eq_true rfl) dJxc12de_init_da8c8_6 (fun H locs hO hq hz hS => ?_)
  exact W.vret hx hb hr (fun t9 ht9 hW9 => ⟨⟨(), rfl, trivial, by show at1 D q _ t9.heap; rw [ht9]; exact hO⟩, hS.F ht9⟩) hS.2.2 dJxc12de_init_da8c8_9
set_option maxHeartbeats 4000000 in
/-- new ArrayList(): empty, on the shared array -/
theorem qAL_init (l : Launch) (D : va_G) (cy : Nat → ClassId) (e0 mi q : Nat) : Met l yJx4a65c_init_da8c8 wsJx4a65c_init_da8c8 ({ frames := 3, cells := 0, slots := 0, locals := 52 } : Room) (va_Pc [.ref q] (fun U => at1 D q (.inr (0, [.int 0, .null, .int 0])) U.heap ∧ JX (fun z => z = q) D cy e0 mi U U.heap)) (va_Qv (fun _ : Unit => True) (fun _ t => at1 D q (alC 0 e0 0) t.heap) (fun z => z = q)) 0 0 (fun z => z = q) := by
  refine Met.ofW (cc := cJx4a65c_init_da8c8) (maxL := 1) (ret := none) (by decide) rfl ?_
  intro p e s m args below meth c s₁ B hml hv
  have hx := B.exec
  have hb := B.bytes
  have hr := B.returns
  have hts := atoms_spec (ws := wsJx4a65c_init_da8c8) B.pre
  have hown : s.vm.findClass RJx4a65c = some m.cls := findClass_of_methodNamed B.named
  have hlocks := B.notSynchronized
  obtain ⟨rfl, hO, hJ⟩ := hv
  have hK := hJ.1
  have hS : va_S (fun z => z = q) s.heap s.heap [] := va_S.rf
  have hC : CC p s m _ c cJx4a65c_init_da8c8 1 RJx4a65c D cy wsJx4a65c_init_da8c8 := ⟨⟨hx, hb, hml, hown, hts⟩, hK⟩
  have k1 := hts (.initialized RJxc12de) (List.mem_cons_of_mem _ (List.mem_append_left _ (List.mem_of_getElem? (i := 4) rfl)))
  have k2 := hts (.methodLink RJx4a65c 1 yJxc12de_init_da8c8) (List.mem_cons_of_mem _ (List.mem_append_left _ (List.mem_of_getElem? (i := 2) rfl)))
  have k3 := hts (.instanceMethod yJxc12de_init_da8c8) (List.mem_cons_of_mem _ (List.mem_append_left _ (List.mem_of_getElem? (i := 3) rfl)))
  have k_9 := hts (.fieldLink RJx4a65c 9 "java/util/ArrayList" "elementData" "[Ljava/lang/Object;") (List.mem_cons_of_mem _ (List.mem_append_left _ (List.mem_of_getElem? (i := 1) rfl)))
  have k_39 := hts (.fieldLink RJx4a65c 39 "java/util/ArrayList" "DEFAULTCAPACITY_EMPTY_ELEMENTDATA" "[Ljava/lang/Object;") (List.mem_cons_of_mem _ (List.mem_append_left _ (List.mem_of_getElem? (i := 0) rfl)))
  have hin : ∀ w ∈ wsJx4a65c0, w ∈ wsJx4a65c_init_da8c8 := fun _ h => List.mem_cons_of_mem _ (List.mem_append_right _ (h))
  have hl := lv_entry ([.ref q]) (n := 1) (Nat.le_of_ble_eq_true rfl)
  rw [lg_entry_eq]
  generalize (lg_sl ([.ref q]) ++ List.replicate (1 - (lg_sl ([.ref q])).length) Slot.unset).toArray = ls at hl ⊢
  have hl : lv_has ls 1 [(0, .ref q)] := hl
  refine lv_aload_n hx hb dJx4a65c_init_da8c8_0 rfl (lv_at hl 0 rfl) ?_
  refine oi_init hC hO hS rfl (qAL1_init l D cy q) (cwI 0 hts gJx4a65c_init_da8c8_Jxc12de_init_da8c8 rfl rfl rfl k1 k2 k3 rfl (by decide +kernel) ⟨Nat.le_of_ble_eq_true rfl, Nat.le_of_ble_eq_true rfl⟩) rfl hl.1 rfl (Nat.le_of_ble_eq_true rfl) dJx4a65c_init_da8c8_1 ⟨Nat.zero_le _, Nat.zero_le _⟩ (fun H locs hO hq hz hS => ?_)
  refine lv_aload_n hx hb dJx4a65c_init_da8c8_4 rfl (lv_at hl 0 rfl) ?_
  refine va_gets hx hb hJ.2.2.2.2.1 hS hown k_39 (fun _ h => h) dJx4a65c_init_da8c8_5 ?_
  refine oi_put (v := .ref e0) (ty := .array (.object "java/lang/Object")) hC hO hS rfl rfl hin tyJx4a65c tyJx4a65c_ok nmJx4a65c 1 (by decide) k_9 (fun _ h => h) (Or.inl rfl) (by decide +kernel) rfl rfl (Nat.le_of_ble_eq_true rfl) dJx4a65c_init_da8c8_8 (fun H locs hO hq hz hS => ?_)
  exact W.vret hx hb hr (fun t9 ht9 hW9 => ⟨⟨(), rfl, trivial, by show at1 D q _ t9.heap; rw [ht9]; exact hO⟩, hS.F ht9⟩) hS.2.2 dJx4a65c_init_da8c8_11
