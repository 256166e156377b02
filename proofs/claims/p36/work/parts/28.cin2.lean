/-! constructors that make cells of their own -/
section OIL
variable {p : Program} {l : Launch} {e : Env} {R : Room} {s : State} {m : MethodId} {args : Array Value} {below : List Frame} {meth : Method} {c : Code} {H : Heap} {locs : List Loc} {cells slots : Nat} {Q : State → Prop}
variable {cc : ByteArray} {pc nL : Nat} {ls : Array Slot} {rest : List Value} {D : va_G} {cy : Nat → ClassId} {A : Nat → Prop} {Ts : List Cond} {own : String} {bytes : ByteArray} {maxL index e0 mi a n : Nat} {st0 : List Value}
theorem JX_now {A B : Nat → Prop} (hJ : JX A D cy e0 mi s s.heap) (hS : va_S A s.heap H locs) (hAB : ∀ q, B q → A q) {U : State} (hU : U.heap = H) (hW : s.WarmedH U.vm) : JX B D cy e0 mi U U.heap := by
  rw [hU]
  exact JX.moved hW.alike (JX.narrow (JX.kept hJ hS.2.1) hAB)
theorem oi_list (hC : CC p s m args c cc nL own D cy Ts) (hJ : JX A D cy e0 mi s s.heap) (hO : at1 D a (.inr (0, [.int 0, .null, .int 0])) H) (hS : va_S A s.heap H locs) (hA : A a) (cw : CallB R s args own index yJx4a65c_init_da8c8 bytes maxL none wsJx4a65c_init_da8c8 ({ frames := 3, cells := 0, slots := 0, locals := 52 } : Room) 0 0 0 ∧ yJx4a65c_init_da8c8.name = "<init>" ∧ (Cond.instanceMethod yJx4a65c_init_da8c8).before args s = true) (hsize : ls.size = nL) (hr : (rest.map fun v => v.category).sum ≤ 8) (hdg : decode cc pc = .ok (.invokespecial index, 3)) (hf : cells ≤ R.cells ∧ slots ≤ R.slots)
    (kk : ∀ (H1 : Heap) (locs1 : List Loc), at1 D a (alC 0 e0 0) H1 → (∀ z : Nat, z < H.size → z ≠ a → H1[z]? = H[z]?) → H.size ≤ H1.size → va_S A s.heap H1 locs1 → W p l e R s m args below meth c H1 locs1 cells slots Q (F0 m (pc + 3) ls rest)) : W p l e R s m args below meth c H locs cells slots Q (F0 m pc ls (.ref a :: rest)) := by
  refine va_callv (va_runI (As := []) (rest := rest) hC.1 (qAL_init l D cy e0 mi a) cw ⟨fun x U g mk h => ⟨h.1, h.2.1, JX.blind h.2.2⟩, fun U hU hW => ⟨rfl, by rw [hU]; exact hO, JX_now hJ hS (fun q h => by rw [h]; exact hA) hU hW⟩⟩ rfl rfl hsize rfl (lv_room hr) hdg hf) hS (fun q _ h => by rw [h]; exact hA) (fun q h => by rw [h]; exact hA) (fun u t H1 locs1 ht hvm hw hB hz1 hk1 hS1 => ?_)
  rw [ht] at hB
  exact kk H1 locs1 hB hk1 hz1 hS1
theorem oi_fill (hC : CC p s m args c cc nL own D cy Ts) {N : Nat} (hN : N < 2 ^ 31) {f : Nat → Int32} {x : Int32} (hO : at1 D a (arI cy N f) H) (hS : va_S A s.heap H locs) (hA : A a) (cw : CallB R s args own index yJ7_fill_53178 bytes maxL none wsJ7_fill_53178 ({ frames := 0, cells := 0, slots := 0, locals := 0 } : Room) 0 0 2 ∧ (Cond.static yJ7_fill_53178).before args s = true) (hsize : ls.size = nL) (hdg : decode cc pc = .ok (.invokestatic index, 3)) (hf : cells ≤ R.cells ∧ slots ≤ R.slots)
    (kk : ∀ (H1 : Heap) (locs1 : List Loc), at1 D a (arI cy N (fun _ => x)) H1 → (∀ z : Nat, z < H.size → z ≠ a → H1[z]? = H[z]?) → H.size ≤ H1.size → va_S A s.heap H1 locs1 → W p l e R s m args below meth c H1 locs1 cells slots Q (F0 m (pc + 3) ls [])) : W p l e R s m args below meth c H locs cells slots Q (F0 m pc ls [.int x, .ref a]) := by
  refine va_callv (va_runS (As := [.ref a, .int x]) (rest := []) hC.1 (qfill l D cy a N hN f x) cw ⟨fun z U g mk h => ⟨h.1, h.2.1, va_K.moved (u := U) (U := U.calling g mk z) (Vm.Alike.refl U.vm) h.2.2⟩, fun U hU hW => ⟨rfl, by rw [hU]; exact hO, va_K.moved hW.alike hC.2⟩⟩ rfl rfl hsize rfl (lv_room (Nat.le_of_ble_eq_true rfl)) hdg hf) hS (fun q _ h => by rw [h]; exact hA) (fun q h => by rw [h]; exact hA) (fun u t H1 locs1 ht hvm hw hB hz1 hk1 hS1 => ?_)
  rw [ht] at hB
  exact kk H1 locs1 hB hk1 hz1 hS1
end OIL

set_option maxHeartbeats 4000000 in
set_option maxRecDepth 100000 in
theorem qX5_init (l : Launch) (D : va_G) (cy : Nat → ClassId) (e0 mi q sz : Nat) (a0 : Int32) (a1 : Int32) (a2 : Int32) (a3 : Int32) (a4 : Int32) : Met l yX5_init wsX5_init ({ frames := 7, cells := 3, slots := 155, locals := 171 } : Room) (va_Pc [.ref q, .int a0, .int a1, .int a2, .int a3, .int a4] (fun U => U.heap.size = sz ∧ at1 D q (.inr (6, [.int 0, .int 0, .int 0, .int 0, .int 0, .null, .int 0, .int 0, .int 0, .int 0, .int 0, .int 0, .int 0, .int 0, .int 0])) U.heap ∧ JX (fun z => z = q ∨ sz ≤ z) D cy e0 mi U U.heap ∧ JO U)) (va_Qv (fun u : Nat × Nat × Nat × Int32 × Nat × (Nat → Option Nat) => (sz ≤ u.1 ∧ sz ≤ u.2.1 ∧ sz ≤ u.2.2.1 ∧ u.1 ≠ u.2.1 ∧ u.1 ≠ u.2.2.1 ∧ u.2.1 ≠ u.2.2.1 ∧ q ≠ u.1 ∧ q ≠ u.2.1 ∧ q ≠ u.2.2.1) ∧ (2 ≤ u.2.2.2.2.1 ∧ u.2.2.2.2.1 ≤ 150) ∧ u.2.2.2.2.2 0 = some u.2.2.1) (fun u t => at1 D q (.inr (6, [.int a0, .int a1, .int a2, .int a3, .int a4, .ref u.1, .int a3, .int 0, .int 0, .int 0, .int (a4 + 60), .int 0, .int 0, .int 0, .int 0])) t.heap ∧ at1 D u.1 (alC u.2.2.2.1 u.2.1 (nI 1)) t.heap ∧ at1 D u.2.1 (arO cy u.2.2.2.2.1 u.2.2.2.2.2) t.heap ∧ at1 D u.2.2.1 (.inr (4, [.int a3, .int a4])) t.heap) (fun z => z = q ∨ sz ≤ z)) 3 155 (fun z => z = q ∨ sz ≤ z) := by
  refine Met.ofW (cc := cX5_init) (maxL := 6) (ret := none) (by decide) rfl ?_
  intro p e s m args below meth c s₁ B hml hv
  obtain ⟨rfl, hsz, hO, hJ, hW⟩ := hv
  have hK := hJ.1
  have hx := B.exec
  have hb := B.bytes
  have hr := B.returns
  have hts := atoms_spec (ws := wsX5_init) B.pre
  have hown : s.vm.findClass RX5 = some m.cls := findClass_of_methodNamed B.named
  have hlocks := B.notSynchronized
  have hini : meth.name = "<init>" := (name_of_methodNamed B.named B.method).1
  have hC : CC p s m _ c cX5_init 6 RX5 D cy wsX5_init := ⟨⟨hx, hb, hml, hown, hts⟩, hK⟩
  have hS : va_S (fun z => z = q ∨ sz ≤ z) s.heap s.heap [] := va_S.rf
  have ko1 := hts (.methodLink RX5 3 objectInit) (List.mem_cons_of_mem _ (List.mem_append_left _ (List.mem_append_left _ (List.mem_append_left _ (List.mem_append_left _ (List.mem_of_getElem? (i := 0) rfl))))))
  have ko2 := hts (.instanceMethod objectInit) (List.mem_cons_of_mem _ (List.mem_append_left _ (List.mem_append_left _ (List.mem_append_left _ (List.mem_append_left _ (List.mem_of_getElem? (i := 1) rfl))))))
  have ko3 := hts (.code objectInit ⟨#[0xb1]⟩ 1 none) (List.mem_cons_of_mem _ (List.mem_append_left _ (List.mem_append_left _ (List.mem_append_left _ (List.mem_append_left _ (List.mem_of_getElem? (i := 2) rfl))))))
  have hinJx4a65c : ∀ w ∈ wsJx4a65c0, w ∈ wsX5_init := fun _ h => List.mem_cons_of_mem _ (List.mem_append_left _ (List.mem_append_left _ (List.mem_append_right _ (h))))
  have k_12 := hts (.fieldLink RX5 12 "RelatorsBench$Suit" "papers" "Ljava/util/ArrayList;") (List.mem_cons_of_mem _ (List.mem_append_left _ (List.mem_append_left _ (List.mem_append_left _ (List.mem_append_left _ (List.mem_of_getElem? (i := 6) rfl))))))
  have hinX5 : ∀ w ∈ wsX50, w ∈ wsX5_init := fun _ h => List.mem_cons_of_mem _ (List.mem_append_left _ (List.mem_append_right _ (h)))
  have k_18 := hts (.fieldLink RX5 18 "RelatorsBench$Suit" "state" "I") (List.mem_cons_of_mem _ (List.mem_append_left _ (List.mem_append_left _ (List.mem_append_left _ (List.mem_append_left _ (List.mem_of_getElem? (i := 7) rfl))))))
  have k_22 := hts (.fieldLink RX5 22 "RelatorsBench$Suit" "wasJoined" "Z") (List.mem_cons_of_mem _ (List.mem_append_left _ (List.mem_append_left _ (List.mem_append_left _ (List.mem_append_left _ (List.mem_of_getElem? (i := 8) rfl))))))
  have k_26 := hts (.fieldLink RX5 26 "RelatorsBench$Suit" "extensions" "I") (List.mem_cons_of_mem _ (List.mem_append_left _ (List.mem_append_left _ (List.mem_append_left _ (List.mem_append_left _ (List.mem_of_getElem? (i := 9) rfl))))))
  have k_29 := hts (.fieldLink RX5 29 "RelatorsBench$Suit" "help" "I") (List.mem_cons_of_mem _ (List.mem_append_left _ (List.mem_append_left _ (List.mem_append_left _ (List.mem_append_left _ (List.mem_of_getElem? (i := 10) rfl))))))
  have k_32 := hts (.fieldLink RX5 32 "RelatorsBench$Suit" "paid" "I") (List.mem_cons_of_mem _ (List.mem_append_left _ (List.mem_append_left _ (List.mem_append_left _ (List.mem_append_left _ (List.mem_of_getElem? (i := 11) rfl))))))
  have k_35 := hts (.fieldLink RX5 35 "RelatorsBench$Suit" "share" "I") (List.mem_cons_of_mem _ (List.mem_append_left _ (List.mem_append_left _ (List.mem_append_left _ (List.mem_append_left _ (List.mem_of_getElem? (i := 12) rfl))))))
  have k_38 := hts (.fieldLink RX5 38 "RelatorsBench$Suit" "hundredths" "I") (List.mem_cons_of_mem _ (List.mem_append_left _ (List.mem_append_left _ (List.mem_append_left _ (List.mem_append_left _ (List.mem_of_getElem? (i := 13) rfl))))))
  have k_41 := hts (.fieldLink RX5 41 "RelatorsBench$Suit" "number" "I") (List.mem_cons_of_mem _ (List.mem_append_left _ (List.mem_append_left _ (List.mem_append_left _ (List.mem_append_left _ (List.mem_of_getElem? (i := 14) rfl))))))
  have k_44 := hts (.fieldLink RX5 44 "RelatorsBench$Suit" "teller" "I") (List.mem_cons_of_mem _ (List.mem_append_left _ (List.mem_append_left _ (List.mem_append_left _ (List.mem_append_left _ (List.mem_of_getElem? (i := 15) rfl))))))
  have k_47 := hts (.fieldLink RX5 47 "RelatorsBench$Suit" "firm" "I") (List.mem_cons_of_mem _ (List.mem_append_left _ (List.mem_append_left _ (List.mem_append_left _ (List.mem_append_left _ (List.mem_of_getElem? (i := 16) rfl))))))
  have k_50 := hts (.fieldLink RX5 50 "RelatorsBench$Suit" "filedFacts" "I") (List.mem_cons_of_mem _ (List.mem_append_left _ (List.mem_append_left _ (List.mem_append_left _ (List.mem_append_left _ (List.mem_of_getElem? (i := 17) rfl))))))
  have k_53 := hts (.fieldLink RX5 53 "RelatorsBench$Suit" "filedOn" "I") (List.mem_cons_of_mem _ (List.mem_append_left _ (List.mem_append_left _ (List.mem_append_left _ (List.mem_append_left _ (List.mem_of_getElem? (i := 18) rfl))))))
  have k_56 := hts (.fieldLink RX5 56 "RelatorsBench$Suit" "facts" "I") (List.mem_cons_of_mem _ (List.mem_append_left _ (List.mem_append_left _ (List.mem_append_left _ (List.mem_append_left _ (List.mem_of_getElem? (i := 19) rfl))))))
  have k_59 := hts (.fieldLink RX5 59 "RelatorsBench$Suit" "unsealedFrom" "I") (List.mem_cons_of_mem _ (List.mem_append_left _ (List.mem_append_left _ (List.mem_append_left _ (List.mem_append_left _ (List.mem_of_getElem? (i := 20) rfl))))))
  have hinX3 : ∀ w ∈ wsX30, w ∈ wsX5_init := fun _ h => List.mem_cons_of_mem _ (List.mem_append_right _ (h))
  have hl := lv_entry ([.ref q, .int a0, .int a1, .int a2, .int a3, .int a4]) (n := 6) (Nat.le_of_ble_eq_true rfl)
  rw [lg_entry_eq]
  generalize (lg_sl ([.ref q, .int a0, .int a1, .int a2, .int a3, .int a4]) ++ List.replicate (6 - (lg_sl ([.ref q, .int a0, .int a1, .int a2, .int a3, .int a4])).length) Slot.unset).toArray = ls at hl ⊢
  have hl : lv_has ls 6 [(0, .ref q), (1, .int a0), (2, .int a1), (3, .int a2), (4, .int a3), (5, .int a4)] := hl
  refine lv_aload_n hx hb dX5_init_0 rfl (lv_at hl 0 rfl) ?_
  refine oi_obj (a := q) hC ko1 ko2 ko3 hl.1 (Nat.le_of_ble_eq_true rfl) (Nat.le_of_ble_eq_true rfl) dX5_init_1 ?_
  refine lv_aload_n hx hb dX5_init_4 rfl (lv_at hl 0 rfl) ?_
  obtain ⟨la, a_la⟩ : ∃ z, z = s.heap.size := ⟨_, rfl⟩
  have z_la : sz ≤ la := by rw [a_la, ← hsz]; exact hS.1
  have n_q_la : q ≠ la := by rw [a_la]; exact Nat.ne_of_lt hO.lt
  refine oi_new (ci := 0) (fs := [.int 0, .null, .int 0]) hC hS hinJx4a65c tyJx4a65c tyJx4a65c_ok (hts (.classLink RX5 9 RJx4a65c) (List.mem_cons_of_mem _ (List.mem_append_left _ (List.mem_append_left _ (List.mem_append_left _ (List.mem_append_left _ (List.mem_of_getElem? (i := 3) rfl))))))) (hts (.instantiable RJx4a65c 3) (List.mem_cons_of_mem _ (List.mem_append_left _ (List.mem_append_left _ (List.mem_append_left _ (List.mem_append_left _ (List.mem_of_getElem? (i := 4) rfl))))))) (hts (.initialized RJx4a65c) (List.mem_cons_of_mem _ (List.mem_append_left _ (List.mem_append_left _ (List.mem_append_left _ (List.mem_append_left _ (List.mem_of_getElem? (i := 5) rfl))))))) rfl (by decide +kernel) (Nat.le_of_ble_eq_true rfl) (Nat.le_of_ble_eq_true rfl) dX5_init_5 (fun H hL hq hz hS => ?_)
  have hO := at_keep hO hq
  rw [← a_la] at hL ⊢
  refine lv_dup hx hb dX5_init_8 rfl ?_
  refine oi_list (rest := [.ref la, .ref q]) hC hJ hL hS (Or.inr z_la) (cwI 0 hts gX5_init_Jx4a65c_init_da8c8 rfl rfl rfl (hts (.initialized RJx4a65c) (List.mem_cons_of_mem _ (List.mem_append_left _ (List.mem_append_left _ (List.mem_append_left _ (List.mem_append_left _ (List.mem_of_getElem? (i := 5) rfl))))))) (hts (.methodLink RX5 11 yJx4a65c_init_da8c8) (List.mem_cons_of_mem _ (List.mem_append_left _ (List.mem_append_left _ (List.mem_append_left _ (List.mem_append_right _ (List.mem_append_left _ (List.mem_of_getElem? (i := 0) rfl)))))))) (hts (.instanceMethod yJx4a65c_init_da8c8) (List.mem_cons_of_mem _ (List.mem_append_left _ (List.mem_append_left _ (List.mem_append_left _ (List.mem_append_right _ (List.mem_append_left _ (List.mem_of_getElem? (i := 1) rfl)))))))) rfl (by decide +kernel) ⟨Nat.le_of_ble_eq_true rfl, Nat.le_of_ble_eq_true rfl⟩) hl.1 (Nat.le_of_ble_eq_true rfl) dX5_init_9 ⟨(Nat.le_of_ble_eq_true rfl), (Nat.le_of_ble_eq_true rfl)⟩ (fun H locs hL hq hz hS => ?_)
  have hO := hO.kept (hq _ hO.lt n_q_la)
  refine oi_put (v := .ref la) (ty := (.object "java/util/ArrayList")) hC hO hS (Or.inl rfl) rfl hinX5 tyX5 tyX5_ok nmX5 5 (by decide) k_12 (fun _ h => h) (Or.inr ⟨rfl, hini, rfl⟩) (by decide +kernel) rfl rfl (Nat.le_of_ble_eq_true rfl) dX5_init_12 (fun H locs hO hq hz hS => ?_)
  have hO : at1 D q (.inr (6, [.int 0, .int 0, .int 0, .int 0, .int 0, .ref la, .int 0, .int 0, .int 0, .int 0, .int 0, .int 0, .int 0, .int 0, .int 0])) H := hO
  have hL := hL.kept (hq _ (Ne.symm n_q_la))
  refine lv_aload_n hx hb dX5_init_15 rfl (lv_at hl 0 rfl) ?_
  refine lv_iconst (v := 0) hx hb dX5_init_16 (by decide) ?_
  refine oi_put (v := .int 0) (ty := .int) hC hO hS (Or.inl rfl) rfl hinX5 tyX5 tyX5_ok nmX5 7 (by decide) k_18 (fun _ h => h) (Or.inl rfl) (by decide +kernel) rfl rfl (Nat.le_of_ble_eq_true rfl) dX5_init_17 (fun H locs hO hq hz hS => ?_)
  have hO : at1 D q (.inr (6, [.int 0, .int 0, .int 0, .int 0, .int 0, .ref la, .int 0, .int 0, .int 0, .int 0, .int 0, .int 0, .int 0, .int 0, .int 0])) H := hO
  have hL := hL.kept (hq _ (Ne.symm n_q_la))
  refine lv_aload_n hx hb dX5_init_20 rfl (lv_at hl 0 rfl) ?_
  refine lv_iconst (v := 0) hx hb dX5_init_21 (by decide) ?_
  refine oi_put (v := .int 0) (ty := .boolean) hC hO hS (Or.inl rfl) rfl hinX5 tyX5 tyX5_ok nmX5 8 (by decide) k_22 (fun _ h => h) (Or.inl rfl) (by decide +kernel) rfl rfl (Nat.le_of_ble_eq_true rfl) dX5_init_22 (fun H locs hO hq hz hS => ?_)
  have hO : at1 D q (.inr (6, [.int 0, .int 0, .int 0, .int 0, .int 0, .ref la, .int 0, .int 0, .int 0, .int 0, .int 0, .int 0, .int 0, .int 0, .int 0])) H := hO
  have hL := hL.kept (hq _ (Ne.symm n_q_la))
  refine lv_aload_n hx hb dX5_init_25 rfl (lv_at hl 0 rfl) ?_
  refine lv_iconst (v := 0) hx hb dX5_init_26 (by decide) ?_
  refine oi_put (v := .int 0) (ty := .int) hC hO hS (Or.inl rfl) rfl hinX5 tyX5 tyX5_ok nmX5 9 (by decide) k_26 (fun _ h => h) (Or.inl rfl) (by decide +kernel) rfl rfl (Nat.le_of_ble_eq_true rfl) dX5_init_27 (fun H locs hO hq hz hS => ?_)
  have hO : at1 D q (.inr (6, [.int 0, .int 0, .int 0, .int 0, .int 0, .ref la, .int 0, .int 0, .int 0, .int 0, .int 0, .int 0, .int 0, .int 0, .int 0])) H := hO
  have hL := hL.kept (hq _ (Ne.symm n_q_la))
  refine lv_aload_n hx hb dX5_init_30 rfl (lv_at hl 0 rfl) ?_
  refine lv_iconst (v := 0) hx hb dX5_init_31 (by decide) ?_
  refine oi_put (v := .int 0) (ty := .int) hC hO hS (Or.inl rfl) rfl hinX5 tyX5 tyX5_ok nmX5 11 (by decide) k_29 (fun _ h => h) (Or.inl rfl) (by decide +kernel) rfl rfl (Nat.le_of_ble_eq_true rfl) dX5_init_32 (fun H locs hO hq hz hS => ?_)
  have hO : at1 D q (.inr (6, [.int 0, .int 0, .int 0, .int 0, .int 0, .ref la, .int 0, .int 0, .int 0, .int 0, .int 0, .int 0, .int 0, .int 0, .int 0])) H := hO
  have hL := hL.kept (hq _ (Ne.symm n_q_la))
  refine lv_aload_n hx hb dX5_init_35 rfl (lv_at hl 0 rfl) ?_
  refine lv_iconst (v := 0) hx hb dX5_init_36 (by decide) ?_
  refine oi_put (v := .int 0) (ty := .int) hC hO hS (Or.inl rfl) rfl hinX5 tyX5 tyX5_ok nmX5 12 (by decide) k_32 (fun _ h => h) (Or.inl rfl) (by decide +kernel) rfl rfl (Nat.le_of_ble_eq_true rfl) dX5_init_37 (fun H locs hO hq hz hS => ?_)
  have hO : at1 D q (.inr (6, [.int 0, .int 0, .int 0, .int 0, .int 0, .ref la, .int 0, .int 0, .int 0, .int 0, .int 0, .int 0, .int 0, .int 0, .int 0])) H := hO
  have hL := hL.kept (hq _ (Ne.symm n_q_la))
  refine lv_aload_n hx hb dX5_init_40 rfl (lv_at hl 0 rfl) ?_
  refine lv_iconst (v := 0) hx hb dX5_init_41 (by decide) ?_
  refine oi_put (v := .int 0) (ty := .int) hC hO hS (Or.inl rfl) rfl hinX5 tyX5 tyX5_ok nmX5 13 (by decide) k_35 (fun _ h => h) (Or.inl rfl) (by decide +kernel) rfl rfl (Nat.le_of_ble_eq_true rfl) dX5_init_42 (fun H locs hO hq hz hS => ?_)
  have hO : at1 D q (.inr (6, [.int 0, .int 0, .int 0, .int 0, .int 0, .ref la, .int 0, .int 0, .int 0, .int 0, .int 0, .int 0, .int 0, .int 0, .int 0])) H := hO
  have hL := hL.kept (hq _ (Ne.symm n_q_la))
  refine lv_aload_n hx hb dX5_init_45 rfl (lv_at hl 0 rfl) ?_
  refine lv_iconst (v := 0) hx hb dX5_init_46 (by decide) ?_
  refine oi_put (v := .int 0) (ty := .int) hC hO hS (Or.inl rfl) rfl hinX5 tyX5 tyX5_ok nmX5 14 (by decide) k_38 (fun _ h => h) (Or.inl rfl) (by decide +kernel) rfl rfl (Nat.le_of_ble_eq_true rfl) dX5_init_47 (fun H locs hO hq hz hS => ?_)
  have hO : at1 D q (.inr (6, [.int 0, .int 0, .int 0, .int 0, .int 0, .ref la, .int 0, .int 0, .int 0, .int 0, .int 0, .int 0, .int 0, .int 0, .int 0])) H := hO
  have hL := hL.kept (hq _ (Ne.symm n_q_la))
  refine lv_aload_n hx hb dX5_init_50 rfl (lv_at hl 0 rfl) ?_
  refine lv_iload_n hx hb dX5_init_51 rfl (lv_at hl 1 rfl) ?_
  refine oi_put (v := .int a0) (ty := .int) hC hO hS (Or.inl rfl) rfl hinX5 tyX5 tyX5_ok nmX5 0 (by decide) k_41 (fun _ h => h) (Or.inr ⟨rfl, hini, rfl⟩) (by decide +kernel) rfl rfl (Nat.le_of_ble_eq_true rfl) dX5_init_52 (fun H locs hO hq hz hS => ?_)
  have hO : at1 D q (.inr (6, [.int a0, .int 0, .int 0, .int 0, .int 0, .ref la, .int 0, .int 0, .int 0, .int 0, .int 0, .int 0, .int 0, .int 0, .int 0])) H := hO
  have hL := hL.kept (hq _ (Ne.symm n_q_la))
  refine lv_aload_n hx hb dX5_init_55 rfl (lv_at hl 0 rfl) ?_
  refine lv_iload_n hx hb dX5_init_56 rfl (lv_at hl 2 rfl) ?_
  refine oi_put (v := .int a1) (ty := .int) hC hO hS (Or.inl rfl) rfl hinX5 tyX5 tyX5_ok nmX5 1 (by decide) k_44 (fun _ h => h) (Or.inr ⟨rfl, hini, rfl⟩) (by decide +kernel) rfl rfl (Nat.le_of_ble_eq_true rfl) dX5_init_57 (fun H locs hO hq hz hS => ?_)
  have hO : at1 D q (.inr (6, [.int a0, .int a1, .int 0, .int 0, .int 0, .ref la, .int 0, .int 0, .int 0, .int 0, .int 0, .int 0, .int 0, .int 0, .int 0])) H := hO
  have hL := hL.kept (hq _ (Ne.symm n_q_la))
  refine lv_aload_n hx hb dX5_init_60 rfl (lv_at hl 0 rfl) ?_
  refine lv_iload_n hx hb dX5_init_61 rfl (lv_at hl 3 rfl) ?_
  refine oi_put (v := .int a2) (ty := .int) hC hO hS (Or.inl rfl) rfl hinX5 tyX5 tyX5_ok nmX5 2 (by decide) k_47 (fun _ h => h) (Or.inr ⟨rfl, hini, rfl⟩) (by decide +kernel) rfl rfl (Nat.le_of_ble_eq_true rfl) dX5_init_62 (fun H locs hO hq hz hS => ?_)
  have hO : at1 D q (.inr (6, [.int a0, .int a1, .int a2, .int 0, .int 0, .ref la, .int 0, .int 0, .int 0, .int 0, .int 0, .int 0, .int 0, .int 0, .int 0])) H := hO
  have hL := hL.kept (hq _ (Ne.symm n_q_la))
  refine lv_aload_n hx hb dX5_init_65 rfl (lv_at hl 0 rfl) ?_
  refine lv_iload hx hb dX5_init_66 (lv_at hl 4 rfl) ?_
  refine oi_put (v := .int a3) (ty := .int) hC hO hS (Or.inl rfl) rfl hinX5 tyX5 tyX5_ok nmX5 3 (by decide) k_50 (fun _ h => h) (Or.inr ⟨rfl, hini, rfl⟩) (by decide +kernel) rfl rfl (Nat.le_of_ble_eq_true rfl) dX5_init_68 (fun H locs hO hq hz hS => ?_)
  have hO : at1 D q (.inr (6, [.int a0, .int a1, .int a2, .int a3, .int 0, .ref la, .int 0, .int 0, .int 0, .int 0, .int 0, .int 0, .int 0, .int 0, .int 0])) H := hO
  have hL := hL.kept (hq _ (Ne.symm n_q_la))
  refine lv_aload_n hx hb dX5_init_71 rfl (lv_at hl 0 rfl) ?_
  refine lv_iload hx hb dX5_init_72 (lv_at hl 5 rfl) ?_
  refine oi_put (v := .int a4) (ty := .int) hC hO hS (Or.inl rfl) rfl hinX5 tyX5 tyX5_ok nmX5 4 (by decide) k_53 (fun _ h => h) (Or.inr ⟨rfl, hini, rfl⟩) (by decide +kernel) rfl rfl (Nat.le_of_ble_eq_true rfl) dX5_init_74 (fun H locs hO hq hz hS => ?_)
  have hO : at1 D q (.inr (6, [.int a0, .int a1, .int a2, .int a3, .int a4, .ref la, .int 0, .int 0, .int 0, .int 0, .int 0, .int 0, .int 0, .int 0, .int 0])) H := hO
  have hL := hL.kept (hq _ (Ne.symm n_q_la))
  refine lv_aload_n hx hb dX5_init_77 rfl (lv_at hl 0 rfl) ?_
  refine lv_iload hx hb dX5_init_78 (lv_at hl 4 rfl) ?_
  refine oi_put (v := .int a3) (ty := .int) hC hO hS (Or.inl rfl) rfl hinX5 tyX5 tyX5_ok nmX5 6 (by decide) k_56 (fun _ h => h) (Or.inl rfl) (by decide +kernel) rfl rfl (Nat.le_of_ble_eq_true rfl) dX5_init_80 (fun H locs hO hq hz hS => ?_)
  have hO : at1 D q (.inr (6, [.int a0, .int a1, .int a2, .int a3, .int a4, .ref la, .int a3, .int 0, .int 0, .int 0, .int 0, .int 0, .int 0, .int 0, .int 0])) H := hO
  have hL := hL.kept (hq _ (Ne.symm n_q_la))
  refine lv_aload_n hx hb dX5_init_83 rfl (lv_at hl 0 rfl) ?_
  refine lv_iload hx hb dX5_init_84 (lv_at hl 5 rfl) ?_
  refine lv_bipush (v := 60) hx hb dX5_init_86 (by decide) ?_
  refine lv_iadd hx hb dX5_init_88 ?_
  refine oi_put (v := .int (a4 + 60)) (ty := .int) hC hO hS (Or.inl rfl) rfl hinX5 tyX5 tyX5_ok nmX5 10 (by decide) k_59 (fun _ h => h) (Or.inl rfl) (by decide +kernel) rfl rfl (Nat.le_of_ble_eq_true rfl) dX5_init_89 (fun H locs hO hq hz hS => ?_)
  have hO : at1 D q (.inr (6, [.int a0, .int a1, .int a2, .int a3, .int a4, .ref la, .int a3, .int 0, .int 0, .int 0, .int (a4 + 60), .int 0, .int 0, .int 0, .int 0])) H := hO
  have hL := hL.kept (hq _ (Ne.symm n_q_la))
  refine lv_aload_n hx hb dX5_init_92 rfl (lv_at hl 0 rfl) ?_
  refine ww_get hx hb hts hinX5 hown hK hO rfl 5 (by decide) k_12 (fun _ h => h) rfl dX5_init_93 ?_
  obtain ⟨pq, a_pq⟩ : ∃ z, z = H.size := ⟨_, rfl⟩
  have z_pq : sz ≤ pq := by rw [a_pq, ← hsz]; exact hS.1
  have n_q_pq : q ≠ pq := by rw [a_pq]; exact Nat.ne_of_lt hO.lt
  have n_la_pq : la ≠ pq := by rw [a_pq]; exact Nat.ne_of_lt hL.lt
  refine oi_new (ci := 4) (fs := [.int 0, .int 0]) hC hS hinX3 tyX3 tyX3_ok (hts (.classLink RX5 62 RX3) (List.mem_cons_of_mem _ (List.mem_append_left _ (List.mem_append_left _ (List.mem_append_left _ (List.mem_append_left _ (List.mem_of_getElem? (i := 21) rfl))))))) (hts (.instantiable RX3 2) (List.mem_cons_of_mem _ (List.mem_append_left _ (List.mem_append_left _ (List.mem_append_left _ (List.mem_append_left _ (List.mem_of_getElem? (i := 22) rfl))))))) (hts (.initialized RX3) (List.mem_cons_of_mem _ (List.mem_append_left _ (List.mem_append_left _ (List.mem_append_left _ (List.mem_append_left _ (List.mem_of_getElem? (i := 23) rfl))))))) rfl (by decide +kernel) (Nat.le_of_ble_eq_true rfl) (Nat.le_of_ble_eq_true rfl) dX5_init_96 (fun H hP hq hz hS => ?_)
  have hO := at_keep hO hq
  have hL := at_keep hL hq
  rw [← a_pq] at hP ⊢
  refine lv_dup hx hb dX5_init_99 rfl ?_
  refine lv_iload hx hb dX5_init_100 (lv_at hl 4 rfl) ?_
  refine lv_iload hx hb dX5_init_102 (lv_at hl 5 rfl) ?_
  refine oi_init (As := [.int a3, .int a4]) (rest := [.ref pq, .ref la]) hC hP hS (Or.inr z_pq) (qX3_init l D cy pq a3 a4) (cwI 2 hts gX5_init_X3_init rfl rfl rfl (hts (.initialized RX3) (List.mem_cons_of_mem _ (List.mem_append_left _ (List.mem_append_left _ (List.mem_append_left _ (List.mem_append_left _ (List.mem_of_getElem? (i := 23) rfl))))))) (hts (.methodLink RX5 64 yX3_init) (List.mem_cons_of_mem _ (List.mem_append_left _ (List.mem_append_left _ (List.mem_append_left _ (List.mem_append_right _ (List.mem_append_left _ (List.mem_of_getElem? (i := 15) rfl)))))))) (hts (.instanceMethod yX3_init) (List.mem_cons_of_mem _ (List.mem_append_left _ (List.mem_append_left _ (List.mem_append_left _ (List.mem_append_right _ (List.mem_append_left _ (List.mem_of_getElem? (i := 16) rfl)))))))) rfl (by decide +kernel) ⟨Nat.le_of_ble_eq_true rfl, Nat.le_of_ble_eq_true rfl⟩) rfl hl.1 rfl (Nat.le_of_ble_eq_true rfl) dX5_init_104 ⟨(Nat.le_of_ble_eq_true rfl), (Nat.le_of_ble_eq_true rfl)⟩ (fun H locs hP hq hz hS => ?_)
  have hO := hO.kept (hq _ hO.lt n_q_pq)
  have hL := hL.kept (hq _ hL.lt n_la_pq)
  have hS0 := hS
  refine ra_add (rest := []) hC hJ hS (fun q h => Or.inr (hsz ▸ h)) (n := 0) (f := fun _ => none) (cap := 0) hL (Or.inr z_la) (fun _ => rfl) (fun h => absurd h (Nat.lt_irrefl 0)) (by decide) (fun i y hi _ => absurd hi (Nat.not_lt_zero i)) (any_of hK hP rfl (hW _ (List.mem_of_getElem? (i := 4) rfl))) (Ne.symm n_la_pq) (fun h => absurd h (Nat.lt_irrefl 0)) (cwV 1 hts gX5_init_Jx4a65c_add_9ea2d rfl rfl rfl (by decide +kernel) ⟨Nat.le_of_ble_eq_true rfl, Nat.le_of_ble_eq_true rfl⟩) (cwV 1 hts gX5_init_Jx4a65c_add_9ea2d rfl rfl rfl (by decide +kernel) ⟨Nat.le_of_ble_eq_true rfl, Nat.le_of_ble_eq_true rfl⟩) (cwV 1 hts gX5_init_Jx4a65c_add_9ea2d rfl rfl rfl (by decide +kernel) ⟨Nat.le_of_ble_eq_true rfl, Nat.le_of_ble_eq_true rfl⟩) hl.1 (Nat.le_of_ble_eq_true rfl) dX5_init_107 ⟨(Nat.le_of_ble_eq_true rfl), (Nat.le_of_ble_eq_true rfl)⟩ (fun md ra cap f H1 locs g1 g2 g3 _ g5 g6 g7 g8 g9 hz hS => ?_)
  have hra : H.size ≤ ra := g8.elim (fun h => absurd h.1 (Nat.lt_irrefl 0)) id
  have z_ra : sz ≤ ra := by rw [← hsz]; exact Nat.le_trans hS0.1 hra
  have n_q_ra : q ≠ ra := Nat.ne_of_lt (Nat.lt_of_lt_of_le hO.lt hra)
  have n_pq_ra : pq ≠ ra := Nat.ne_of_lt (Nat.lt_of_lt_of_le hP.lt hra)
  have hO := hO.kept (g9 _ hO.lt n_q_la (fun h => absurd h (Nat.lt_irrefl 0)))
  have hP := hP.kept (g9 _ hP.lt (Ne.symm n_la_pq) (fun h => absurd h (Nat.lt_irrefl 0)))
  refine lv_pop hx hb dX5_init_110 rfl ?_
  exact W.vret hx hb hr (fun t9 ht9 hW9 => ⟨⟨(la, ra, pq, md, cap, f), rfl, ⟨⟨z_la, z_ra, z_pq, g6, n_la_pq, Ne.symm n_pq_ra, n_q_la, n_q_ra, n_q_pq⟩, g3.2, g5⟩, by dsimp only; rw [ht9]; exact ⟨hO, g1, g2, hP⟩⟩, hS.F ht9⟩) hS.2.2 dX5_init_111
set_option maxHeartbeats 4000000 in
set_option maxRecDepth 100000 in
theorem qX2_init (l : Launch) (D : va_G) (cy : Nat → ClassId) (e0 mi q sz : Nat) : Met l yX2_init wsX2_init ({ frames := 1, cells := 3, slots := 24, locals := 23 } : Room) (va_Pc [.ref q] (fun U => U.heap.size = sz ∧ at1 D q (.inr (3, [.int 0, .int 0, .int 0, .int 0, .null, .null, .null])) U.heap ∧ JX (fun z => z = q ∨ sz ≤ z) D cy e0 mi U U.heap ∧ JO U)) (va_Qv (fun u : Nat × Nat × Nat => sz ≤ u.1 ∧ sz ≤ u.2.1 ∧ sz ≤ u.2.2 ∧ u.1 ≠ u.2.1 ∧ u.1 ≠ u.2.2 ∧ u.2.1 ≠ u.2.2 ∧ q ≠ u.1 ∧ q ≠ u.2.1 ∧ q ≠ u.2.2) (fun u t => at1 D q (.inr (3, [.int 0, .int 0, .int 0, .int 0, .ref u.1, .ref u.2.1, .ref u.2.2])) t.heap ∧ at1 D u.1 (arI cy 8 (fun _ => -1)) t.heap ∧ at1 D u.2.1 (arI cy 8 (fun _ => -1)) t.heap ∧ at1 D u.2.2 (arI cy 8 (fun _ => 0)) t.heap) (fun z => z = q ∨ sz ≤ z)) 3 24 (fun z => z = q ∨ sz ≤ z) := by
  refine Met.ofW (cc := cX2_init) (maxL := 1) (ret := none) (by decide) rfl ?_
  intro p e s m args below meth c s₁ B hml hv
  obtain ⟨rfl, hsz, hO, hJ, hW⟩ := hv
  have hK := hJ.1
  have hx := B.exec
  have hb := B.bytes
  have hr := B.returns
  have hts := atoms_spec (ws := wsX2_init) B.pre
  have hown : s.vm.findClass RX2 = some m.cls := findClass_of_methodNamed B.named
  have hlocks := B.notSynchronized
  have hini : meth.name = "<init>" := (name_of_methodNamed B.named B.method).1
  have hC : CC p s m _ c cX2_init 1 RX2 D cy wsX2_init := ⟨⟨hx, hb, hml, hown, hts⟩, hK⟩
  have hS : va_S (fun z => z = q ∨ sz ≤ z) s.heap s.heap [] := va_S.rf
  have ko1 := hts (.methodLink RX2 3 objectInit) (List.mem_cons_of_mem _ (List.mem_append_left _ (List.mem_of_getElem? (i := 0) rfl)))
  have ko2 := hts (.instanceMethod objectInit) (List.mem_cons_of_mem _ (List.mem_append_left _ (List.mem_of_getElem? (i := 1) rfl)))
  have ko3 := hts (.code objectInit ⟨#[0xb1]⟩ 1 none) (List.mem_cons_of_mem _ (List.mem_append_left _ (List.mem_of_getElem? (i := 2) rfl)))
  have k_9 := hts (.fieldLink RX2 9 "RelatorsBench$Firm" "money" "I") (List.mem_cons_of_mem _ (List.mem_append_left _ (List.mem_of_getElem? (i := 3) rfl)))
  have hinX2 : ∀ w ∈ wsX20, w ∈ wsX2_init := fun _ h => List.mem_cons_of_mem _ (List.mem_append_right _ (h))
  have k_15 := hts (.fieldLink RX2 15 "RelatorsBench$Firm" "given" "I") (List.mem_cons_of_mem _ (List.mem_append_left _ (List.mem_of_getElem? (i := 4) rfl)))
  have k_18 := hts (.fieldLink RX2 18 "RelatorsBench$Firm" "paidBySuits" "I") (List.mem_cons_of_mem _ (List.mem_append_left _ (List.mem_of_getElem? (i := 5) rfl)))
  have k_21 := hts (.fieldLink RX2 21 "RelatorsBench$Firm" "paidByAwards" "I") (List.mem_cons_of_mem _ (List.mem_append_left _ (List.mem_of_getElem? (i := 6) rfl)))
  have harr := hts (.arrayClass .int) (List.mem_cons_of_mem _ (List.mem_append_left _ (List.mem_of_getElem? (i := 7) rfl)))
  have k_24 := hts (.fieldLink RX2 24 "RelatorsBench$Firm" "toldOn" "[I") (List.mem_cons_of_mem _ (List.mem_append_left _ (List.mem_of_getElem? (i := 8) rfl)))
  have k_28 := hts (.fieldLink RX2 28 "RelatorsBench$Firm" "awardFrom" "[I") (List.mem_cons_of_mem _ (List.mem_append_left _ (List.mem_of_getElem? (i := 9) rfl)))
  have k_31 := hts (.fieldLink RX2 31 "RelatorsBench$Firm" "lostWage" "[I") (List.mem_cons_of_mem _ (List.mem_append_left _ (List.mem_of_getElem? (i := 10) rfl)))
  have hl := lv_entry ([.ref q]) (n := 1) (Nat.le_of_ble_eq_true rfl)
  rw [lg_entry_eq]
  generalize (lg_sl ([.ref q]) ++ List.replicate (1 - (lg_sl ([.ref q])).length) Slot.unset).toArray = ls at hl ⊢
  have hl : lv_has ls 1 [(0, .ref q)] := hl
  refine lv_aload_n hx hb dX2_init_0 rfl (lv_at hl 0 rfl) ?_
  refine oi_obj (a := q) hC ko1 ko2 ko3 hl.1 (Nat.le_of_ble_eq_true rfl) (Nat.le_of_ble_eq_true rfl) dX2_init_1 ?_
  refine lv_aload_n hx hb dX2_init_4 rfl (lv_at hl 0 rfl) ?_
  refine lv_iconst (v := 0) hx hb dX2_init_5 (by decide) ?_
  refine oi_put (v := .int 0) (ty := .int) hC hO hS (Or.inl rfl) rfl hinX2 tyX2 tyX2_ok nmX2 0 (by decide) k_9 (fun _ h => h) (Or.inl rfl) (by decide +kernel) rfl rfl (Nat.le_of_ble_eq_true rfl) dX2_init_6 (fun H locs hO hq hz hS => ?_)
  have hO : at1 D q (.inr (3, [.int 0, .int 0, .int 0, .int 0, .null, .null, .null])) H := hO
  refine lv_aload_n hx hb dX2_init_9 rfl (lv_at hl 0 rfl) ?_
  refine lv_iconst (v := 0) hx hb dX2_init_10 (by decide) ?_
  refine oi_put (v := .int 0) (ty := .int) hC hO hS (Or.inl rfl) rfl hinX2 tyX2 tyX2_ok nmX2 1 (by decide) k_15 (fun _ h => h) (Or.inl rfl) (by decide +kernel) rfl rfl (Nat.le_of_ble_eq_true rfl) dX2_init_11 (fun H locs hO hq hz hS => ?_)
  have hO : at1 D q (.inr (3, [.int 0, .int 0, .int 0, .int 0, .null, .null, .null])) H := hO
  refine lv_aload_n hx hb dX2_init_14 rfl (lv_at hl 0 rfl) ?_
  refine lv_iconst (v := 0) hx hb dX2_init_15 (by decide) ?_
  refine oi_put (v := .int 0) (ty := .int) hC hO hS (Or.inl rfl) rfl hinX2 tyX2 tyX2_ok nmX2 2 (by decide) k_18 (fun _ h => h) (Or.inl rfl) (by decide +kernel) rfl rfl (Nat.le_of_ble_eq_true rfl) dX2_init_16 (fun H locs hO hq hz hS => ?_)
  have hO : at1 D q (.inr (3, [.int 0, .int 0, .int 0, .int 0, .null, .null, .null])) H := hO
  refine lv_aload_n hx hb dX2_init_19 rfl (lv_at hl 0 rfl) ?_
  refine lv_iconst (v := 0) hx hb dX2_init_20 (by decide) ?_
  refine oi_put (v := .int 0) (ty := .int) hC hO hS (Or.inl rfl) rfl hinX2 tyX2 tyX2_ok nmX2 3 (by decide) k_21 (fun _ h => h) (Or.inl rfl) (by decide +kernel) rfl rfl (Nat.le_of_ble_eq_true rfl) dX2_init_21 (fun H locs hO hq hz hS => ?_)
  have hO : at1 D q (.inr (3, [.int 0, .int 0, .int 0, .int 0, .null, .null, .null])) H := hO
  refine lv_aload_n hx hb dX2_init_24 rfl (lv_at hl 0 rfl) ?_
  refine lv_bipush (v := 8) hx hb dX2_init_25 (by decide) ?_
  obtain ⟨b1, a_b1⟩ : ∃ z, z = H.size := ⟨_, rfl⟩
  have z_b1 : sz ≤ b1 := by rw [a_b1, ← hsz]; exact hS.1
  have n_q_b1 : q ≠ b1 := by rw [a_b1]; exact Nat.ne_of_lt hO.lt
  refine oi_newa hC hS harr (by decide) (N := 8) (by decide) (by decide) (Nat.le_of_ble_eq_true rfl) (Nat.le_of_ble_eq_true rfl) dX2_init_27 (fun H h1 hq hz hS => ?_)
  have hO := at_keep hO hq
  rw [← a_b1] at h1 ⊢
  refine oi_put (v := .ref b1) (ty := (.array .int)) hC hO hS (Or.inl rfl) rfl hinX2 tyX2 tyX2_ok nmX2 4 (by decide) k_24 (fun _ h => h) (Or.inr ⟨rfl, hini, rfl⟩) (by decide +kernel) rfl rfl (Nat.le_of_ble_eq_true rfl) dX2_init_29 (fun H locs hO hq hz hS => ?_)
  have hO : at1 D q (.inr (3, [.int 0, .int 0, .int 0, .int 0, .ref b1, .null, .null])) H := hO
  have h1 := h1.kept (hq _ (Ne.symm n_q_b1))
  refine lv_aload_n hx hb dX2_init_32 rfl (lv_at hl 0 rfl) ?_
  refine lv_bipush (v := 8) hx hb dX2_init_33 (by decide) ?_
  obtain ⟨b2, a_b2⟩ : ∃ z, z = H.size := ⟨_, rfl⟩
  have z_b2 : sz ≤ b2 := by rw [a_b2, ← hsz]; exact hS.1
  have n_q_b2 : q ≠ b2 := by rw [a_b2]; exact Nat.ne_of_lt hO.lt
  have n_b1_b2 : b1 ≠ b2 := by rw [a_b2]; exact Nat.ne_of_lt h1.lt
  refine oi_newa hC hS harr (by decide) (N := 8) (by decide) (by decide) (Nat.le_of_ble_eq_true rfl) (Nat.le_of_ble_eq_true rfl) dX2_init_35 (fun H h2 hq hz hS => ?_)
  have hO := at_keep hO hq
  have h1 := at_keep h1 hq
  rw [← a_b2] at h2 ⊢
  refine oi_put (v := .ref b2) (ty := (.array .int)) hC hO hS (Or.inl rfl) rfl hinX2 tyX2 tyX2_ok nmX2 5 (by decide) k_28 (fun _ h => h) (Or.inr ⟨rfl, hini, rfl⟩) (by decide +kernel) rfl rfl (Nat.le_of_ble_eq_true rfl) dX2_init_37 (fun H locs hO hq hz hS => ?_)
  have hO : at1 D q (.inr (3, [.int 0, .int 0, .int 0, .int 0, .ref b1, .ref b2, .null])) H := hO
  have h1 := h1.kept (hq _ (Ne.symm n_q_b1))
  have h2 := h2.kept (hq _ (Ne.symm n_q_b2))
  refine lv_aload_n hx hb dX2_init_40 rfl (lv_at hl 0 rfl) ?_
  refine lv_bipush (v := 8) hx hb dX2_init_41 (by decide) ?_
  obtain ⟨b3, a_b3⟩ : ∃ z, z = H.size := ⟨_, rfl⟩
  have z_b3 : sz ≤ b3 := by rw [a_b3, ← hsz]; exact hS.1
  have n_q_b3 : q ≠ b3 := by rw [a_b3]; exact Nat.ne_of_lt hO.lt
  have n_b1_b3 : b1 ≠ b3 := by rw [a_b3]; exact Nat.ne_of_lt h1.lt
  have n_b2_b3 : b2 ≠ b3 := by rw [a_b3]; exact Nat.ne_of_lt h2.lt
  refine oi_newa hC hS harr (by decide) (N := 8) (by decide) (by decide) (Nat.le_of_ble_eq_true rfl) (Nat.le_of_ble_eq_true rfl) dX2_init_43 (fun H h3 hq hz hS => ?_)
  have hO := at_keep hO hq
  have h1 := at_keep h1 hq
  have h2 := at_keep h2 hq
  rw [← a_b3] at h3 ⊢
  refine oi_put (v := .ref b3) (ty := (.array .int)) hC hO hS (Or.inl rfl) rfl hinX2 tyX2 tyX2_ok nmX2 6 (by decide) k_31 (fun _ h => h) (Or.inr ⟨rfl, hini, rfl⟩) (by decide +kernel) rfl rfl (Nat.le_of_ble_eq_true rfl) dX2_init_45 (fun H locs hO hq hz hS => ?_)
  have hO : at1 D q (.inr (3, [.int 0, .int 0, .int 0, .int 0, .ref b1, .ref b2, .ref b3])) H := hO
  have h1 := h1.kept (hq _ (Ne.symm n_q_b1))
  have h2 := h2.kept (hq _ (Ne.symm n_q_b2))
  have h3 := h3.kept (hq _ (Ne.symm n_q_b3))
  refine lv_aload_n hx hb dX2_init_48 rfl (lv_at hl 0 rfl) ?_
  refine ww_get hx hb hts hinX2 hown hK hO rfl 4 (by decide) k_24 (fun _ h => h) rfl dX2_init_49 ?_
  refine lv_iconst (v := (-1)) hx hb dX2_init_52 (by decide) ?_
  refine oi_fill (N := 8) (x := (-1)) hC (by decide) h1 hS (Or.inr z_b1) (va_cwS 2 hts gX2_init_J7_fill_53178 rfl rfl rfl (by decide +kernel) ⟨Nat.le_of_ble_eq_true rfl, Nat.le_of_ble_eq_true rfl⟩) hl.1 dX2_init_53 ⟨(Nat.le_of_ble_eq_true rfl), (Nat.le_of_ble_eq_true rfl)⟩ (fun H locs h1 hq hz hS => ?_)
  have hO := hO.kept (hq _ hO.lt n_q_b1)
  have h2 := h2.kept (hq _ h2.lt (Ne.symm n_b1_b2))
  have h3 := h3.kept (hq _ h3.lt (Ne.symm n_b1_b3))
  refine lv_aload_n hx hb dX2_init_56 rfl (lv_at hl 0 rfl) ?_
  refine ww_get hx hb hts hinX2 hown hK hO rfl 5 (by decide) k_28 (fun _ h => h) rfl dX2_init_57 ?_
  refine lv_iconst (v := (-1)) hx hb dX2_init_60 (by decide) ?_
  refine oi_fill (N := 8) (x := (-1)) hC (by decide) h2 hS (Or.inr z_b2) (va_cwS 2 hts gX2_init_J7_fill_53178 rfl rfl rfl (by decide +kernel) ⟨Nat.le_of_ble_eq_true rfl, Nat.le_of_ble_eq_true rfl⟩) hl.1 dX2_init_61 ⟨(Nat.le_of_ble_eq_true rfl), (Nat.le_of_ble_eq_true rfl)⟩ (fun H locs h2 hq hz hS => ?_)
  have hO := hO.kept (hq _ hO.lt n_q_b2)
  have h1 := h1.kept (hq _ h1.lt n_b1_b2)
  have h3 := h3.kept (hq _ h3.lt (Ne.symm n_b2_b3))
  exact W.vret hx hb hr (fun t9 ht9 hW9 => ⟨⟨(b1, b2, b3), rfl, ⟨z_b1, z_b2, z_b3, n_b1_b2, n_b1_b3, n_b2_b3, n_q_b1, n_q_b2, n_q_b3⟩, by dsimp only; rw [ht9]; exact ⟨hO, h1, h2, h3⟩⟩, hS.F ht9⟩) hS.2.2 dX2_init_64
