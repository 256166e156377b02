/-! the script's numbers; the calls of a turn -/
theorem ngt_le {x y : Int32} (h : x ≤ y) : ¬ y < x := fun q => by
  rw [Int32.lt_iff_toInt_lt] at q
  rw [Int32.le_iff_toInt_le] at h
  omega
theorem gt_nle {x y : Int32} (h : ¬ x ≤ y) : y < x := by
  rw [Int32.lt_iff_toInt_lt]
  rw [Int32.le_iff_toInt_le] at h
  omega
theorem qL_cell (l : Launch) (b Ls : Nat) (xs : Nat → Int32) (k : Nat) (hk : k < 2048) (hLs : Ls ≤ 2048) : Met l yL_cell wsL_cell ({ frames := 0, cells := 0, slots := 0, locals := 0 } : Room) (va_Pc [.ref b, .int (nI k)] (fun U => va_X b Ls xs U U.heap ∧ b < U.heap.size)) (va_Qi (fun (_ : Int32) (_ : Unit) => True) (fun _ _ => True) (fun _ => False)) 0 0 (fun _ => False) := by
  refine Met.ofW (cc := cL_cell) (maxL := 2) (ret := (some .int)) (by decide) rfl ?_
  intro p e s m args below meth c s₁ B hml hv
  obtain ⟨rfl, hX, hbl⟩ := hv
  have hx := B.exec
  have hb := B.bytes
  have hr := B.returns
  have hts := atoms_spec (ws := wsL_cell) B.pre
  have hown : s.vm.findClass RL = some m.cls := findClass_of_methodNamed B.named
  have hI : va_S (fun _ => False) s.heap s.heap [] := va_S.rf
  have k_7 := hts (.constant RL 7 (51329)) (List.mem_cons_of_mem _ (List.mem_of_getElem? (i := 0) rfl))
  have k_8 := hts (.constant RL 8 (2973467)) (List.mem_cons_of_mem _ (List.mem_of_getElem? (i := 1) rfl))
  have hl := lv_entry ([.ref b, .int (nI k)]) (n := 2) (Nat.le_of_ble_eq_true rfl)
  rw [lg_entry_eq]
  generalize (lg_sl ([.ref b, .int (nI k)]) ++ List.replicate (2 - (lg_sl ([.ref b, .int (nI k)])).length) Slot.unset).toArray = ls at hl ⊢
  have hl : lv_has ls 2 [(0, .ref b), (1, .int (nI k))] := hl
  refine lv_iload_n hx hb dL_cell_0 rfl (lv_at hl 1 rfl) ?_
  refine lv_aload_n hx hb dL_cell_1 rfl (lv_at hl 0 rfl) ?_
  refine va_slen hx hb hX hbl (fun h => h) hI dL_cell_2 ?_
  refine lv_icmp_ge (tgt := 12) hx hb dL_cell_3 (by decide) (fun c1 => ?_) (fun c1 => ?_)
  · refine lv_ldc hx hb hown k_7 dL_cell_12 ?_
    refine lv_iload_n hx hb dL_cell_14 rfl (lv_at hl 1 rfl) ?_
    refine lv_sipush (v := 131) hx hb dL_cell_15 (by decide) ?_
    refine lv_iadd hx hb dL_cell_18 ?_
    refine lv_imul hx hb dL_cell_19 ?_
    refine lv_ldc hx hb hown k_8 dL_cell_20 ?_
    refine lv_iadd hx hb dL_cell_22 ?_
    exact W.iret hx hb hr (fun t9 ht9 hW9 => ⟨⟨_, (), rfl, trivial, trivial⟩, hI.F ht9⟩) hI.2.2 dL_cell_23
  · have hlt : k < Ls := Nat.not_le.mp (fun q => c1 ((nI_leI (by omega) (by omega)).mpr q))
    refine lv_aload_n hx hb dL_cell_6 rfl (lv_at hl 0 rfl) ?_
    refine lv_iload_n hx hb dL_cell_7 rfl (lv_at hl 1 rfl) ?_
    refine va_sld hx hb hX hbl (fun h => h) hI (vp_in_nI hlt (by omega)) dL_cell_8 ?_
    refine lv_goto (tgt := 23) hx hb dL_cell_9 (by decide) ?_
    exact W.iret hx hb hr (fun t9 ht9 hW9 => ⟨⟨_, (), rfl, trivial, trivial⟩, hI.F ht9⟩) hI.2.2 dL_cell_23
theorem CE_blind {b Ls : Nat} {xs : Nat → Int32} {av : List Value} : FrameBlind (va_Pc av (fun U => va_X b Ls xs U U.heap ∧ b < U.heap.size)) := fun x U g mk q => ⟨q.1, va_X.moved (u := U) (U := U.calling g mk x) (Vm.Alike.refl U.vm) q.2.1, q.2.2⟩
section XRE
variable {p : Program} {l : Launch} {e : Env} {R : Room} {s : State} {m : MethodId} {args : Array Value} {below : List Frame} {meth : Method} {c : Code} {H : Heap} {locs : List Loc} {cells slots : Nat} {Q : State → Prop}
variable {cc : ByteArray} {pc nL : Nat} {ls : Array Slot} {rest : List Value} {D : va_G} {cy : Nat → ClassId} {la : Nat → Nat} {S L : St} {A B : Nat → Prop} {Ts : List Cond} {g : CWt} {e0 mi n0 x0 : Nat}
variable {y : MethodName} {ws : List Cond} {rm : Room} {As st0 : List Value} {bytes : ByteArray} {maxL n index mc ms : Nat} {ret : Option FieldType} {v : Int32}
theorem xr_act {S' L' : St} (hC : XC p l s m args c cc nL A B D cy e0 mi Ts) (hI : XI A B D cy g n0 la s S L H locs) (hM : Met l y ws rm (va_Pc As (XW A B D cy g S e0 mi n0 la L)) (va_Qi (fun (r : Int32) (g1 : CWt) => r = 1 ∧ XK A B e0 n0 x0 la g1 S') (fun g1 t9 => CH D cy g1 S' t9.heap ∧ LH 12 D cy la L' t9.heap) (AB A B)) mc ms (AB A B)) (cw : CallB R s args RL index y bytes maxL ret ws rm mc ms n ∧ (Cond.static y).before args s = true) (hn : As.length = n) (hsize : ls.size = nL) (hst : st0 = As.reverse ++ rest) (hr : (rest.map fun v => v.category).sum ≤ 8) (hdg : decode cc pc = .ok (.invokestatic index, 3)) (hf : cells + mc ≤ R.cells ∧ slots + ms ≤ R.slots)
    (kk : ∀ (g1 : CWt) (H1 : Heap) (locs1 : List Loc), XK A B e0 n0 x0 la g1 S' → XI A B D cy g1 n0 la s S' L' H1 locs1 → W p l e R s m args below meth c H1 locs1 (cells + mc) (slots + ms) Q (F0 m (pc + 3) ls (.int 1 :: rest))) : W p l e R s m args below meth c H locs cells slots Q (F0 m pc ls st0) := by
  refine va_calli (va_runS (As := As) (rest := rest) hC.1.1 hM cw ⟨XW_blind, fun U hU hW => ⟨rfl, xr_XW hC hI hU hW⟩⟩ rfl hn hsize hst (lv_room hr) hdg hf) hI.2.2.1 (fun q _ h => h) (fun q h => h) (fun r g1 t H1 locs1 ht hvm hw hB hz1 hk1 hS1 => ?_)
  rw [ht] at hB
  rw [hw.1]
  exact kk g1 H1 locs1 hw.2 ⟨hB.1, hB.2, hS1, Nat.le_trans hI.2.2.2 hz1⟩
theorem xr_same (hC : XC p l s m args c cc nL A B D cy e0 mi Ts) (hI : XI A B D cy g n0 la s S L H locs) (hM : Met l y ws rm (va_Pc As (XW A B D cy g S e0 mi n0 la L)) (va_Qi (fun (r : Int32) (_ : Unit) => r = 1) (fun _ t9 => CH D cy g S t9.heap ∧ LH 12 D cy la L t9.heap) (AB A B)) mc ms (AB A B)) (cw : CallB R s args RL index y bytes maxL ret ws rm mc ms n ∧ (Cond.static y).before args s = true) (hn : As.length = n) (hsize : ls.size = nL) (hst : st0 = As.reverse ++ rest) (hr : (rest.map fun v => v.category).sum ≤ 8) (hdg : decode cc pc = .ok (.invokestatic index, 3)) (hf : cells + mc ≤ R.cells ∧ slots + ms ≤ R.slots)
    (kk : ∀ (H1 : Heap) (locs1 : List Loc), XI A B D cy g n0 la s S L H1 locs1 → W p l e R s m args below meth c H1 locs1 (cells + mc) (slots + ms) Q (F0 m (pc + 3) ls (.int 1 :: rest))) : W p l e R s m args below meth c H locs cells slots Q (F0 m pc ls st0) := by
  refine va_calli (va_runS (As := As) (rest := rest) hC.1.1 hM cw ⟨XW_blind, fun U hU hW => ⟨rfl, xr_XW hC hI hU hW⟩⟩ rfl hn hsize hst (lv_room hr) hdg hf) hI.2.2.1 (fun q _ h => h) (fun q h => h) (fun r g1 t H1 locs1 ht hvm hw hB hz1 hk1 hS1 => ?_)
  rw [ht] at hB
  subst hw
  exact kk H1 locs1 ⟨hB.1, hB.2, hS1, Nat.le_trans hI.2.2.2 hz1⟩
theorem xr_cell {b Ls : Nat} {xs : Nat → Int32} (hC : XC p l s m args c cc nL A B D cy e0 mi Ts) (hI : XI A B D cy g n0 la s S L H locs) (hX : va_X b Ls xs s s.heap) (hbl : b < s.heap.size) (hbA : ¬ AB A B b) (hM : Met l y ws rm (va_Pc As (fun U => va_X b Ls xs U U.heap ∧ b < U.heap.size)) (va_Qi (fun (_ : Int32) (_ : Unit) => True) (fun _ _ => True) (fun _ => False)) 0 0 (fun _ => False)) (cw : CallB R s args RL index y bytes maxL ret ws rm 0 0 n ∧ (Cond.static y).before args s = true) (hn : As.length = n) (hsize : ls.size = nL) (hst : st0 = As.reverse ++ rest) (hr : (rest.map fun v => v.category).sum ≤ 8) (hdg : decode cc pc = .ok (.invokestatic index, 3)) (hf : cells ≤ R.cells ∧ slots ≤ R.slots)
    (kk : ∀ (v : Int32) (H1 : Heap) (locs1 : List Loc), XI A B D cy g n0 la s S L H1 locs1 → W p l e R s m args below meth c H1 locs1 cells slots Q (F0 m (pc + 3) ls (.int v :: rest))) : W p l e R s m args below meth c H locs cells slots Q (F0 m pc ls st0) := by
  refine va_calli (va_runS (As := As) (rest := rest) hC.1.1 hM cw ⟨CE_blind, fun U hU hW => ⟨rfl, by rw [hU]; exact (hX.kept (hI.2.2.1.2.1 b hbl hbA)).moved hW.alike, by rw [hU]; exact Nat.lt_of_lt_of_le hbl hI.2.2.1.1⟩⟩ rfl hn hsize hst (lv_room hr) hdg hf) hI.2.2.1 (fun q _ h => h.elim) (fun q h => h.elim) (fun r u t H1 locs1 ht hvm hw hB hz1 hk1 hS1 => ?_)
  exact kk r H1 locs1 ⟨hI.1.keep (fun q hq => hk1 q hq (fun h => h)), hI.2.1.keep (fun q hq => hk1 q hq (fun h => h)), hS1, Nat.le_trans hI.2.2.2 hz1⟩
end XRE
theorem scheme_g {L : St} (hV : LV L) (v : Int32) : ∃ a, a < 8 ∧ (¬ L 11 1 = 0 → fL_low v (L 11 1) = nI a ∧ a < q1 L) := by
  have hb := hV.b1
  by_cases c : L 11 1 = 0
  · exact ⟨0, by decide, fun q => absurd c q⟩
  · obtain ⟨a, ha, ea⟩ := low_n v (n := L 11 1) (N := q1 L) hV.n1 (cnt_pos hV.n1 c) (by omega)
    exact ⟨a, by omega, fun _ => ⟨ea, ha⟩⟩
theorem emp_in {M : Nat} {S L : St} (hR : REL M S L) {t : Nat} (ht : t < 5) : vp_in (L 4 (8 * t + 2)) 4 := by
  obtain ⟨-, -, t2, -, -, -, -, -, h49, -⟩ := hR.t t ht
  rw [t2]
  rcases h49 with q | ⟨e, he, q⟩
  · rw [q]
    exact vp_in_nI (n := 0) (by decide) (by decide)
  · rw [q, nI_1]
    exact vp_in_nI (by omega) (by decide)
