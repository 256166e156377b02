/-! the law's loop (its heads stand in the skeleton) -/
def R_law : String := "RelatorsBenchLaw"
def lw_P (b : Addr) (xs : List Int32) (args : Array Value) (s : State) : Prop := args = #[.ref b] ∧ s.IntsAt b xs ∧ xs.length ≤ 260 ∧ (Jvm.Cond.and given_1 narrow_1).before args s = true
def lw_Q (_ : Array Value) (s : State) (o : Outcome) (t : State) : Prop := o = .returned (some (.int 1)) ∧ Framed s o t [] 600130 7301080
def lw_Z (below : List Frame) (a : Array Value) (s : State) : State → Prop := fun t => ∃ o, t.status = .running ∧ Ended t below o ∧ lw_Q a s o t
/-- the law's own end, with 1 on the stack, nothing written that was there before, its room as the claim has it -/
theorem lw_ret {p : Program} {l : Launch} {e : Env} {s : State} {m : MethodId} {below : List Frame} {meth : Method} {c : Code} {b : Nat} (hx : p.tables.exec = Jvm.exec) (hb : c.code = code) (hr : meth.sig.returnType = ret) (hlocks : meth.locks = false) {pc : Nat} {H : Heap} {ls : Array Slot} (hdg : decode code pc = .ok (.ireturn, 1)) : W p l e room_1 s m #[Value.ref b] below meth c H [] 600130 7301080 (lw_Z below #[Value.ref b] s) (F0 m pc ls [.int 1]) := by
  intro T hT X
  obtain ⟨fs, hret, hrun, hended, hW, hframe⟩ := X.leave (v := some (.int 1)) (hlocks := hlocks) (fun h => by rw [hr] at h; cases h)
  have hmeth' : T.vm.method? m = some meth := X.method'
  refine ⟨T.setFrames fs, ?_, .returned (some (.int 1)), hrun, hended, rfl, ⟨_, rfl⟩, hW, hframe⟩
  jvm_step X.here [X.here.top, hx, hb, hdg, hmeth', hr, ret, narrow_b1]
  (try refine ⟨rfl, ?_⟩); (try refine ⟨rfl, ?_⟩)
  first | (intro acts; rw [hret _ acts rfl rfl rfl]) | rw [hret _ _ rfl rfl rfl]
  exact Steps.refl _
/-- what holds at the law's entry: the machine, the code, the tables' words (any of lw_tbl by 'hts w (by decide +kernel)'), the script of L ints xs at the cell b, what the Statement gives of the start (any of its parts by flat_of_before) -/
def lw_At (p : Program) (s : State) (m : MethodId) (meth : Method) (c : Code) (b L : Nat) (xs : Nat → Int32) : Prop :=
  p.tables.exec = Jvm.exec ∧ c.code = code ∧ meth.sig.returnType = ret ∧ c.maxLocals = 21 ∧ s.vm.findClass R_law = some m.cls ∧ (∀ w ∈ lw_tbl, w.before #[Value.ref b] s = true) ∧ va_X b L xs s s.heap ∧ b < s.heap.size ∧ meth.locks = false ∧ (Jvm.Cond.and given_1 narrow_1).before #[Value.ref b] s = true
set_option maxHeartbeats 8000000 in
set_option maxRecDepth 100000 in
theorem ll_loop {p : Program} {l : Launch} {e : Env} {s : State} {m : MethodId} {below : List Frame} {meth : Method} {c : Code} {D : va_G} {cy : Nat → ClassId} {la : Nat → Nat} {A B : Nat → Prop} {e0 mi n0 x0 b Ls : Nat} {xs : Nat → Int32} (hC : XC p l s m #[Value.ref b] c cL_law 21 A B D cy e0 mi wsL_law) (hX : va_X b Ls xs s s.heap) (hbl : b < s.heap.size) (hbA : ¬ AB A B b) (hLs : Ls ≤ 2048) (hAB : ∀ q, AB A B q → s.heap.size ≤ q) (hr : meth.sig.returnType = ret) (hlocks : meth.locks = false) {g : CWt} {S L : St} (hK : XK A B e0 n0 x0 la g S) {H : Heap} {locs : List Loc} {ls : Array Slot} (hI : XI A B D cy g n0 la s S L H locs) (hR : REL 0 S L) (hl : lv_has ls 21 [(0, .ref b), (1, .ref x0), (2, .ref (la 0)), (3, .ref (la 1)), (4, .ref (la 2)), (5, .ref (la 3)), (6, .ref (la 4)), (7, .ref (la 5)), (8, .ref (la 6)), (9, .ref (la 7)), (10, .ref (la 8)), (11, .ref (la 9)), (12, .ref (la 10)), (13, .ref (la 11)), (14, .int 1), (15, .int (nI 0))]) : W p l e room_1 s m #[Value.ref b] below meth c H locs 200 2000 (lw_Z below #[Value.ref b] s) (F0 m 84 ls []) := by
  have hx := hC.1.1.1
  have hb := hC.1.1.2.1
  refine w_loopK (σ := CWt × St × St) 130 84 200 208 2000 1642 (fun i z H locs ls => XK A B e0 n0 x0 la z.1 z.2.1 ∧ XI A B D cy z.1 n0 la s z.2.1 z.2.2 H locs ∧ REL (3000 * i) z.2.1 z.2.2 ∧ lv_has ls 21 [(0, .ref b), (1, .ref x0), (2, .ref (la 0)), (3, .ref (la 1)), (4, .ref (la 2)), (5, .ref (la 3)), (6, .ref (la 4)), (7, .ref (la 5)), (8, .ref (la 6)), (9, .ref (la 7)), (10, .ref (la 8)), (11, .ref (la 9)), (12, .ref (la 10)), (13, .ref (la 11)), (14, .int 1), (15, .int (nI i))]) ?_ (g, S, L) ⟨hK, hI, hR, hl⟩
  intro i z H locs ls hz hi ih
  obtain ⟨g, S, L⟩ := z
  obtain ⟨hK, hI, hR, hl⟩ := hz
  refine lv_iload hx hb dL_law_84 (lv_at hl 15 rfl) ?_
  refine lv_sipush (v := 130) hx hb dL_law_86 (by decide) ?_
  refine lv_icmp_ge (tgt := 565) hx hb dL_law_89 (by decide) (fun c1 => ?_) (fun c1 => ?_)
  · refine lv_iload hx hb dL_law_565 (lv_at hl 14 rfl) ?_
    refine va_forget (fun q hq => hAB q.base (hI.2.2.1.2.2 q hq)) ?_
    refine W.widen (k := 600130) (n := 7301080) (by omega) (by omega) ?_
    exact lw_ret hx hb hr hlocks dL_law_567
  · have hlt : i < 130 := w_in (by decide : (130 : Int32) = nI 130) hi (by decide) c1
    refine lv_iload hx hb dL_law_92 (lv_at hl 14 rfl) ?_
    refine lv_if_eq (tgt := 565) hx hb dL_law_94 (by decide) (fun c => absurd c (by decide : ¬ (1 : Int32) = 0)) (fun _ => ?_)
    refine lt_turn hC hX hbl hbA hLs (M := 3000 * i) (by omega) hlt (by omega) (by omega) (fun zv z2 H2 locs2 ls2 hz2 => ?_) hK hI hR hl
    refine lt_tail hC hX hbl hbA hLs (M := 3000 * i) (i := i) (by omega) hlt (by omega) (by omega) (fun z3 H3 locs3 ls3 hz3 => ?_) zv z2 H2 locs2 ls2 hz2
    refine W.widen (k := 200 + 208 * (i + 1)) (n := 2000 + 1642 * (i + 1)) (by omega) (by omega) ?_
    have h3 := hz3.2.2.1
    rw [show 3000 * i + 3000 = 3000 * (i + 1) by omega] at h3
    exact ih z3 H3 locs3 ls3 hlt ⟨hz3.1, hz3.2.1, h3, hz3.2.2.2⟩
/-- the rows of a new bench -/
theorem rel0 : REL 0 S0 (fun _ _ => 0) := by
  refine ⟨⟨rfl, rfl, rfl, rfl, rfl, rfl, rfl⟩, fun a _ => ⟨rfl, rfl, rfl, rfl, rfl, (show (0 : Int32) = -1 + 1 by decide), rfl⟩, fun a ha => absurd ha (Nat.not_lt_zero a), ⟨fun i hi => absurd hi (Nat.not_lt_zero i), fun i _ => ⟨rfl, rfl⟩⟩, ⟨fun b _ => ⟨(show (0 : Int32) = -1 + 1 by decide), Or.inl rfl⟩, fun b _ _ => rfl, fun b _ => Or.inl rfl⟩, fun t _ => ⟨rfl, rfl, (show (0 : Int32) = -1 + 1 by decide), rfl, rfl, rfl, rfl, ⟨0, by decide, rfl⟩, Or.inl rfl, 0, by decide, rfl⟩, ⟨fun i hi => absurd hi (Nat.not_lt_zero i), fun i _ => rfl⟩, fun k _ => ⟨rfl, rfl, rfl, rfl, rfl, (show (0 : Int32) = 8 * 0 + 0 by decide), rfl, rfl, rfl, rfl⟩, ⟨by decide, fun k _ => ⟨⟨0, by decide, rfl⟩, 0, by decide, rfl⟩, fun k hk => absurd hk (Nat.not_lt_zero k)⟩, ⟨fun f _ => ⟨rfl, rfl, rfl, rfl, 0, by decide, rfl⟩, rfl, rfl, rfl, rfl⟩, fun f _ t _ => ⟨(show (0 : Int32) = -1 + 1 by decide), rfl, fun q => absurd rfl q⟩, fun k hk => absurd hk (Nat.not_lt_zero k)⟩
