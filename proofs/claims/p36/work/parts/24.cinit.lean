/-! objects under construction: one cell at a time -/
section OI
variable {p : Program} {l : Launch} {e : Env} {R : Room} {s : State} {m : MethodId} {args : Array Value} {below : List Frame} {meth : Method} {c : Code} {H : Heap} {locs : List Loc} {cells slots : Nat} {Q : State → Prop}
variable {cc : ByteArray} {pc nL : Nat} {ls : Array Slot} {rest : List Value} {D : va_G} {cy : Nat → ClassId} {A : Nat → Prop} {Ts : List Cond} {own C ref : String} {a ci index : Nat} {fs : List Value} {T : u_T} {N : Nat} {v : Value} {ty : FieldType}
theorem oi_put (hC : CC p s m args c cc nL own D cy Ts) (hO : at1 D a (.inr (ci, fs)) H) (hS : va_S A s.heap H locs) (hA : A a) (hc : vwCl[ci]? = some (C, T, N)) (hin : ∀ w ∈ u_ws C T N, w ∈ Ts) (ty0 : Nat → FieldType) (hty : ∀ k, k < N → parseFieldDescriptor (T k).2.2.1 = some (ty0 k)) (hnm : ∀ a, a < N → ∀ b, b < N → a ≠ b → (T a).2.1 ≠ (T b).2.1) (j : Nat) (hj : j < N) (hlink : (Cond.fieldLink own index ref (T j).2.1 (T j).2.2.1).before args s = true) (hsame : ∀ x, s.fieldFound? (T j).1 (T j).2.1 (T j).2.2.1 = some x → s.fieldFound? ref (T j).2.1 (T j).2.2.1 = some x) (hfin : (T j).2.2.2 = false ∨ ((T j).2.2.2 = true ∧ meth.name = "<init>" ∧ (T j).1 = own)) (hd : parseFieldDescriptor (T j).2.2.1 = some ty) (hn : narrow ty v = v) (hfit : fits ty v = true) (hl : j < fs.length) (hdg : decode cc pc = .ok (.putfield index, 3))
    (kk : ∀ (H1 : Heap) (locs1 : List Loc), at1 D a (.inr (ci, fs.set j v)) H1 → (∀ z : Nat, z ≠ a → H1[z]? = H[z]?) → H1.size = H.size → va_S A s.heap H1 locs1 → W p l e R s m args below meth c H1 locs1 cells slots Q (F0 m (pc + 3) ls rest)) : W p l e R s m args below meth c H locs cells slots Q (F0 m pc ls (v :: .ref a :: rest)) := by
  rcases hfin with hfin | ⟨hfin, hin2, hdecl⟩
  · exact ww_put hC.1.1 hC.1.2.1 hC.1.2.2.2.2 hin ty0 hty hnm hC.1.2.2.2.1 hC.2 hO hc j hj hlink hsame hfin hd hn hfit hl hdg (fun H1 q h1 z oq => kk H1 _ h1 oq z (S_put q hS z oq hA))
  · exact ww_putF hC.1.1 hC.1.2.1 hC.1.2.2.2.2 hin ty0 hty hnm hC.1.2.2.2.1 hC.2 hO hc j hj hlink hsame hfin hin2 hdecl hd hn hfit hl hdg (fun H1 q h1 z oq => kk H1 _ h1 oq z (S_put q hS z oq hA))
theorem oi_obj (hC : CC p s m args c cc nL own D cy Ts) (hlink : (Cond.methodLink own index Lib.objectInit).before args s = true) (hinst : (Cond.instanceMethod Lib.objectInit).before args s = true) (hcode : (Cond.code Lib.objectInit ⟨#[0xb1]⟩ 1 none).before args s = true) (hsize : ls.size = nL) (hframes : 1 ≤ R.frames) (hlocals : 12 ≤ R.locals) (hdg : decode cc pc = .ok (.invokespecial index, 3))
    (kk : W p l e R s m args below meth c H locs cells slots Q (F0 m (pc + 3) ls [])) : W p l e R s m args below meth c H locs cells slots Q (F0 m pc ls [.ref a]) :=
  W.objInit hC.1.1 hC.1.2.1 hC.1.2.2.2.1 hlink hinst hcode (g := F0 m pc ls [.ref a]) rfl (hsize.trans hC.1.2.2.1.symm) rfl hdg hframes hlocals kk
/-- the class of the int arrays is cy 0 -/
theorem cy0_eq {cA : ClassId} (h : KK D cy s) (h2 : s.vm.findClass ("[" ++ (FieldType.int).toString) = some cA) : cA = cy 0 := by
  have h4 := (h.2 0 _ rfl).2
  exact Option.some.inj (h2.symm.trans h4)
theorem oi_newa (hC : CC p s m args c cc nL own D cy Ts) (hS : va_S A s.heap H locs) (harr : (Cond.arrayClass .int).before args s = true) {n : Int32} {N : Nat} (hn : ¬ n < 0) (hN : n.toNatClampNeg = N) (hbytes : N * 4 ≤ 536870912) (hcells : cells + 1 ≤ R.cells) (hslots : slots + N ≤ R.slots) (hdg : decode cc pc = .ok (.newarray .int, 2))
    (kk : ∀ (H1 : Heap), at1 D H.size (arI cy N (fun _ => 0)) H1 → (∀ z : Nat, z < H.size → H1[z]? = H[z]?) → H1.size = H.size + 1 → va_S A s.heap H1 locs → W p l e R s m args below meth c H1 locs (cells + 1) (slots + N) Q (F0 m (pc + 2) ls (.ref H.size :: rest))) : W p l e R s m args below meth c H locs cells slots Q (F0 m pc ls (.int n :: rest)) := by
  refine va_newaK hC.1.1 hC.1.2.1 (atype := .int) harr (g := F0 m pc ls (.int n :: rest)) rfl hdg rfl hn hN hbytes hcells hslots rfl (fun H1 cA e1 z1 o1 hAr hNm => ?_)
  obtain rfl := cy0_eq hC.2 hNm
  exact kk H1 e1 o1 z1 (S_new hS z1 o1)
theorem oi_new (hC : CC p s m args c cc nL own D cy Ts) (hS : va_S A s.heap H locs) (hin : ∀ w ∈ u_ws C T N, w ∈ Ts) (ty : Nat → FieldType) (hty : ∀ k, k < N → parseFieldDescriptor (T k).2.2.1 = some (ty k)) (hcl : (Cond.classLink own index C).before args s = true) (hinst : (Cond.instantiable C N).before args s = true) (hini : (Cond.initialized C).before args s = true) (hc : vwCl[ci]? = some (C, T, N)) (hfs : ∀ j, j < N → defaultValue (ty j) = vp_V fs j) (hcells : cells + 1 ≤ R.cells) (hslots : slots + N ≤ R.slots) (hdg : decode cc pc = .ok (.new index, 3))
    (kk : ∀ (H1 : Heap), at1 D H.size (.inr (ci, fs)) H1 → (∀ z : Nat, z < H.size → H1[z]? = H[z]?) → H1.size = H.size + 1 → va_S A s.heap H1 locs → W p l e R s m args below meth c H1 locs (cells + 1) (slots + N) Q (F0 m (pc + 3) ls (.ref H.size :: rest))) : W p l e R s m args below meth c H locs cells slots Q (F0 m pc ls rest) :=
  ww_new hC.1.1 hC.1.2.1 hC.1.2.2.2.2 hin ty hty hC.1.2.2.2.1 hcl hinst hini hC.2 hc hfs hcells hslots hdg (fun H1 h1 z o => kk H1 h1 o z (S_new hS z o))
/-- a constructor that writes its own object alone -/
abbrev CInit (l : Launch) (D : va_G) (cy : Nat → ClassId) (y : MethodName) (ws : List Cond) (rm : Room) (q : Nat) (As : List Value) (ci : Nat) (fs fs' : List Value) : Prop := Met l y ws rm (va_Pc (.ref q :: As) (fun U => at1 D q (.inr (ci, fs)) U.heap ∧ KK D cy U)) (va_Qv (fun _ : Unit => True) (fun _ t => at1 D q (.inr (ci, fs')) t.heap) (fun z => z = q)) 0 0 (fun z => z = q)
theorem CIn_blind {q : Nat} {av : List Value} : FrameBlind (va_Pc av (fun U => at1 D q (.inr (ci, fs)) U.heap ∧ KK D cy U)) := fun x U g mk h => ⟨h.1, h.2.1, va_K.moved (u := U) (U := U.calling g mk x) (Vm.Alike.refl U.vm) h.2.2⟩
variable {y : MethodName} {ws : List Cond} {rm : Room} {As st0 : List Value} {bytes : ByteArray} {maxL n : Nat} {fs' : List Value}
theorem oi_init (hC : CC p s m args c cc nL own D cy Ts) (hO : at1 D a (.inr (ci, fs)) H) (hS : va_S A s.heap H locs) (hA : A a) (hM : CInit l D cy y ws rm a As ci fs fs') (cw : CallB R s args own index y bytes maxL none ws rm 0 0 n ∧ y.name = "<init>" ∧ (Cond.instanceMethod y).before args s = true) (hn : As.length = n) (hsize : ls.size = nL) (hst : st0 = As.reverse ++ .ref a :: rest) (hr : (rest.map fun v => v.category).sum ≤ 8) (hdg : decode cc pc = .ok (.invokespecial index, 3)) (hf : cells ≤ R.cells ∧ slots ≤ R.slots)
    (kk : ∀ (H1 : Heap) (locs1 : List Loc), at1 D a (.inr (ci, fs')) H1 → (∀ z : Nat, z < H.size → z ≠ a → H1[z]? = H[z]?) → H.size ≤ H1.size → va_S A s.heap H1 locs1 → W p l e R s m args below meth c H1 locs1 cells slots Q (F0 m (pc + 3) ls rest)) : W p l e R s m args below meth c H locs cells slots Q (F0 m pc ls st0) := by
  refine va_callv (va_runI (As := As) (rest := rest) hC.1 hM cw ⟨CIn_blind, fun U hU hW => ⟨rfl, by rw [hU]; exact hO, va_K.moved hW.alike hC.2⟩⟩ rfl hn hsize hst (lv_room hr) hdg hf) hS (fun q _ h => by rw [h]; exact hA) (fun q h => by rw [h]; exact hA) (fun u t H1 locs1 ht hvm hw hB hz1 hk1 hS1 => ?_)
  rw [ht] at hB
  exact kk H1 locs1 hB hk1 hz1 hS1
end OI
theorem fill_in {f : Nat → Int32} {x : Int32} {i : Nat} : upd (fun j => if j < i then x else f j) i x = (fun j => if j < i + 1 then x else f j) := by
  funext j
  by_cases h : j = i
  · subst h; simp [upd]
  · have : (j < i + 1) ↔ j < i := by omega
    simp [upd, h, this]

