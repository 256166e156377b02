/-! the JDK's lists: cells, what the launch gives, pure calls -/
abbrev alC (md : Int32) (e : Nat) (sz : Int32) : va_E := .inr (0, [.int md, .ref e, .int sz])
abbrev arO (cy : Nat → ClassId) (cap : Nat) (f : Nat → Option Nat) : va_E := .inl (cy 4, cap, .inr (.inr (.inr (.inr f))))
def ALp (D : va_G) (cy : Nat → ClassId) (a e : Nat) (md sz : Int32) (cap : Nat) (f : Nat → Option Nat) : State → Prop := fun U => va_P D vwCl [(a, alC md e sz), (e, arO cy cap f)] U.heap ∧ KK D cy U
theorem AL_blind {D : va_G} {cy : Nat → ClassId} {a e : Nat} {md sz : Int32} {cap : Nat} {f : Nat → Option Nat} {av : List Value} : FrameBlind (va_Pc av (ALp D cy a e md sz cap f)) := fun x U g mk q => ⟨q.1, q.2.1, va_K.moved (u := U) (U := U.calling g mk x) (Vm.Alike.refl U.vm) q.2.2⟩
theorem va_Pk {D : va_G} {cl : List vw_C} {ws : va_W} {H H1 : Heap} (h : va_P D cl ws H) (hk : ∀ q : Nat, q < H.size → H1[q]? = H[q]?) : va_P D cl ws H1 := h.kept (fun k q hq => hk q.1 (h k q hq).lt)
/-- what the launch gives a list: the classes, Object[]'s own Class object, the shared empty array -/
def JX (A : Nat → Prop) (D : va_G) (cy : Nat → ClassId) (e0 mi : Nat) (U : State) (H : Heap) : Prop := KK D cy U ∧ va_AO "java/lang/Object" U ∧ va_Mi "[Ljava/lang/Object;" mi U ∧ va_Dc U ∧ va_Z "java/util/ArrayList" "DEFAULTCAPACITY_EMPTY_ELEMENTDATA" "[Ljava/lang/Object;" (.ref e0) A U H ∧ va_T (.object "java/lang/Object") e0 0 (fun _ => .null) A U H
theorem JX.moved {A : Nat → Prop} {D : va_G} {cy : Nat → ClassId} {e0 mi : Nat} {u U : State} {H : Heap} (hvm : u.vm.Alike U.vm) (h : JX A D cy e0 mi u H) : JX A D cy e0 mi U H := ⟨va_K.moved hvm h.1, h.2.1.moved hvm, h.2.2.1.moved hvm, h.2.2.2.1.moved hvm, va_Z.moved hvm h.2.2.2.2.1, va_T.moved hvm h.2.2.2.2.2⟩
theorem JX.kept {A : Nat → Prop} {D : va_G} {cy : Nat → ClassId} {e0 mi : Nat} {U : State} {H H1 : Heap} (h : JX A D cy e0 mi U H) (hq : ∀ a : Nat, a < H.size → ¬ A a → H1[a]? = H[a]?) : JX A D cy e0 mi U H1 := ⟨h.1, h.2.1, h.2.2.1, h.2.2.2.1, va_Z.kept h.2.2.2.2.1 hq, va_T.kept h.2.2.2.2.2 hq⟩
theorem JX.narrow {A B : Nat → Prop} {D : va_G} {cy : Nat → ClassId} {e0 mi : Nat} {U : State} {H : Heap} (h : JX A D cy e0 mi U H) (hAB : ∀ q, B q → A q) : JX B D cy e0 mi U H := ⟨h.1, h.2.1, h.2.2.1, h.2.2.2.1, va_Z.narrow h.2.2.2.2.1 hAB, va_T.narrow h.2.2.2.2.2 hAB⟩
theorem JX.blind {A : Nat → Prop} {D : va_G} {cy : Nat → ClassId} {e0 mi : Nat} {U : State} {g : JFrame} {mk : MethodId} {x : Array Value} (h : JX A D cy e0 mi U U.heap) : JX A D cy e0 mi (U.calling g mk x) (U.calling g mk x).heap := JX.moved (u := U) (U := U.calling g mk x) (Vm.Alike.refl U.vm) h
section PRC
variable {p : Program} {l : Launch} {e : Env} {R : Room} {s : State} {m : MethodId} {args : Array Value} {below : List Frame} {meth : Method} {c : Code} {H : Heap} {locs : List Loc} {cells slots : Nat} {Q : State → Prop}
variable {cc : ByteArray} {pc : Nat} {ls : Array Slot} {rest : List Value} {A : Nat → Prop} {Ts : List Cond} {own C : String}
variable {y : MethodName} {ws : List Cond} {rm : Room} {As st0 : List Value} {bytes : ByteArray} {maxL nL n index b : Nat} {ret : Option FieldType} {Pre : State → Prop}
abbrev PRef (l : Launch) (Pre : State → Prop) (y : MethodName) (ws : List Cond) (rm : Room) (av : List Value) (v : Nat) : Prop := Met l y ws rm (va_Pc av Pre) (va_Qr (fun (_ : Unit) => True) (fun _ ra _ => ra = v) (fun _ => False)) 0 0 (fun _ => False)
abbrev PInt (l : Launch) (Pre : State → Prop) (y : MethodName) (ws : List Cond) (rm : Room) (av : List Value) (v : Int32) : Prop := Met l y ws rm (va_Pc av Pre) (va_Qi (fun (r : Int32) (_ : Unit) => r = v) (fun _ _ => True) (fun _ => False)) 0 0 (fun _ => False)
theorem pr_callr {v : Nat} (hC : CallFix p m c cc nL s args Ts own) (hS : va_S A s.heap H locs) (hM : PRef l Pre y ws rm (.ref b :: As) v) (cw : CallW R s args own C index y bytes maxL ret ws rm 0 0 n) (hp : PreV s H C b (va_Pc (.ref b :: As) Pre) As) (hn : As.length = n) (hsize : ls.size = nL) (hst : st0 = As.reverse ++ .ref b :: rest) (hr : (rest.map fun v => v.category).sum ≤ 8) (hdg : decode cc pc = .ok (.invokevirtual index, 3)) (hf : cells ≤ R.cells ∧ slots ≤ R.slots)
    (kk : ∀ (H1 : Heap) (locs1 : List Loc), (∀ q : Nat, q < H.size → H1[q]? = H[q]?) → H.size ≤ H1.size → va_S A s.heap H1 locs1 → W p l e R s m args below meth c H1 locs1 cells slots Q (F0 m (pc + 3) ls (.ref v :: rest))) : W p l e R s m args below meth c H locs cells slots Q (F0 m pc ls st0) := by
  refine va_callr (va_runV (As := As) (rest := rest) hC hM cw hp rfl hn hsize hst (lv_room hr) hdg hf) hS (fun q _ h => h.elim) (fun q h => h.elim) (fun u ra t H1 locs1 ht hvm hw hB hz1 hk1 hS => ?_)
  subst hB
  exact kk H1 locs1 (fun q hq => hk1 q hq (fun h => h)) hz1 hS
theorem pr_calli {v : Int32} (hC : CallFix p m c cc nL s args Ts own) (hS : va_S A s.heap H locs) (hM : PInt l Pre y ws rm (.ref b :: As) v) (cw : CallW R s args own C index y bytes maxL ret ws rm 0 0 n) (hp : PreV s H C b (va_Pc (.ref b :: As) Pre) As) (hn : As.length = n) (hsize : ls.size = nL) (hst : st0 = As.reverse ++ .ref b :: rest) (hr : (rest.map fun v => v.category).sum ≤ 8) (hdg : decode cc pc = .ok (.invokevirtual index, 3)) (hf : cells ≤ R.cells ∧ slots ≤ R.slots)
    (kk : ∀ (H1 : Heap) (locs1 : List Loc), (∀ q : Nat, q < H.size → H1[q]? = H[q]?) → H.size ≤ H1.size → va_S A s.heap H1 locs1 → W p l e R s m args below meth c H1 locs1 cells slots Q (F0 m (pc + 3) ls (.int v :: rest))) : W p l e R s m args below meth c H locs cells slots Q (F0 m pc ls st0) := by
  refine va_calli (va_runV (As := As) (rest := rest) hC hM cw hp rfl hn hsize hst (lv_room hr) hdg hf) hS (fun q _ h => h.elim) (fun q h => h.elim) (fun r u t H1 locs1 ht hvm hw hB hz1 hk1 hS => ?_)
  subst hw
  exact kk H1 locs1 (fun q hq => hk1 q hq (fun h => h)) hz1 hS
end PRC
/-- PreV of a list's reader -/
theorem AL_prev {D : va_G} {cy : Nat → ClassId} {s : State} {H : Heap} {a e : Nat} {md sz : Int32} {cap : Nat} {f : Nat → Option Nat} {As : List Value} (hK : KK D cy s) (hP : va_P D vwCl [(a, alC md e sz), (e, arO cy cap f)] H) : PreV s H RJx4a65c a (va_Pc (.ref a :: As) (ALp D cy a e md sz cap f)) As := ⟨AL_blind, va_recv hK hP (ci := 0) (q0 := 0) rfl rfl, fun U hU hW => ⟨rfl, by rw [hU]; exact hP, va_K.moved hW.alike hK⟩⟩
/-- popcount, as the JDK does it -/
def bc1 (x : Int32) : Int32 := x - (((x.toUInt32 >>> ((1 : Int32).toUInt32 &&& Int32.toUInt32 31)).toInt32) &&& 1431655765)
def bc2 (x : Int32) : Int32 := (x &&& 858993459) + (((x.toUInt32 >>> ((2 : Int32).toUInt32 &&& Int32.toUInt32 31)).toInt32) &&& 858993459)
def bc3 (x : Int32) : Int32 := (x + ((x.toUInt32 >>> ((4 : Int32).toUInt32 &&& Int32.toUInt32 31)).toInt32)) &&& 252645135
def bc4 (x : Int32) : Int32 := x + ((x.toUInt32 >>> ((8 : Int32).toUInt32 &&& Int32.toUInt32 31)).toInt32)
def bc5 (x : Int32) : Int32 := x + ((x.toUInt32 >>> ((16 : Int32).toUInt32 &&& Int32.toUInt32 31)).toInt32)
def fbc (x : Int32) : Int32 := bc5 (bc4 (bc3 (bc2 (bc1 x)))) &&& 63
