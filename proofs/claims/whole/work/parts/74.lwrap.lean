/-! the law's wrappers: what they find, what they leave -/
abbrev LA (cy : Nat → ClassId) (v : Int64) : va_E := .inl (cy 5, 1, .inr (.inl (fun _ => v)))
/-- none of the three exceptions is caught by a handler of another -/
def JN (U : State) : Prop := va_Nc "java/lang/IllegalArgumentException" "java/lang/IndexOutOfBoundsException" U ∧ va_Nc "java/lang/IllegalStateException" "java/lang/IndexOutOfBoundsException" U ∧ va_Nc "java/lang/IllegalStateException" "java/lang/IllegalArgumentException" U
theorem JN.moved {u U : State} (hvm : u.vm.Alike U.vm) (h : JN u) : JN U := ⟨h.1.moved hvm, h.2.1.moved hvm, h.2.2.moved hvm⟩
def LPw (A : Nat → Prop) (D : va_G) (cy : Nat → ClassId) (g : CWt) (S : St) (e0 mi n0 oa : Nat) : State → Prop := fun U => ((CP D cy g S U ∧ JT A U U.heap) ∧ JX A D cy e0 mi U U.heap ∧ JO U ∧ n0 ≤ U.heap.size) ∧ JN U ∧ ∃ v, at1 D oa (LA cy v) U.heap
abbrev LM (A : Nat → Prop) (D : va_G) (cy : Nat → ClassId) (g : CWt) (S : St) (e0 mi n0 : Nat) : State → Prop := fun U => (CP D cy g S U ∧ JT A U U.heap) ∧ JX A D cy e0 mi U U.heap ∧ JO U ∧ n0 ≤ U.heap.size
theorem LM_blind {A : Nat → Prop} {D : va_G} {cy : Nat → ClassId} {g : CWt} {S : St} {e0 mi n0 : Nat} {av : List Value} : FrameBlind (va_Pc av (LM A D cy g S e0 mi n0)) := fun x U g' mk q => ⟨q.1, (CTh_blind (av := av) x U g' mk ⟨q.1, q.2.1⟩).2, JX.blind q.2.2.1, JO.blind q.2.2.2.1, q.2.2.2.2⟩
theorem LP_blind {A : Nat → Prop} {D : va_G} {cy : Nat → ClassId} {g : CWt} {S : St} {e0 mi n0 oa : Nat} {av : List Value} : FrameBlind (va_Pc av (LPw A D cy g S e0 mi n0 oa)) := fun x U g' mk q => ⟨q.1, (LM_blind (av := av) x U g' mk ⟨q.1, q.2.1⟩).2, JN.moved (u := U) (U := U.calling g' mk x) (Vm.Alike.refl U.vm) q.2.2.1, q.2.2.2⟩
/-- a wrapper throws nothing -/
abbrev LF : String → State → State → Prop := vx_X (fun _ : Unit => False) (fun _ _ _ => True) (fun _ => False)
def LG (A : Nat → Prop) (g : CWt) (e0 : Nat) (g1 : CWt) (S' : St) : Prop := CL A g1 ∧ CG e0 g1 ∧ CT g1 S' ∧ ga g1 18 0 = ga g 18 0
def CTk (S S' : St) : Prop := S' 7 = S 7 ∧ S' 15 = S 15 ∧ S' 23 = S 23 ∧ S' 28 = S 28 ∧ S' 67 = S 67
theorem CTk.ct {g : CWt} {S S' : St} (k : CTk S S') (h : CT g S) : CT g S' := by
  unfold CT nsc ncl ndl nsu npp at h ⊢
  rw [k.1, k.2.1, k.2.2.1, k.2.2.2.1, k.2.2.2.2]
  exact h
theorem CTk.rf (S : St) : CTk S S := ⟨rfl, rfl, rfl, rfl, rfl⟩
/-- the class's cells don't mind the law's own row -/
theorem CH.off {A : Nat → Prop} {D : va_G} {cy : Nat → ClassId} {g : CWt} {S : St} {H H1 : Heap} {oa : Nat} (h : CH D cy g S H) (hL : CL A g) (hoA : ¬ A oa) (oq : ∀ q : Nat, q ≠ oa → H1[q]? = H[q]?) : CH D cy g S H1 := fun k i hv => (h k i hv).kept (oq _ (fun e => hoA (e ▸ hL.1 k i hv)))
theorem LA_of {D : va_G} {cy : Nat → ClassId} {oa : Nat} {H : Heap} {f : Nat → Int64} (h : at1 D oa (.inl (cy 5, 1, .inr (.inl f))) H) : at1 D oa (LA cy (f 0)) H := by
  have e : arrV (cy 5) 1 (fun j => .long (f j)) = arrV (cy 5) 1 (fun _ => .long (f 0)) := arrV_congr (fun t ht => by rw [show t = 0 by omega])
  show H[oa]? = some (vp_cell _ _)
  rw [vp_cell_l, ← e]
  exact h
section LWR
variable {p : Program} {l : Launch} {e : Env} {R : Room} {s : State} {m : MethodId} {args : Array Value} {below : List Frame} {meth : Method} {c : Code} {H : Heap} {locs : List Loc} {cells slots : Nat} {Q : State → Prop}
variable {cc : ByteArray} {pc : Nat} {ls : Array Slot} {rest : List Value} {D : va_G} {cl : List vw_C} {tys : List (ClassId × FieldType)} {a : Nat} {cy : Nat → ClassId}
theorem ww_last (hexec : p.tables.exec = Jvm.exec) (hb : c.code = cc) (hK : va_K D cl tys s) (t0 : Nat) {cA : ClassId} {n : Nat} {f : Nat → Int64} (ha : va_at D cl (a, .inl (cA, n, .inr (.inl f))) H) (ht : tys[t0]? = some (cA, .long)) {i : Int32} {x : Int64} (hin : vp_in i n) (hdg : decode cc pc = .ok (.lastore, 1))
    (kk : ∀ (H1 : Heap) (j : Nat), va_at D cl (a, .inl (cA, n, .inr (.inl (vp_updL f i.toNatClampNeg x)))) H1 → H1.size = H.size → (∀ q : Nat, q ≠ a → H1[q]? = H[q]?) → W p l e R s m args below meth c H1 (locs ++ [⟨a, j⟩]) cells slots Q (F0 m (pc + 1) ls rest)) : W p l e R s m args below meth c H locs cells slots Q (F0 m pc ls (.long x :: .int i :: .ref a :: rest)) := by
  refine W.last hexec hb ha ((hK.2 t0 _ ht).1 n (fun j => .long (f j))) (fun q => by cases q) (by show ¬ (i < 0 ∨ (arrV _ _ _).slots.size ≤ _); rw [arrV_size]; exact hin) rfl rfl hdg fun H1 e z oq => ?_
  refine kk H1 _ ?_ z oq
  show H1[a]? = some (vp_cell _ _)
  rw [e]
  rw [vp_cell_l, vp_cell_l, arrV_store]
  congr 2
  funext q
  by_cases hq : q = i.toNatClampNeg
  · subst hq
    simp [updV, vp_updL]
  · simp [updV, vp_updL, hq]
/-- out[0] = x -/
theorem lw_put (hexec : p.tables.exec = Jvm.exec) (hb : c.code = cc) (hK : KK D cy s) {oa : Nat} {v x : Int64} (ha : at1 D oa (LA cy v) H) (hdg : decode cc pc = .ok (.lastore, 1))
    (kk : ∀ (H1 : Heap) (j : Nat), at1 D oa (LA cy x) H1 → H1.size = H.size → (∀ q : Nat, q ≠ oa → H1[q]? = H[q]?) → W p l e R s m args below meth c H1 (locs ++ [⟨oa, j⟩]) cells slots Q (F0 m (pc + 1) ls rest)) : W p l e R s m args below meth c H locs cells slots Q (F0 m pc ls (.long x :: .int 0 :: .ref oa :: rest)) :=
  ww_last hexec hb hK 5 ha rfl (vp_in_nI (n := 0) (by decide) (by decide)) hdg (fun H1 j h1 z oq => kk H1 j (LA_of h1) z oq)
end LWR
