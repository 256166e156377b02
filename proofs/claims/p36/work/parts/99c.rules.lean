/-! readings: rules -/
section XRD
variable {p : Program} {l : Launch} {e : Env} {R : Room} {s : State} {m : MethodId} {args : Array Value} {below : List Frame} {meth : Method} {c : Code} {H : Heap} {locs : List Loc} {cells slots : Nat} {Q : State → Prop}
variable {cc : ByteArray} {pc nL : Nat} {ls : Array Slot} {rest : List Value} {D : va_G} {cy : Nat → ClassId} {la : Nat → Nat} {S L : St} {A B : Nat → Prop} {Ts : List Cond} {g : CWt} {e0 mi n0 x0 : Nat}
variable {y : MethodName} {ws : List Cond} {rm : Room} {As st0 : List Value} {bytes : ByteArray} {maxL n index mc ms : Nat} {ret : Option FieldType} {v : Int32}
theorem xr_rd {q : Int32 × Int32 × St} (hC : XC p l s m args c cc nL A B D cy e0 mi Ts) (hK : XK A B e0 n0 x0 la g S) (hI : XI A B D cy g n0 la s S L H locs) (hq : q = (v, 0, S)) (hM : vx_Met l y ws rm (va_Pc (.ref (ga g 18 0) :: As) (fun U => CP D cy g S U ∧ JT A U U.heap)) (va_Qi (fun (r : Int32) (_ : Unit) => q.2.1 = 0 ∧ r = q.1) (fun _ t9 => CH D cy g q.2.2 t9.heap) A) (XF A D cy g S q.2.1) mc ms A) (cw : CallW R s args RL RX7 index y bytes maxL ret ws rm mc ms n) (hn : As.length = n) (hsize : ls.size = nL) (hst : st0 = As.reverse ++ .ref x0 :: rest) (hr : (rest.map fun v => v.category).sum ≤ 8) (hdg : decode cc pc = .ok (.invokevirtual index, 3)) (hf : cells + mc ≤ R.cells ∧ slots + ms ≤ R.slots)
    (kk : ∀ (H1 : Heap) (locs1 : List Loc), XI A B D cy g n0 la s S L H1 locs1 → W p l e R s m args below meth c H1 locs1 (cells + mc) (slots + ms) Q (F0 m (pc + 3) ls (.int v :: rest))) : W p l e R s m args below meth c H locs cells slots Q (F0 m pc ls st0) := by
  subst hq
  obtain rfl : ga g 18 0 = x0 := hK.2.2.2.2.2.2.2
  refine vx_calli (vx_runV (As := As) (rest := rest) hC.1.1 hM cw ⟨CTh_blind, xr_recv hC hI, fun U hU hW => ⟨rfl, (xr_LM hC hI hU hW).1⟩⟩ rfl hn hsize hst (lv_room hr) hdg hf) hI.2.2.1 (fun q _ h => Or.inl h) (fun q h => Or.inl h) (fun q _ h => Or.inl h) (fun E ce q9 u t H1 locs1 ht hvm hp => absurd rfl hp) (fun r u t H1 locs1 ht hvm hp hB hz1 hk1 hS1 => ?_)
  rw [hp.2]
  have hB : CH D cy g S t.heap := hB
  rw [ht] at hB
  exact kk H1 locs1 ⟨hB, hI.2.1.keptA hK.2.1 (fun q hq hb => hk1 q hq (fun ha => hK.2.2.1 q ha hb)), hS1, Nat.le_trans hI.2.2.2 hz1⟩
end XRD
section WC
variable {p : Program} {l : Launch} {e : Env} {R : Room} {s : State} {m : MethodId} {args : Array Value} {below : List Frame} {meth : Method} {c : Code} {H : Heap} {locs : List Loc} {cells slots : Nat} {Q : State → Prop}
theorem w_joinK {σ : Type} (pc2 c2 s2 : Nat) (Φ : σ → Heap → List Loc → Array Slot → Prop) (stk : σ → List Value) {g : JFrame}
    (h1 : ∀ (z : σ) (H1 : Heap) (locs1 : List Loc) (ls1 : Array Slot), Φ z H1 locs1 ls1 → W p l e R s m args below meth c H1 locs1 c2 s2 Q (F0 m pc2 ls1 (stk z)))
    (h2 : (∀ (z : σ) (H1 : Heap) (locs1 : List Loc) (ls1 : Array Slot), Φ z H1 locs1 ls1 → W p l e R s m args below meth c H1 locs1 c2 s2 Q (F0 m pc2 ls1 (stk z))) → W p l e R s m args below meth c H locs cells slots Q g) : W p l e R s m args below meth c H locs cells slots Q g := h2 h1
theorem w_loopK {σ : Type} (N pc2 c0 a s0 b : Nat) (Φ : Nat → σ → Heap → List Loc → Array Slot → Prop)
    (hs : ∀ (i : Nat) (z : σ) (H1 : Heap) (locs1 : List Loc) (ls1 : Array Slot), Φ i z H1 locs1 ls1 → i ≤ N → (∀ (z2 : σ) (H2 : Heap) (locs2 : List Loc) (ls2 : Array Slot), i < N → Φ (i + 1) z2 H2 locs2 ls2 → W p l e R s m args below meth c H2 locs2 (c0 + a * (i + 1)) (s0 + b * (i + 1)) Q (F0 m pc2 ls2 [])) → W p l e R s m args below meth c H1 locs1 (c0 + a * i) (s0 + b * i) Q (F0 m pc2 ls1 []))
    {ls : Array Slot} (z0 : σ) (h0 : Φ 0 z0 H locs ls) : W p l e R s m args below meth c H locs c0 s0 Q (F0 m pc2 ls []) := by
  have key : ∀ (r i : Nat) (z : σ) (H1 : Heap) (locs1 : List Loc) (ls1 : Array Slot), i + r = N → Φ i z H1 locs1 ls1 → W p l e R s m args below meth c H1 locs1 (c0 + a * i) (s0 + b * i) Q (F0 m pc2 ls1 []) := by
    intro r
    induction r with
    | zero => exact fun i z H1 locs1 ls1 hi h => hs i z H1 locs1 ls1 h (by omega) (fun z2 H2 locs2 ls2 hlt _ => absurd hlt (by omega))
    | succ r ih => exact fun i z H1 locs1 ls1 hi h => hs i z H1 locs1 ls1 h (by omega) (fun z2 H2 locs2 ls2 hlt h2 => ih (i + 1) z2 H2 locs2 ls2 (by omega) h2)
  exact key N 0 z0 H locs ls (by omega) h0
end WC
theorem lt_12 {i : Nat} (hi : i < 2 ^ 31) (h : ¬ (12 : Int32) ≤ nI i) : i < 12 := by
  rw [show (12 : Int32) = nI 12 by decide, nI_leI (by decide) hi] at h
  omega
theorem ge_12 {i : Nat} (hi : i < 2 ^ 31) (h : (12 : Int32) ≤ nI i) : 12 ≤ i := by
  rw [show (12 : Int32) = nI 12 by decide, nI_leI (by decide) hi] at h
  exact h
theorem cnt_ne {x : Int32} {n i : Nat} (hx : x = nI n) (hi : i < n) (hn : n < 2 ^ 31 := by omega) : ¬ x = 0 := by
  rw [hx]
  exact nI_ne0 (by omega) hn
theorem cnt1_ne {x : Int32} {n : Nat} (hx : x = nI n) (hn : n ≤ 40) : ¬ x + 1 = 0 := by
  rw [hx, nI_1]
  exact nI_ne0 (by omega) (by omega)
theorem ne_lt_i {x : Int32} {n i : Nat} (hx : x = nI n) (hn : n ≤ 40) (hi : i ≤ n) (h : ¬ nI i = x) : i < n := by
  rcases Nat.lt_or_ge i n with q | q
  · exact q
  · exact absurd (by rw [hx, Nat.le_antisymm hi q]) h
