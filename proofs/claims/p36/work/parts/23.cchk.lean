/-! what the checks let pass -/
abbrev okI (i n : Int32) : Prop := ¬ i < 0 ∧ i < n
abbrev okR (v a b : Int32) : Prop := ¬ v < a ∧ ¬ b < v
theorem okI_e {i n : Int32} (h : okI i n) : i = nI (ix i) := by
  obtain ⟨j, hj, rfl⟩ := nI_of (x := i) h.1
  rw [show ix (nI j) = j from nI_clamp hj]
theorem okI_l {i n : Int32} {N : Nat} (h : okI i n) (hn : n = nI N) (hN : N < 2 ^ 31) : ix i < N := by
  have h1 := h.1
  obtain ⟨j, hj, rfl⟩ := nI_of (x := i) h.1
  rw [show ix (nI j) = j from nI_clamp hj]
  rcases Nat.lt_or_ge j N with q | q
  · exact q
  · exact absurd (hn ▸ h.2) (nI_nlt q hj)
theorem okI_in {i n : Int32} {N : Nat} (h : okI i n) (hn : n = nI N) (hN : N < 2 ^ 31) : vp_in i N := fun q => q.elim h.1 (fun q => absurd (okI_l h hn hN) (Nat.not_lt.mpr q))
theorem okI_of {i : Int32} {N : Nat} (h : vp_in i N) (hN : N < 2 ^ 31 := by decide) : okI i (nI N) := ⟨fun q => h (Or.inl q), by
  rw [vp_ixe h]
  exact nI_lt (vp_ixl h) hN⟩
theorem okI_6 {i : Int32} (h : vp_in i 6) : okI i 6 := okI_of h
theorem okI_8 {i : Int32} (h : vp_in i 8) : okI i 8 := okI_of h
theorem nz_of {x : Int32} (h : ¬ x < 1) : ¬ x = 0 := by rintro rfl; exact h (by decide)
theorem upr_upr (S : St) (k : Nat) (r r' : Nat → Int32) : upr (upr S k r) k r' = upr S k r' := by
  funext k'
  by_cases e : k' = k
  · subst e; rw [upr_at, upr_at]
  · rw [upr_ne e, upr_ne e, upr_ne e]
theorem st_ff {S : St} {k b i N : Nat} {j x : Int32} (hj : ix j = i) : ∀ t, t < N → upd (fun t => S k (b + t)) (ix j) x t = up S k (b + i) x k (b + t) := by
  intro t _
  subst hj
  rw [up_app]
  by_cases h : t = ix j
  · subst h; simp [upd]
  · simp [upd, h]
theorem st_f0 {S : St} {k i N : Nat} {j x : Int32} (hj : ix j = i) : ∀ t, t < N → upd (S k) (ix j) x t = up S k i x k t := by
  intro t _
  subst hj
  rw [up_row]
/-- all that is known of the class's cells and numbers between two calls -/
def CV (e0 : Nat) (g : CWt) (S : St) : Prop := CG e0 g ∧ CT g S ∧ MInv S ∧ KInv S
theorem CV.congr {e0 : Nat} {g : CWt} {S S' : St} (h : CV e0 g S) (e : S' 7 = S 7 ∧ S' 15 = S 15 ∧ S' 23 = S 23 ∧ S' 28 = S 28 ∧ S' 42 = S 42 ∧ S' 16 = S 16 ∧ S' 24 = S 24 ∧ S' 25 = S 25 ∧ S' 29 = S 29 ∧ S' 30 = S 30 ∧ S' 11 = S 11 ∧ S' 14 = S 14 ∧ S' 35 = S 35 ∧ S' 54 = S 54) (e2 : S' 67 = S 67 ∧ S' 64 = S 64) : CV e0 g S' := by
  refine ⟨h.1, ?_, h.2.2.1.congr e, ?_⟩
  · have := h.2.1
    unfold CT nsc ncl ndl nsu npp at this ⊢
    rw [e.1, e.2.1, e.2.2.1, e.2.2.2.1, e2.1]
    exact this
  · have := h.2.2.2
    unfold KInv npp npd at this ⊢
    rw [e2.1, e2.2]
    exact this
theorem CV.c5 {e0 : Nat} {g : CWt} {S : St} (h : CV e0 g S) (j : Nat) (hj : j < 4) : S (cid j) 0 = nI (gc g 12 j) ∧ gc g 12 j ≤ 40 := by
  obtain ⟨-, ⟨⟨h0, h1, h2, h3⟩, -⟩, hN, -⟩ := h
  match j, hj with
  | 0, _ => exact ⟨by rw [h0]; exact hN.n7, by rw [h0]; exact Nat.le_trans hN.b7 (by decide)⟩
  | 1, _ => exact ⟨by rw [h1]; exact hN.n15, by rw [h1]; exact hN.b15⟩
  | 2, _ => exact ⟨by rw [h2]; exact hN.n23, by rw [h2]; exact Nat.le_trans hN.b23 (by decide)⟩
  | 3, _ => exact ⟨by rw [h3]; exact hN.n28, by rw [h3]; exact Nat.le_trans hN.b28 (by decide)⟩
  | q + 4, hj => exact absurd hj (by omega)
theorem pd_in {S : St} (h : KInv S) (h0 : ¬ S 64 0 = 0) : vp_in (S 64 0 - 1) 52 := by
  have e := h.n64
  have b := h.b64
  have hp : 0 < npd S := Nat.pos_of_ne_zero (fun q => h0 (by rw [e, q]; rfl))
  rw [e, show (1 : Int32) = nI 1 by decide, pk_sub (by omega)]
  exact vp_in_nI (by omega) (by decide)
theorem pd_in2 {S : St} (h : KInv S) (h0 : ¬ (52 : Int32) ≤ S 64 0) : vp_in (S 64 0) 52 := by
  have e := h.n64
  have b := h.b64
  rw [e] at h0 ⊢
  refine vp_in_nI ?_ (by decide)
  rcases Nat.lt_or_ge (npd S) 52 with q | q
  · exact q
  · exact absurd (show (nI 52 : Int32) ≤ nI (npd S) from nI_le q (by omega)) h0
section CRL
variable {p : Program} {l : Launch} {e : Env} {R : Room} {s : State} {m : MethodId} {args : Array Value} {below : List Frame} {meth : Method} {c : Code} {H : Heap} {locs : List Loc} {cells slots : Nat} {Q : State → Prop}
variable {cc : ByteArray} {pc nL : Nat} {ls : Array Slot} {rest : List Value} {D : va_G} {cy : Nat → ClassId} {g : CWt} {S : St} {A : Nat → Prop} {Ts : List Cond} {own : String} {bytes : ByteArray} {maxL index e0 : Nat} {ret : Option FieldType}
/-- an element of one of the four lists -/
theorem cr_get12 (hC : CC p s m args c cc nL own D cy Ts) (hI : CI A D cy g s S H locs) (hV : CV e0 g S) (j : Nat) (hj : j < 4) {i : Int32} {n : Nat} (hi : i = nI n) (hn : n < gc g 12 j) (cw : CallW R s args own RJx4a65c index yJx4a65c_get_915e3 bytes maxL ret wsJx4a65c_get_915e3 ({ frames := 2, cells := 0, slots := 0, locals := 43 } : Room) 0 0 1) (hsize : ls.size = nL) (hr : (rest.map fun v => v.category).sum ≤ 8) (hdg : decode cc pc = .ok (.invokevirtual index, 3)) (hf : cells ≤ R.cells ∧ slots ≤ R.slots)
    (kk : ∀ (H1 : Heap) (locs1 : List Loc), CI A D cy g s S H1 locs1 → W p l e R s m args below meth c H1 locs1 cells slots Q (F0 m (pc + 3) ls (.ref (ga g (5 + j) n) :: rest))) : W p l e R s m args below meth c H locs cells slots Q (F0 m pc ls (.int i :: .ref (ga g 12 j) :: rest)) := by
  subst hi
  obtain ⟨hs, hb⟩ := hV.c5 j hj
  obtain ⟨h1, h2, h3⟩ := hV.1.2.1 j hj (by omega)
  refine cr_lget hC hI 12 j 13 j hj rfl ⟨hj, by omega⟩ rfl cw (qAL_get l D cy (ga g 12 j) (ga g 13 j) (gm g 12 j) (S (cid j) 0) (gc g 13 j) (gf g 13 j) (nI n) (ga g (5 + j) n) (nI_pos (by omega)) (by rw [hs]; exact nI_lt hn (by omega)) (vp_in_nI (by omega) (by omega)) (by rw [nI_clamp (by omega)]; exact h3 n hn)) hsize hr hdg hf kk
/-- a paper of a suit -/
theorem cr_get9 (hC : CC p s m args c cc nL own D cy Ts) (hI : CI A D cy g s S H locs) (hV : CV e0 g S) (k : Nat) (hk : k < nsu S) {i : Int32} {n : Nat} (hi : i = nI n) (hn : n < npp S k) (cw : CallW R s args own RJx4a65c index yJx4a65c_get_915e3 bytes maxL ret wsJx4a65c_get_915e3 ({ frames := 2, cells := 0, slots := 0, locals := 43 } : Room) 0 0 1) (hsize : ls.size = nL) (hr : (rest.map fun v => v.category).sum ≤ 8) (hdg : decode cc pc = .ok (.invokevirtual index, 3)) (hf : cells ≤ R.cells ∧ slots ≤ R.slots)
    (kk : ∀ (H1 : Heap) (locs1 : List Loc), CI A D cy g s S H1 locs1 → W p l e R s m args below meth c H1 locs1 cells slots Q (F0 m (pc + 3) ls (.ref (ga g 11 (64 * k + n)) :: rest))) : W p l e R s m args below meth c H locs cells slots Q (F0 m pc ls (.int i :: .ref (ga g 9 k) :: rest)) := by
  subst hi
  have hs := hV.2.2.2.n67 k
  have hb := hV.2.2.2.b67 k
  have hv := hV.2.1.v9 hk
  obtain ⟨-, h1, h2, h3⟩ := hV.1.2.2 k hv
  rw [hV.2.1.2 k hk] at h1 h3
  refine cr_lget hC hI 9 k 10 k hv rfl hv rfl cw (qAL_get l D cy (ga g 9 k) (ga g 10 k) (gm g 9 k) (S 67 k) (gc g 10 k) (gf g 10 k) (nI n) (ga g 11 (64 * k + n)) (nI_pos (by omega)) (by rw [hs]; exact nI_lt hn (by omega)) (vp_in_nI (by omega) (by omega)) (by rw [nI_clamp (by omega)]; exact h3 n hn)) hsize hr hdg hf kk
end CRL

section SVC
variable {p : Program} {l : Launch} {e : Env} {R : Room} {s : State} {m : MethodId} {args : Array Value} {below : List Frame} {meth : Method} {c : Code} {H : Heap} {locs : List Loc} {cells slots : Nat} {Q : State → Prop}
variable {cc : ByteArray} {pc nL : Nat} {ls : Array Slot} {rest : List Value} {A : Nat → Prop} {Ts : List Cond} {own : String} {bytes : ByteArray} {maxL index n : Nat} {ret : Option FieldType} {y : MethodName} {ws : List Cond} {rm : Room} {As st0 : List Value}
theorem sv_call (hC : p.tables.exec = Jvm.exec ∧ c.code = cc ∧ c.maxLocals = nL ∧ s.vm.findClass own = some m.cls ∧ ∀ w ∈ Ts, w.before args s = true) (hS : va_S A s.heap H locs) (hM : SVoid l y ws rm As) (cw : CallB R s args own index y bytes maxL ret ws rm 0 0 n ∧ (Cond.static y).before args s = true) (hn : As.length = n) (hsize : ls.size = nL) (hst : st0 = As.reverse ++ rest) (hr : (rest.map fun v => v.category).sum ≤ 8) (hdg : decode cc pc = .ok (.invokestatic index, 3)) (hf : cells ≤ R.cells ∧ slots ≤ R.slots)
    (kk : ∀ (H1 : Heap) (locs1 : List Loc), va_S A s.heap H1 locs1 → W p l e R s m args below meth c H1 locs1 cells slots Q (F0 m (pc + 3) ls rest)) : W p l e R s m args below meth c H locs cells slots Q (F0 m pc ls st0) := by
  refine va_callv (va_runS (As := As) (rest := rest) hC hM cw ⟨SP_blind, fun U hU hW => ⟨rfl, trivial⟩⟩ rfl hn hsize hst (lv_room hr) hdg hf) hS (fun q _ h => h.elim) (fun q h => h.elim) (fun u t H1 locs1 ht hvm hw hB hz1 hk1 hS1 => ?_)
  exact kk H1 locs1 hS1
end SVC

set_option maxHeartbeats 4000000 in
set_option maxRecDepth 100000 in
theorem qX7_checkIndex (l : Launch) (i n : Int32) (h : okI i n) : SVoid l yX7_checkIndex wsX7_checkIndex ({ frames := 0, cells := 0, slots := 0, locals := 0 } : Room) [.int i, .int n] := by
  refine Met.ofW (cc := cX7_checkIndex) (maxL := 2) (ret := none) (by decide) rfl ?_
  intro p e s m args below meth c s₁ B hml hv
  have hx := B.exec
  have hb := B.bytes
  have hr := B.returns
  have hts0 := atoms_spec (ws := wsX7_checkIndex) B.pre
  have hown : s.vm.findClass RX7 = some m.cls := findClass_of_methodNamed B.named
  have hlocks := B.notSynchronized
  obtain ⟨rfl, -⟩ := hv
  have hI : va_S (fun _ => False) s.heap s.heap [] := va_S.rf
  have hts := hts0
  have hl := lv_entry ([.int i, .int n]) (n := 2) (Nat.le_of_ble_eq_true rfl)
  rw [lg_entry_eq]
  generalize (lg_sl ([.int i, .int n]) ++ List.replicate (2 - (lg_sl ([.int i, .int n])).length) Slot.unset).toArray = ls at hl ⊢
  have hl : lv_has ls 2 [(0, .int i), (1, .int n)] := hl
  refine lv_iload_n hx hb dX7_checkIndex_0 rfl (lv_at hl 0 rfl) ?_
  refine lv_if_lt (tgt := 9) hx hb dX7_checkIndex_1 (by decide) (fun c => absurd c h.1) (fun _ => ?_)
  refine lv_iload_n hx hb dX7_checkIndex_4 rfl (lv_at hl 0 rfl) ?_
  refine lv_iload_n hx hb dX7_checkIndex_5 rfl (lv_at hl 1 rfl) ?_
  refine lv_icmp_lt (tgt := 20) hx hb dX7_checkIndex_6 (by decide) (fun _ => ?_) (fun c => absurd h.2 c)
  exact W.vret hx hb hr (fun t9 ht9 hW9 => ⟨⟨(), rfl, trivial, trivial⟩, hI.F ht9⟩) hI.2.2 dX7_checkIndex_20
set_option maxHeartbeats 4000000 in
set_option maxRecDepth 100000 in
theorem qX7_checkArgument (l : Launch) (b : Int32) (h : ¬ b = 0) : SVoid l yX7_checkArgument wsX7_checkArgument ({ frames := 0, cells := 0, slots := 0, locals := 0 } : Room) [.int b] := by
  refine Met.ofW (cc := cX7_checkArgument) (maxL := 1) (ret := none) (by decide) rfl ?_
  intro p e s m args below meth c s₁ B hml hv
  have hx := B.exec
  have hb := B.bytes
  have hr := B.returns
  have hts0 := atoms_spec (ws := wsX7_checkArgument) B.pre
  have hown : s.vm.findClass RX7 = some m.cls := findClass_of_methodNamed B.named
  have hlocks := B.notSynchronized
  obtain ⟨rfl, -⟩ := hv
  have hI : va_S (fun _ => False) s.heap s.heap [] := va_S.rf
  have hts := hts0
  have hl := lv_entry ([.int b]) (n := 1) (Nat.le_of_ble_eq_true rfl)
  rw [lg_entry_eq]
  generalize (lg_sl ([.int b]) ++ List.replicate (1 - (lg_sl ([.int b])).length) Slot.unset).toArray = ls at hl ⊢
  have hl : lv_has ls 1 [(0, .int b)] := hl
  refine lv_iload_n hx hb dX7_checkArgument_0 rfl (lv_at hl 0 rfl) ?_
  refine lv_if_ne (tgt := 15) hx hb dX7_checkArgument_1 (by decide) (fun _ => ?_) (fun c => absurd c h)
  exact W.vret hx hb hr (fun t9 ht9 hW9 => ⟨⟨(), rfl, trivial, trivial⟩, hI.F ht9⟩) hI.2.2 dX7_checkArgument_15
set_option maxHeartbeats 4000000 in
set_option maxRecDepth 100000 in
theorem qX7_checkState (l : Launch) (b : Int32) (h : ¬ b = 0) : SVoid l yX7_checkState wsX7_checkState ({ frames := 0, cells := 0, slots := 0, locals := 0 } : Room) [.int b] := by
  refine Met.ofW (cc := cX7_checkState) (maxL := 1) (ret := none) (by decide) rfl ?_
  intro p e s m args below meth c s₁ B hml hv
  have hx := B.exec
  have hb := B.bytes
  have hr := B.returns
  have hts0 := atoms_spec (ws := wsX7_checkState) B.pre
  have hown : s.vm.findClass RX7 = some m.cls := findClass_of_methodNamed B.named
  have hlocks := B.notSynchronized
  obtain ⟨rfl, -⟩ := hv
  have hI : va_S (fun _ => False) s.heap s.heap [] := va_S.rf
  have hts := hts0
  have hl := lv_entry ([.int b]) (n := 1) (Nat.le_of_ble_eq_true rfl)
  rw [lg_entry_eq]
  generalize (lg_sl ([.int b]) ++ List.replicate (1 - (lg_sl ([.int b])).length) Slot.unset).toArray = ls at hl ⊢
  have hl : lv_has ls 1 [(0, .int b)] := hl
  refine lv_iload_n hx hb dX7_checkState_0 rfl (lv_at hl 0 rfl) ?_
  refine lv_if_ne (tgt := 15) hx hb dX7_checkState_1 (by decide) (fun _ => ?_) (fun c => absurd c h)
  exact W.vret hx hb hr (fun t9 ht9 hW9 => ⟨⟨(), rfl, trivial, trivial⟩, hI.F ht9⟩) hI.2.2 dX7_checkState_15
set_option maxHeartbeats 4000000 in
set_option maxRecDepth 100000 in
theorem qX7_checkRange (l : Launch) (v a b : Int32) (h : okR v a b) : SVoid l yX7_checkRange wsX7_checkRange ({ frames := 1, cells := 0, slots := 0, locals := 20 } : Room) [.int v, .int a, .int b] := by
  refine Met.ofW (cc := cX7_checkRange) (maxL := 3) (ret := none) (by decide) rfl ?_
  intro p e s m args below meth c s₁ B hml hv
  have hx := B.exec
  have hb := B.bytes
  have hr := B.returns
  have hts0 := atoms_spec (ws := wsX7_checkRange) B.pre
  have hown : s.vm.findClass RX7 = some m.cls := findClass_of_methodNamed B.named
  have hlocks := B.notSynchronized
  obtain ⟨rfl, -⟩ := hv
  have hI : va_S (fun _ => False) s.heap s.heap [] := va_S.rf
  have hts := hts0
  have hl := lv_entry ([.int v, .int a, .int b]) (n := 3) (Nat.le_of_ble_eq_true rfl)
  rw [lg_entry_eq]
  generalize (lg_sl ([.int v, .int a, .int b]) ++ List.replicate (3 - (lg_sl ([.int v, .int a, .int b])).length) Slot.unset).toArray = ls at hl ⊢
  have hl : lv_has ls 3 [(0, .int v), (1, .int a), (2, .int b)] := hl
  refine lv_iload_n hx hb dX7_checkRange_0 rfl (lv_at hl 0 rfl) ?_
  refine lv_iload_n hx hb dX7_checkRange_1 rfl (lv_at hl 1 rfl) ?_
  refine lv_icmp_lt (tgt := 14) hx hb dX7_checkRange_2 (by decide) (fun c => absurd c h.1) (fun _ => ?_)
  refine lv_iload_n hx hb dX7_checkRange_5 rfl (lv_at hl 0 rfl) ?_
  refine lv_iload_n hx hb dX7_checkRange_6 rfl (lv_at hl 2 rfl) ?_
  refine lv_icmp_gt (tgt := 14) hx hb dX7_checkRange_7 (by decide) (fun c => absurd c h.2) (fun _ => ?_)
  refine lv_iconst (v := 1) hx hb dX7_checkRange_10 (by decide) ?_
  refine lv_goto (tgt := 15) hx hb dX7_checkRange_11 (by decide) ?_
  refine sv_call (As := [.int 1]) (rest := []) ⟨hx, hb, hml, hown, hts⟩ hI (qX7_checkArgument l 1 (by decide)) (va_cwS 1 hts gX7_checkRange_X7_checkArgument rfl rfl rfl (by decide +kernel) ⟨Nat.le_of_ble_eq_true rfl, Nat.le_of_ble_eq_true rfl⟩) rfl hl.1 rfl (Nat.le_of_ble_eq_true rfl) dX7_checkRange_15 ⟨Nat.zero_le _, Nat.zero_le _⟩ (fun H locs hI => ?_)
  exact W.vret hx hb hr (fun t9 ht9 hW9 => ⟨⟨(), rfl, trivial, trivial⟩, hI.F ht9⟩) hI.2.2 dX7_checkRange_18
set_option maxHeartbeats 4000000 in
set_option maxRecDepth 100000 in
theorem tX7_checkArgument (l : Launch) (hfl : l.stackTraces = false) (b : Int32) (h : b = 0) : SThr l yX7_checkArgument wsX7_checkArgument ({ frames := 6, cells := 1, slots := 6, locals := 82 } : Room) [.int b] 2 := by
  refine vx_ofW (cc := cX7_checkArgument) (maxL := 1) (ret := none) (by decide) rfl ?_
  intro p e s m args below meth c s₁ B hml hno hv
  have hx := B.exec
  have hb := B.bytes
  have hr := B.returns
  have hts0 := atoms_spec (ws := wsX7_checkArgument) B.pre
  have hown : s.vm.findClass RX7 = some m.cls := findClass_of_methodNamed B.named
  have hlocks := B.notSynchronized
  obtain ⟨rfl, hJ⟩ := hv
  have hI : va_S (fun _ => False) s.heap s.heap [] := va_S.rf
  have hts := hts0
  have hl := lv_entry ([.int b]) (n := 1) (Nat.le_of_ble_eq_true rfl)
  rw [lg_entry_eq]
  generalize (lg_sl ([.int b]) ++ List.replicate (1 - (lg_sl ([.int b])).length) Slot.unset).toArray = ls at hl ⊢
  have hl : lv_has ls 1 [(0, .int b)] := hl
  refine lv_iload_n hx hb dX7_checkArgument_0 rfl (lv_at hl 0 rfl) ?_
  refine lv_if_ne (tgt := 15) hx hb dX7_checkArgument_1 (by decide) (fun c => absurd h c) (fun _ => ?_)
  exact ct_new (code := 2) (ik := 324) (is := 326) (ic := 328) (text := "an argument is out of range") ⟨hx, hb, hml, hown, hts⟩ hfl (by decide +kernel) (hts (.classLink RX7 324 (exn 2)) (List.mem_cons_of_mem _ (List.mem_append_left _ (List.mem_of_getElem? (i := 0) rfl)))) (hts (.initialized (exn 2)) (List.mem_cons_of_mem _ (List.mem_append_left _ (List.mem_of_getElem? (i := 1) rfl)))) (List.mem_of_getElem? (i := 1) rfl) (fun w h => hts w (List.mem_cons_of_mem _ (List.mem_append_right _ (h)))) (by decide +kernel) (by decide +kernel) hI hJ (hl.1.trans hml.symm) dX7_checkArgument_4 dX7_checkArgument_7 dX7_checkArgument_8 dX7_checkArgument_11 dX7_checkArgument_14 hno (Nat.le_of_ble_eq_true rfl) (Nat.le_of_ble_eq_true rfl) (Nat.le_of_ble_eq_true rfl) (Nat.le_of_ble_eq_true rfl) hlocks (xt_of hI) (fun _ h => h) (Nat.le_of_ble_eq_true rfl) (Nat.le_of_ble_eq_true rfl)
set_option maxHeartbeats 4000000 in
set_option maxRecDepth 100000 in
theorem tX7_checkState (l : Launch) (hfl : l.stackTraces = false) (b : Int32) (h : b = 0) : SThr l yX7_checkState wsX7_checkState ({ frames := 6, cells := 1, slots := 6, locals := 82 } : Room) [.int b] 3 := by
  refine vx_ofW (cc := cX7_checkState) (maxL := 1) (ret := none) (by decide) rfl ?_
  intro p e s m args below meth c s₁ B hml hno hv
  have hx := B.exec
  have hb := B.bytes
  have hr := B.returns
  have hts0 := atoms_spec (ws := wsX7_checkState) B.pre
  have hown : s.vm.findClass RX7 = some m.cls := findClass_of_methodNamed B.named
  have hlocks := B.notSynchronized
  obtain ⟨rfl, hJ⟩ := hv
  have hI : va_S (fun _ => False) s.heap s.heap [] := va_S.rf
  have hts := hts0
  have hl := lv_entry ([.int b]) (n := 1) (Nat.le_of_ble_eq_true rfl)
  rw [lg_entry_eq]
  generalize (lg_sl ([.int b]) ++ List.replicate (1 - (lg_sl ([.int b])).length) Slot.unset).toArray = ls at hl ⊢
  have hl : lv_has ls 1 [(0, .int b)] := hl
  refine lv_iload_n hx hb dX7_checkState_0 rfl (lv_at hl 0 rfl) ?_
  refine lv_if_ne (tgt := 15) hx hb dX7_checkState_1 (by decide) (fun c => absurd h c) (fun _ => ?_)
  exact ct_new (code := 3) (ik := 329) (is := 331) (ic := 333) (text := "this can't be done now") ⟨hx, hb, hml, hown, hts⟩ hfl (by decide +kernel) (hts (.classLink RX7 329 (exn 3)) (List.mem_cons_of_mem _ (List.mem_append_left _ (List.mem_of_getElem? (i := 0) rfl)))) (hts (.initialized (exn 3)) (List.mem_cons_of_mem _ (List.mem_append_left _ (List.mem_of_getElem? (i := 1) rfl)))) (List.mem_of_getElem? (i := 2) rfl) (fun w h => hts w (List.mem_cons_of_mem _ (List.mem_append_right _ (h)))) (by decide +kernel) (by decide +kernel) hI hJ (hl.1.trans hml.symm) dX7_checkState_4 dX7_checkState_7 dX7_checkState_8 dX7_checkState_11 dX7_checkState_14 hno (Nat.le_of_ble_eq_true rfl) (Nat.le_of_ble_eq_true rfl) (Nat.le_of_ble_eq_true rfl) (Nat.le_of_ble_eq_true rfl) hlocks (xt_of hI) (fun _ h => h) (Nat.le_of_ble_eq_true rfl) (Nat.le_of_ble_eq_true rfl)
set_option maxHeartbeats 4000000 in
set_option maxRecDepth 100000 in
theorem tX7_checkIndex1 (l : Launch) (hfl : l.stackTraces = false) (i n : Int32) (h : i < 0) : SThr l yX7_checkIndex wsX7_checkIndex ({ frames := 6, cells := 1, slots := 6, locals := 82 } : Room) [.int i, .int n] 1 := by
  refine vx_ofW (cc := cX7_checkIndex) (maxL := 2) (ret := none) (by decide) rfl ?_
  intro p e s m args below meth c s₁ B hml hno hv
  have hx := B.exec
  have hb := B.bytes
  have hr := B.returns
  have hts0 := atoms_spec (ws := wsX7_checkIndex) B.pre
  have hown : s.vm.findClass RX7 = some m.cls := findClass_of_methodNamed B.named
  have hlocks := B.notSynchronized
  obtain ⟨rfl, hJ⟩ := hv
  have hI : va_S (fun _ => False) s.heap s.heap [] := va_S.rf
  have hts := hts0
  have hl := lv_entry ([.int i, .int n]) (n := 2) (Nat.le_of_ble_eq_true rfl)
  rw [lg_entry_eq]
  generalize (lg_sl ([.int i, .int n]) ++ List.replicate (2 - (lg_sl ([.int i, .int n])).length) Slot.unset).toArray = ls at hl ⊢
  have hl : lv_has ls 2 [(0, .int i), (1, .int n)] := hl
  refine lv_iload_n hx hb dX7_checkIndex_0 rfl (lv_at hl 0 rfl) ?_
  refine lv_if_lt (tgt := 9) hx hb dX7_checkIndex_1 (by decide) (fun _ => ?_) (fun c => absurd h c)
  exact ct_new (code := 1) (ik := 279) (is := 322) (ic := 283) (text := "there is none of this number") ⟨hx, hb, hml, hown, hts⟩ hfl (by decide +kernel) (hts (.classLink RX7 279 (exn 1)) (List.mem_cons_of_mem _ (List.mem_append_left _ (List.mem_of_getElem? (i := 0) rfl)))) (hts (.initialized (exn 1)) (List.mem_cons_of_mem _ (List.mem_append_left _ (List.mem_of_getElem? (i := 1) rfl)))) (List.mem_of_getElem? (i := 0) rfl) (fun w h => hts w (List.mem_cons_of_mem _ (List.mem_append_right _ (h)))) (by decide +kernel) (by decide +kernel) hI hJ (hl.1.trans hml.symm) dX7_checkIndex_9 dX7_checkIndex_12 dX7_checkIndex_13 dX7_checkIndex_16 dX7_checkIndex_19 hno (Nat.le_of_ble_eq_true rfl) (Nat.le_of_ble_eq_true rfl) (Nat.le_of_ble_eq_true rfl) (Nat.le_of_ble_eq_true rfl) hlocks (xt_of hI) (fun _ h => h) (Nat.le_of_ble_eq_true rfl) (Nat.le_of_ble_eq_true rfl)
set_option maxHeartbeats 4000000 in
set_option maxRecDepth 100000 in
theorem tX7_checkIndex2 (l : Launch) (hfl : l.stackTraces = false) (i n : Int32) (h : ¬ i < 0 ∧ ¬ i < n) : SThr l yX7_checkIndex wsX7_checkIndex ({ frames := 6, cells := 1, slots := 6, locals := 82 } : Room) [.int i, .int n] 1 := by
  refine vx_ofW (cc := cX7_checkIndex) (maxL := 2) (ret := none) (by decide) rfl ?_
  intro p e s m args below meth c s₁ B hml hno hv
  have hx := B.exec
  have hb := B.bytes
  have hr := B.returns
  have hts0 := atoms_spec (ws := wsX7_checkIndex) B.pre
  have hown : s.vm.findClass RX7 = some m.cls := findClass_of_methodNamed B.named
  have hlocks := B.notSynchronized
  obtain ⟨rfl, hJ⟩ := hv
  have hI : va_S (fun _ => False) s.heap s.heap [] := va_S.rf
  have hts := hts0
  have hl := lv_entry ([.int i, .int n]) (n := 2) (Nat.le_of_ble_eq_true rfl)
  rw [lg_entry_eq]
  generalize (lg_sl ([.int i, .int n]) ++ List.replicate (2 - (lg_sl ([.int i, .int n])).length) Slot.unset).toArray = ls at hl ⊢
  have hl : lv_has ls 2 [(0, .int i), (1, .int n)] := hl
  refine lv_iload_n hx hb dX7_checkIndex_0 rfl (lv_at hl 0 rfl) ?_
  refine lv_if_lt (tgt := 9) hx hb dX7_checkIndex_1 (by decide) (fun c => absurd c h.1) (fun _ => ?_)
  refine lv_iload_n hx hb dX7_checkIndex_4 rfl (lv_at hl 0 rfl) ?_
  refine lv_iload_n hx hb dX7_checkIndex_5 rfl (lv_at hl 1 rfl) ?_
  refine lv_icmp_lt (tgt := 20) hx hb dX7_checkIndex_6 (by decide) (fun c => absurd c h.2) (fun _ => ?_)
  exact ct_new (code := 1) (ik := 279) (is := 322) (ic := 283) (text := "there is none of this number") ⟨hx, hb, hml, hown, hts⟩ hfl (by decide +kernel) (hts (.classLink RX7 279 (exn 1)) (List.mem_cons_of_mem _ (List.mem_append_left _ (List.mem_of_getElem? (i := 0) rfl)))) (hts (.initialized (exn 1)) (List.mem_cons_of_mem _ (List.mem_append_left _ (List.mem_of_getElem? (i := 1) rfl)))) (List.mem_of_getElem? (i := 0) rfl) (fun w h => hts w (List.mem_cons_of_mem _ (List.mem_append_right _ (h)))) (by decide +kernel) (by decide +kernel) hI hJ (hl.1.trans hml.symm) dX7_checkIndex_9 dX7_checkIndex_12 dX7_checkIndex_13 dX7_checkIndex_16 dX7_checkIndex_19 hno (Nat.le_of_ble_eq_true rfl) (Nat.le_of_ble_eq_true rfl) (Nat.le_of_ble_eq_true rfl) (Nat.le_of_ble_eq_true rfl) hlocks (xt_of hI) (fun _ h => h) (Nat.le_of_ble_eq_true rfl) (Nat.le_of_ble_eq_true rfl)
theorem tX7_checkIndex (l : Launch) (hfl : l.stackTraces = false) (i n : Int32) (h : ¬ okI i n) : SThr l yX7_checkIndex wsX7_checkIndex ({ frames := 6, cells := 1, slots := 6, locals := 82 } : Room) [.int i, .int n] 1 := by
  by_cases h1 : i < 0
  · exact tX7_checkIndex1 l hfl i n h1
  · exact tX7_checkIndex2 l hfl i n ⟨h1, fun h2 => h ⟨h1, h2⟩⟩
set_option maxHeartbeats 4000000 in
set_option maxRecDepth 100000 in
theorem tX7_checkRange1 (l : Launch) (hfl : l.stackTraces = false) (v a b : Int32) (h : v < a) : SThr l yX7_checkRange wsX7_checkRange ({ frames := 7, cells := 1, slots := 6, locals := 102 } : Room) [.int v, .int a, .int b] 2 := by
  refine vx_ofW (cc := cX7_checkRange) (maxL := 3) (ret := none) (by decide) rfl ?_
  intro p e s m args below meth c s₁ B hml hno hv
  have hx := B.exec
  have hb := B.bytes
  have hr := B.returns
  have hts0 := atoms_spec (ws := wsX7_checkRange) B.pre
  have hown : s.vm.findClass RX7 = some m.cls := findClass_of_methodNamed B.named
  have hlocks := B.notSynchronized
  obtain ⟨rfl, hJ⟩ := hv
  have hI : va_S (fun _ => False) s.heap s.heap [] := va_S.rf
  have hts := hts0
  have hl := lv_entry ([.int v, .int a, .int b]) (n := 3) (Nat.le_of_ble_eq_true rfl)
  rw [lg_entry_eq]
  generalize (lg_sl ([.int v, .int a, .int b]) ++ List.replicate (3 - (lg_sl ([.int v, .int a, .int b])).length) Slot.unset).toArray = ls at hl ⊢
  have hl : lv_has ls 3 [(0, .int v), (1, .int a), (2, .int b)] := hl
  refine lv_iload_n hx hb dX7_checkRange_0 rfl (lv_at hl 0 rfl) ?_
  refine lv_iload_n hx hb dX7_checkRange_1 rfl (lv_at hl 1 rfl) ?_
  refine lv_icmp_lt (tgt := 14) hx hb dX7_checkRange_2 (by decide) (fun _ => ?_) (fun c => absurd h c)
  refine lv_iconst (v := 0) hx hb dX7_checkRange_14 (by decide) ?_
  exact ct_s (As := [.int 0]) (rest := []) ⟨hx, hb, hml, hown, hts⟩ hI hJ (tX7_checkArgument l hfl 0 rfl) (va_cwS 1 hts gX7_checkRange_X7_checkArgument rfl rfl rfl (by decide +kernel) ⟨Nat.le_of_ble_eq_true rfl, Nat.le_of_ble_eq_true rfl⟩) rfl hl.1 rfl (Nat.le_of_ble_eq_true rfl) dX7_checkRange_15 ⟨Nat.le_of_ble_eq_true rfl, Nat.le_of_ble_eq_true rfl⟩ hno hlocks (xt_of hI) (fun _ h => h) (Nat.le_of_ble_eq_true rfl) (Nat.le_of_ble_eq_true rfl)
set_option maxHeartbeats 4000000 in
set_option maxRecDepth 100000 in
theorem tX7_checkRange2 (l : Launch) (hfl : l.stackTraces = false) (v a b : Int32) (h : ¬ v < a ∧ b < v) : SThr l yX7_checkRange wsX7_checkRange ({ frames := 7, cells := 1, slots := 6, locals := 102 } : Room) [.int v, .int a, .int b] 2 := by
  refine vx_ofW (cc := cX7_checkRange) (maxL := 3) (ret := none) (by decide) rfl ?_
  intro p e s m args below meth c s₁ B hml hno hv
  have hx := B.exec
  have hb := B.bytes
  have hr := B.returns
  have hts0 := atoms_spec (ws := wsX7_checkRange) B.pre
  have hown : s.vm.findClass RX7 = some m.cls := findClass_of_methodNamed B.named
  have hlocks := B.notSynchronized
  obtain ⟨rfl, hJ⟩ := hv
  have hI : va_S (fun _ => False) s.heap s.heap [] := va_S.rf
  have hts := hts0
  have hl := lv_entry ([.int v, .int a, .int b]) (n := 3) (Nat.le_of_ble_eq_true rfl)
  rw [lg_entry_eq]
  generalize (lg_sl ([.int v, .int a, .int b]) ++ List.replicate (3 - (lg_sl ([.int v, .int a, .int b])).length) Slot.unset).toArray = ls at hl ⊢
  have hl : lv_has ls 3 [(0, .int v), (1, .int a), (2, .int b)] := hl
  refine lv_iload_n hx hb dX7_checkRange_0 rfl (lv_at hl 0 rfl) ?_
  refine lv_iload_n hx hb dX7_checkRange_1 rfl (lv_at hl 1 rfl) ?_
  refine lv_icmp_lt (tgt := 14) hx hb dX7_checkRange_2 (by decide) (fun c => absurd c h.1) (fun _ => ?_)
  refine lv_iload_n hx hb dX7_checkRange_5 rfl (lv_at hl 0 rfl) ?_
  refine lv_iload_n hx hb dX7_checkRange_6 rfl (lv_at hl 2 rfl) ?_
  refine lv_icmp_gt (tgt := 14) hx hb dX7_checkRange_7 (by decide) (fun _ => ?_) (fun c => absurd h.2 c)
  refine lv_iconst (v := 0) hx hb dX7_checkRange_14 (by decide) ?_
  exact ct_s (As := [.int 0]) (rest := []) ⟨hx, hb, hml, hown, hts⟩ hI hJ (tX7_checkArgument l hfl 0 rfl) (va_cwS 1 hts gX7_checkRange_X7_checkArgument rfl rfl rfl (by decide +kernel) ⟨Nat.le_of_ble_eq_true rfl, Nat.le_of_ble_eq_true rfl⟩) rfl hl.1 rfl (Nat.le_of_ble_eq_true rfl) dX7_checkRange_15 ⟨Nat.le_of_ble_eq_true rfl, Nat.le_of_ble_eq_true rfl⟩ hno hlocks (xt_of hI) (fun _ h => h) (Nat.le_of_ble_eq_true rfl) (Nat.le_of_ble_eq_true rfl)
theorem tX7_checkRange (l : Launch) (hfl : l.stackTraces = false) (v a b : Int32) (h : ¬ okR v a b) : SThr l yX7_checkRange wsX7_checkRange ({ frames := 7, cells := 1, slots := 6, locals := 102 } : Room) [.int v, .int a, .int b] 2 := by
  by_cases h1 : v < a
  · exact tX7_checkRange1 l hfl v a b h1
  · exact tX7_checkRange2 l hfl v a b ⟨h1, Decidable.byContradiction fun h2 => h ⟨h1, h2⟩⟩
