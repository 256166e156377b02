/-! the bench, as the law calls it: call w with a, b, c; 0 to 11 through 'calls' -/
theorem mp3_z {c : Int32} (h : mp3 c = 0) : c = 0 := h
def mp_w (w : Nat) : Int32 → Int32 := match w with
  | 0 => mp3
  | 1 => mp13
  | 2 => mp3
  | 3 => mp3
  | 4 => mp3
  | 5 => mp13
  | 6 => mp3
  | 7 => mp3
  | 8 => mp13
  | 9 => mp3
  | 10 => mp13
  | 11 => mp13
  | 12 => mp3
  | 13 => mp3
  | 14 => mp3
  | 15 => mp3
  | 16 => mp3
  | 17 => mp3
  | 18 => mp3
  | 19 => mp3
  | 20 => mp3
  | 21 => mp23
  | _ => mp3
def xq7 (S : St) (w : Nat) (a b c : Int32) : Int32 × Int32 × St := match w with
  | 0 => fX7_claim S a b
  | 1 => fX7_admit S a
  | 2 => fX7_deal S a b c
  | 3 => fX7_file S a b c
  | 4 => fX7_amend S a b
  | 5 => fX7_extend S a
  | 6 => fX7_choose S a b
  | 7 => fX7_help S a b
  | 8 => fX7_judge S a
  | 9 => fX7_settle S a b
  | 10 => fX7_fire S a b
  | 11 => fX7_award S a b
  | 12 => fX7_fund S a b
  | 13 => fX7_scheme S a b c
  | 14 => fX7_sample S a b c
  | 15 => fX7_learn S a b
  | 16 => fX7_publish S a
  | 17 => fX7_plan S a b
  | 18 => fX7_know S a
  | 19 => fX7_work S a b c
  | 20 => fX7_tell S a b
  | 21 => fX7_pass S a
  | _ => (0, 0, S)
def xq8 (S : St) (w : Nat) (a b c : Int32) : Int32 × Int32 × St := match w with
  | 0 => fX8_claim S a b
  | 1 => fX8_admit S a
  | 2 => fX8_deal S a b c
  | 3 => fX8_file S a b c
  | 4 => fX8_amend S a b
  | 5 => fX8_extend S a
  | 6 => fX8_choose S a b
  | 7 => fX8_help S a b
  | 8 => fX8_judge S a
  | 9 => fX8_settle S a b
  | 10 => fX8_fire S a b
  | 11 => fX8_award S a b
  | 12 => fX8_fund S a b
  | 13 => fX8_scheme S a b c
  | 14 => (0, (fX8_sample S a b c).1, (fX8_sample S a b c).2)
  | 15 => fX8_learn S a b
  | 16 => fX8_publish S a
  | 17 => fX8_plan S a b
  | 18 => fX8_know S a
  | 19 => fX8_work S a b c
  | 20 => fX8_tell S a b
  | 21 => fX8_pass S a
  | _ => (0, 0, S)
def xqS (S : St) (w : Nat) (a b c : Int32) : St := mrg (xq8 S w a b c).2.2 (xq7 S w a b c).2.2
theorem xq_inv {S : St} (hI : Inv S) (w : Nat) (a b c : Int32) : Inv (xqS S w a b c) := by
  unfold xqS
  match w with
  | 0 => exact kp_claim hI a b
  | 1 => exact kp_admit hI a
  | 2 => exact kp_deal hI a b c
  | 3 => exact kp_file hI a b c
  | 4 => exact kp_amend hI a b
  | 5 => exact kp_extend hI a
  | 6 => exact kp_choose hI a b
  | 7 => exact kp_help hI a b
  | 8 => exact kp_judge hI a
  | 9 => exact kp_settle hI a b
  | 10 => exact kp_fire hI a b
  | 11 => exact kp_award hI a b
  | 12 => exact kp_fund hI a b
  | 13 => exact kp_scheme hI a b c
  | 14 => exact kp_sample hI a b c
  | 15 => exact kp_learn hI a b
  | 16 => exact kp_publish hI a
  | 17 => exact kp_plan hI a b
  | 18 => exact kp_know hI a
  | 19 => exact kp_work hI a b c
  | 20 => exact kp_tell hI a b
  | 21 => exact kp_pass hI a
  | n + 22 => exact inv_same hI
theorem xq_one {S : St} (hI : Inv S) (w : Nat) (a b c : Int32) : ONE (mp_w w) (xq8 S w a b c) (xq7 S w a b c) := by
  match w with
  | 0 => exact one_claim S hI.m a b
  | 1 => exact one_admit S hI.m hI.p hI.s a
  | 2 => exact one_deal S hI.m hI.g a b c
  | 3 => exact one_file S hI.m a b c
  | 4 => exact one_amend S hI.m hI.st hI.p a b
  | 5 => exact one_extend S hI.m hI.o.x a
  | 6 => exact one_choose S hI.m hI.st a b
  | 7 => exact one_help S hI.m hI.st a b
  | 8 => exact one_judge S hI.w a
  | 9 => exact one_settle S hI.w hI.m a b
  | 10 => exact one_fire S hI.m hI.o.o hI.t hI.td a b
  | 11 => exact one_award S hI.m hI.a a b
  | 12 => exact one_fund S  a b
  | 13 => exact one_scheme S hI.m a b c
  | 14 => exact one_sample S hI.m a b c
  | 15 => exact one_learn S hI.m hI.b a b
  | 16 => exact one_publish S hI.m a
  | 17 => exact one_plan S hI.m hI.pl.p a b
  | 18 => exact one_know S hI.m a
  | 19 => exact one_work S hI.m a b c
  | 20 => exact one_tell S hI.m hI.o.o hI.t hI.td a b
  | 21 => exact one_pass S hI.m a
  | n + 22 => exact one_same rfl
theorem xq_rows {S : St} (hI : Inv S) (w : Nat) (a b c : Int32) : ∀ r, ¬ rOwn r → xqS S w a b c r = (xq7 S w a b c).2.2 r := mrg_rows (fun r j h55 hn => (xq_one hI w a b c).2.2 r j h55 hn)
/-- what the law expects of a call: no throw (or, through 'calls', the state's alone), the answer -/
def XOK (S : St) (q : Nat × Int32 × Int32 × Int32) (ex : Int32) : Prop := if q.1 < 12 then ((xq7 S q.1 q.2.1 q.2.2.1 q.2.2.2).2.1 = 0 ∨ (xq7 S q.1 q.2.1 q.2.2.1 q.2.2.2).2.1 = 3) ∧ (if (xq7 S q.1 q.2.1 q.2.2.1 q.2.2.2).2.1 = 0 then (xq7 S q.1 q.2.1 q.2.2.1 q.2.2.2).1 else -1003) = ex else (xq7 S q.1 q.2.1 q.2.2.1 q.2.2.2).2.1 = 0 ∧ (xq7 S q.1 q.2.1 q.2.2.1 q.2.2.2).1 = ex
theorem XOK.c {S : St} {w : Nat} {a b c ex : Int32} (h : XOK S (w, a, b, c) ex) (hw : w < 12) : ((xq7 S w a b c).2.1 = 0 ∨ (xq7 S w a b c).2.1 = 3) ∧ (if (xq7 S w a b c).2.1 = 0 then (xq7 S w a b c).1 else -1003) = ex := by
  simp only [XOK, if_pos hw] at h
  exact h
theorem XOK.d {S : St} {w : Nat} {a b c ex : Int32} (h : XOK S (w, a, b, c) ex) (hw : ¬ w < 12) : (xq7 S w a b c).2.1 = 0 ∧ (xq7 S w a b c).1 = ex := by
  simp only [XOK, if_neg hw] at h
  exact h
def XS (S : St) (q : Nat × Int32 × Int32 × Int32) : St := xqS S q.1 q.2.1 q.2.2.1 q.2.2.2
theorem XS_99 (S : St) (a b c : Int32) : XS S (99, a, b, c) = S := mrg_self S
def CTk (S S' : St) : Prop := S' 7 = S 7 ∧ S' 15 = S 15 ∧ S' 23 = S 23 ∧ S' 28 = S 28 ∧ S' 67 = S 67
theorem CTk.ct {g : CWt} {S S' : St} (k : CTk S S') (h : CT g S) : CT g S' := by
  unfold CT nsc ncl ndl nsu npp at h ⊢
  rw [k.1, k.2.1, k.2.2.1, k.2.2.2.1, k.2.2.2.2]
  exact h
theorem CTk.rf (S : St) : CTk S S := ⟨rfl, rfl, rfl, rfl, rfl⟩
abbrev LM (A : Nat → Prop) (D : va_G) (cy : Nat → ClassId) (g : CWt) (S : St) (e0 mi n0 : Nat) : State → Prop := fun U => (CP D cy g S U ∧ JT A U U.heap) ∧ JX A D cy e0 mi U U.heap ∧ JO U ∧ n0 ≤ U.heap.size
theorem LM_blind {A : Nat → Prop} {D : va_G} {cy : Nat → ClassId} {g : CWt} {S : St} {e0 mi n0 : Nat} {av : List Value} : FrameBlind (va_Pc av (LM A D cy g S e0 mi n0)) := fun x U g' mk q => ⟨q.1, (CTh_blind (av := av) x U g' mk ⟨q.1, q.2.1⟩).2, JX.blind q.2.2.1, JO.blind q.2.2.2.1, q.2.2.2.2⟩
/-- 'calls' throws nothing -/
abbrev LF : String → State → State → Prop := vx_X (fun _ : Unit => False) (fun _ _ _ => True) (fun _ => False)
def LG (A : Nat → Prop) (g : CWt) (e0 : Nat) (g1 : CWt) (S' : St) : Prop := CL A g1 ∧ CG e0 g1 ∧ CT g1 S' ∧ ga g1 18 0 = ga g 18 0
theorem CH.keptA {A : Nat → Prop} {D : va_G} {cy : Nat → ClassId} {g : CWt} {S : St} {H H1 : Heap} (h : CH D cy g S H) (hL : CL A g) (hk : ∀ q : Nat, q < H.size → A q → H1[q]? = H[q]?) : CH D cy g S H1 := fun k i hv => (h k i hv).kept (hk _ (h k i hv).lt (hL.1 k i hv))
/-- the cells that the bench may write, and those that the law may -/
abbrev AB (A B : Nat → Prop) : Nat → Prop := fun q => A q ∨ B q
/-- what stays known of the bench and the rows -/
def XK (A B : Nat → Prop) (e0 n0 x0 : Nat) (la : Nat → Nat) (g : CWt) (S : St) : Prop := CL A g ∧ LL 12 B la ∧ (∀ q, A q → ¬ B q) ∧ (∀ q, n0 ≤ q → A q) ∧ CG e0 g ∧ CT g S ∧ Inv S ∧ ga g 18 0 = x0
theorem XK.v {A B : Nat → Prop} {e0 n0 x0 : Nat} {la : Nat → Nat} {g : CWt} {S : St} (h : XK A B e0 n0 x0 la g S) : CV e0 g S := ⟨h.2.2.2.2.1, h.2.2.2.2.2.1, h.2.2.2.2.2.2.1.m, h.2.2.2.2.2.2.1.k⟩
theorem XK.i {A B : Nat → Prop} {e0 n0 x0 : Nat} {la : Nat → Nat} {g : CWt} {S : St} (h : XK A B e0 n0 x0 la g S) : Inv S := h.2.2.2.2.2.2.1
/-- behind a call -/
theorem XK.next {A B : Nat → Prop} {e0 n0 x0 : Nat} {la : Nat → Nat} {g g1 : CWt} {S : St} {w : Nat} {a b c : Int32} (h : XK A B e0 n0 x0 la g S) (hG : LG A g e0 g1 (xq7 S w a b c).2.2) : XK A B e0 n0 x0 la g1 (xqS S w a b c) := ⟨hG.1, h.2.1, h.2.2.1, h.2.2.2.1, hG.2.1, hG.2.2.1.rows (xq_rows h.i w a b c), xq_inv h.i w a b c, hG.2.2.2.trans h.2.2.2.2.2.2.2⟩
theorem XK.same {A B : Nat → Prop} {e0 n0 x0 : Nat} {la : Nat → Nat} {g : CWt} {S S' : St} (h : XK A B e0 n0 x0 la g S) (k : CTk S S') : LG A g e0 g S' := ⟨h.1, h.2.2.2.2.1, k.ct h.2.2.2.2.2.1, rfl⟩
def XW (A B : Nat → Prop) (D : va_G) (cy : Nat → ClassId) (g : CWt) (S : St) (e0 mi n0 : Nat) (la : Nat → Nat) (L : St) : State → Prop := fun U => CH D cy g S U.heap ∧ LH 12 D cy la L U.heap ∧ KK D cy U ∧ JT (AB A B) U U.heap ∧ JX (AB A B) D cy e0 mi U U.heap ∧ JO U ∧ n0 ≤ U.heap.size
theorem XW_blind {A B : Nat → Prop} {D : va_G} {cy : Nat → ClassId} {g : CWt} {S : St} {e0 mi n0 : Nat} {la : Nat → Nat} {L : St} {av : List Value} : FrameBlind (va_Pc av (XW A B D cy g S e0 mi n0 la L)) := fun x U g' mk q => ⟨q.1, q.2.1, q.2.2.1, va_K.moved (u := U) (U := U.calling g' mk x) (Vm.Alike.refl U.vm) q.2.2.2.1, JT.blind q.2.2.2.2.1, JX.blind q.2.2.2.2.2.1, JO.blind q.2.2.2.2.2.2.1, q.2.2.2.2.2.2.2⟩
/-- what a body of the law that calls the bench has at hand -/
def XC (p : Program) (l : Launch) (s : State) (m : MethodId) (args : Array Value) (c : Code) (cc : ByteArray) (nL : Nat) (A B : Nat → Prop) (D : va_G) (cy : Nat → ClassId) (e0 mi : Nat) (Ts : List Cond) : Prop := CC p s m args c cc nL RL D cy Ts ∧ l.stackTraces = false ∧ JT (AB A B) s s.heap ∧ JX (AB A B) D cy e0 mi s s.heap ∧ JO s
def XI (A B : Nat → Prop) (D : va_G) (cy : Nat → ClassId) (g : CWt) (n0 : Nat) (la : Nat → Nat) (s : State) (S L : St) (H : Heap) (locs : List Loc) : Prop := CH D cy g S H ∧ LH 12 D cy la L H ∧ va_S (AB A B) s.heap H locs ∧ n0 ≤ H.size
theorem XI_eq {A B : Nat → Prop} {D : va_G} {cy : Nat → ClassId} {g : CWt} {n0 : Nat} {la : Nat → Nat} {s : State} {S L L' : St} {H : Heap} {locs : List Loc} (h : XI A B D cy g n0 la s S L H locs) (e : L = L') : XI A B D cy g n0 la s S L' H locs := e ▸ h
theorem XI_upr {A B : Nat → Prop} {D : va_G} {cy : Nat → ClassId} {g : CWt} {n0 : Nat} {la : Nat → Nat} {s : State} {S L : St} {H : Heap} {locs : List Loc} (h : XI A B D cy g n0 la s S L H locs) (k : Nat) {r : Nat → Int32} (e : L k = r) : XI A B D cy g n0 la s S (upr L k r) H locs := XI_eq h (upr_self e).symm
section XR
variable {p : Program} {l : Launch} {e : Env} {R : Room} {s : State} {m : MethodId} {args : Array Value} {below : List Frame} {meth : Method} {c : Code} {H : Heap} {locs : List Loc} {cells slots : Nat} {Q : State → Prop}
variable {cc : ByteArray} {pc nL : Nat} {ls : Array Slot} {rest : List Value} {D : va_G} {cy : Nat → ClassId} {la : Nat → Nat} {S L : St} {A B : Nat → Prop} {Ts : List Cond} {g : CWt} {e0 mi n0 x0 : Nat}
theorem xr_XW (hC : XC p l s m args c cc nL A B D cy e0 mi Ts) (hI : XI A B D cy g n0 la s S L H locs) {U : State} (hU : U.heap = H) (hW : s.WarmedH U.vm) : XW A B D cy g S e0 mi n0 la L U := by
  refine ⟨by rw [hU]; exact hI.1, by rw [hU]; exact hI.2.1, va_K.moved hW.alike hC.1.2, ?_, JX_now hC.2.2.2.1 hI.2.2.1 (fun _ h => h) hU hW, JO.warm hW hC.2.2.2.2, by rw [hU]; exact hI.2.2.2⟩
  rw [hU]
  exact JT.warm hW (JT.kept hC.2.2.1 hI.2.2.1.2.1)
theorem xr_LM (hC : XC p l s m args c cc nL A B D cy e0 mi Ts) (hI : XI A B D cy g n0 la s S L H locs) {U : State} (hU : U.heap = H) (hW : s.WarmedH U.vm) : LM A D cy g S e0 mi n0 U := by
  obtain ⟨h1, h2, h3, h4, h5, h6, h7⟩ := xr_XW hC hI hU hW
  exact ⟨⟨⟨h1, h3⟩, JT.narrow h4 (fun _ h => Or.inl h)⟩, JX.narrow h5 (fun _ h => Or.inl h), h6, h7⟩
theorem xr_ld (hC : XC p l s m args c cc nL A B D cy e0 mi Ts) (hI : XI A B D cy g n0 la s S L H locs) (k : Nat) (hk : k < 12) {i : Int32} (hin : vp_in i (lLen k)) {v : Int32} (hv : L k (ix i) = v) (hdg : decode cc pc = .ok (.iaload, 1))
    (kk : W p l e R s m args below meth c H locs cells slots Q (F0 m (pc + 1) ls (.int v :: rest))) : W p l e R s m args below meth c H locs cells slots Q (F0 m pc ls (.int i :: .ref (la k) :: rest)) :=
  lr_ld (A := AB A B) hC.1 ⟨hI.2.1, hI.2.2.1⟩ k hk hin hv hdg kk
theorem xr_st (hC : XC p l s m args c cc nL A B D cy e0 mi Ts) (hK : XK A B e0 n0 x0 la g S) (hI : XI A B D cy g n0 la s S L H locs) (k : Nat) (hk : k < 12) {i v : Int32} (hin : vp_in i (lLen k)) {n : Nat} (hn : ix i = n) (hdg : decode cc pc = .ok (.iastore, 1))
    (kk : ∀ (H1 : Heap) (locs1 : List Loc), XI A B D cy g n0 la s S (up L k n v) H1 locs1 → W p l e R s m args below meth c H1 locs1 cells slots Q (F0 m (pc + 1) ls rest)) : W p l e R s m args below meth c H locs cells slots Q (F0 m pc ls (.int v :: .int i :: .ref (la k) :: rest)) := by
  subst hn
  have hL := hK.2.1.at k hk
  refine ww_iast hC.1.1.1 hC.1.1.2.1 hC.1.2 0 (hI.2.1 k hk) rfl hin hdg (fun H1 j h1 z oq => ?_)
  exact kk H1 _ ⟨hI.1.keptA hK.1 (fun q _ ha => oq q (fun e9 => hK.2.2.1 q ha (e9 ▸ hL.1))), LH_row hL hI.2.1 hk h1 oq, S_put j hI.2.2.1 z oq (Or.inr hL.1), by rw [z]; exact hI.2.2.2⟩
variable {y : MethodName} {ws : List Cond} {rm : Room} {As st0 : List Value} {bytes : ByteArray} {maxL n index mc ms : Nat} {ret : Option FieldType} {v : Int32}
theorem xr_call (hC : XC p l s m args c cc nL A B D cy e0 mi Ts) (hI : XI A B D cy g n0 la s S L H locs) (hM : LPure l D cy la L y ws rm mc ms As v) (cw : CallB R s args RL index y bytes maxL ret ws rm mc ms n ∧ (Cond.static y).before args s = true) (hn : As.length = n) (hsize : ls.size = nL) (hst : st0 = As.reverse ++ rest) (hr : (rest.map fun v => v.category).sum ≤ 8) (hdg : decode cc pc = .ok (.invokestatic index, 3)) (hf : cells + mc ≤ R.cells ∧ slots + ms ≤ R.slots)
    (kk : ∀ (H1 : Heap) (locs1 : List Loc), XI A B D cy g n0 la s S L H1 locs1 → W p l e R s m args below meth c H1 locs1 (cells + mc) (slots + ms) Q (F0 m (pc + 3) ls (.int v :: rest))) : W p l e R s m args below meth c H locs cells slots Q (F0 m pc ls st0) :=
  lr_call (A := AB A B) hC.1 ⟨hI.2.1, hI.2.2.1⟩ (by decide) (fun _ _ => rfl) hM cw hn hsize hst hr hdg hf (fun H1 locs1 hk hz hI1 => kk H1 locs1 ⟨hI.1.keep hk, hI1.1, hI1.2, Nat.le_trans hI.2.2.2 hz⟩)
theorem xr_callS (hC : XC p l s m args c cc nL A B D cy e0 mi Ts) (hI : XI A B D cy g n0 la s S L H locs) (hM : SPure l y ws rm As v) (cw : CallB R s args RL index y bytes maxL ret ws rm 0 0 n ∧ (Cond.static y).before args s = true) (hn : As.length = n) (hsize : ls.size = nL) (hst : st0 = As.reverse ++ rest) (hr : (rest.map fun v => v.category).sum ≤ 8) (hdg : decode cc pc = .ok (.invokestatic index, 3)) (hf : cells ≤ R.cells ∧ slots ≤ R.slots)
    (kk : ∀ (H1 : Heap) (locs1 : List Loc), XI A B D cy g n0 la s S L H1 locs1 → W p l e R s m args below meth c H1 locs1 cells slots Q (F0 m (pc + 3) ls (.int v :: rest))) : W p l e R s m args below meth c H locs cells slots Q (F0 m pc ls st0) :=
  lr_callS (A := AB A B) hC.1 ⟨hI.2.1, hI.2.2.1⟩ hM cw hn hsize hst hr hdg hf (fun H1 locs1 hk hz hI1 => kk H1 locs1 ⟨hI.1.keep hk, hI1.1, hI1.2, Nat.le_trans hI.2.2.2 hz⟩)
theorem xr_callV (hC : XC p l s m args c cc nL A B D cy e0 mi Ts) (hK : XK A B e0 n0 x0 la g S) (hI : XI A B D cy g n0 la s S L H locs) {L' : St} (hM : LMutV l B D cy la L y ws rm As L') (cw : CallB R s args RL index y bytes maxL ret ws rm 0 0 n ∧ (Cond.static y).before args s = true) (hn : As.length = n) (hsize : ls.size = nL) (hst : st0 = As.reverse ++ rest) (hr : (rest.map fun v => v.category).sum ≤ 8) (hdg : decode cc pc = .ok (.invokestatic index, 3)) (hf : cells ≤ R.cells ∧ slots ≤ R.slots)
    (kk : ∀ (H1 : Heap) (locs1 : List Loc), XI A B D cy g n0 la s S L' H1 locs1 → W p l e R s m args below meth c H1 locs1 cells slots Q (F0 m (pc + 3) ls rest)) : W p l e R s m args below meth c H locs cells slots Q (F0 m pc ls st0) :=
  lr_callV (A := AB A B) hC.1 ⟨hI.2.1, hI.2.2.1⟩ (fun _ h => Or.inr h) hM cw hn hsize hst hr hdg hf (fun H1 locs1 hk hz hI1 => kk H1 locs1 ⟨hI.1.keptA hK.1 (fun q hq ha => hk q hq (hK.2.2.1 q ha)), hI1.1, hI1.2, Nat.le_trans hI.2.2.2 hz⟩)
theorem xr_recv (hC : XC p l s m args c cc nL A B D cy e0 mi Ts) (hI : XI A B D cy g n0 la s S L H locs) : ∃ cell : Cell, H[ga g 18 0]? = some cell ∧ cell.vm.isStatics = false ∧ s.vm.findClass RX7 = some cell.cls :=
  va_recv hC.1.2 (p1 (hI.1 18 0 rfl)) (ci := 8) (q0 := 0) rfl rfl
/-- behind a call of the bench -/
theorem xr_fin {w : Nat} {a b c2 : Int32} {g1 : CWt} {H1 : Heap} {locs1 : List Loc} {t : State} (hK : XK A B e0 n0 x0 la g S) (hI : XI A B D cy g n0 la s S L H locs) (ht : t.heap = H1) (hB : CH D cy g1 (xq7 S w a b c2).2.2 t.heap) (hG : LG A g e0 g1 (xq7 S w a b c2).2.2) (hz1 : H.size ≤ H1.size) (hk1 : ∀ q : Nat, q < H.size → ¬ A q → H1[q]? = H[q]?) (hS1 : va_S (AB A B) s.heap H1 locs1) : XK A B e0 n0 x0 la g1 (xqS S w a b c2) ∧ XI A B D cy g1 n0 la s (xqS S w a b c2) L H1 locs1 := by
  rw [ht] at hB
  exact ⟨hK.next hG, hB.rows (xq_rows hK.i w a b c2), hI.2.1.keptA hK.2.1 (fun q hq hb => hk1 q hq (fun ha => hK.2.2.1 q ha hb)), hS1, Nat.le_trans hI.2.2.2 hz1⟩
/-- a call of the bench that makes nothing and does not throw -/
theorem xr_q (w : Nat) (a b c2 : Int32) (hC : XC p l s m args c cc nL A B D cy e0 mi Ts) (hK : XK A B e0 n0 x0 la g S) (hI : XI A B D cy g n0 la s S L H locs) (hM : vx_Met l y ws rm (va_Pc (.ref (ga g 18 0) :: As) (fun U => CP D cy g S U ∧ JT A U U.heap)) (va_Qi (fun (r : Int32) (_ : Unit) => (xq7 S w a b c2).2.1 = 0 ∧ r = (xq7 S w a b c2).1) (fun _ t9 => CH D cy g (xq7 S w a b c2).2.2 t9.heap) A) (XF A D cy g S (xq7 S w a b c2).2.1) mc ms A) (hk : CTk S (xq7 S w a b c2).2.2) (hz : (xq7 S w a b c2).2.1 = 0) (cw : CallW R s args RL RX7 index y bytes maxL ret ws rm mc ms n) (hn : As.length = n) (hsize : ls.size = nL) (hst : st0 = As.reverse ++ .ref x0 :: rest) (hr : (rest.map fun v => v.category).sum ≤ 8) (hdg : decode cc pc = .ok (.invokevirtual index, 3)) (hf : cells + mc ≤ R.cells ∧ slots + ms ≤ R.slots)
    (kk : ∀ (H1 : Heap) (locs1 : List Loc), XK A B e0 n0 x0 la g (xqS S w a b c2) → XI A B D cy g n0 la s (xqS S w a b c2) L H1 locs1 → W p l e R s m args below meth c H1 locs1 (cells + mc) (slots + ms) Q (F0 m (pc + 3) ls (.int (xq7 S w a b c2).1 :: rest))) : W p l e R s m args below meth c H locs cells slots Q (F0 m pc ls st0) := by
  obtain rfl : ga g 18 0 = x0 := hK.2.2.2.2.2.2.2
  refine vx_calli (vx_runV (As := As) (rest := rest) hC.1.1 hM cw ⟨CTh_blind, xr_recv hC hI, fun U hU hW => ⟨rfl, (xr_LM hC hI hU hW).1⟩⟩ rfl hn hsize hst (lv_room hr) hdg hf) hI.2.2.1 (fun q _ h => Or.inl h) (fun q h => Or.inl h) (fun q _ h => Or.inl h) (fun E ce q9 u t H1 locs1 ht hvm hp => absurd hz hp) (fun r u t H1 locs1 ht hvm hp hB hz1 hk1 hS1 => ?_)
  obtain ⟨h1, h2⟩ := xr_fin hK hI ht hB (hK.same hk) hz1 hk1 hS1
  rw [hp.2]
  exact kk H1 locs1 h1 h2
theorem xr_qv (w : Nat) (a b c2 : Int32) (hC : XC p l s m args c cc nL A B D cy e0 mi Ts) (hK : XK A B e0 n0 x0 la g S) (hI : XI A B D cy g n0 la s S L H locs) (hM : vx_Met l y ws rm (va_Pc (.ref (ga g 18 0) :: As) (fun U => CP D cy g S U ∧ JT A U U.heap)) (va_Qv (fun (_ : Unit) => (xq7 S w a b c2).2.1 = 0) (fun _ t9 => CH D cy g (xq7 S w a b c2).2.2 t9.heap) A) (XF A D cy g S (xq7 S w a b c2).2.1) mc ms A) (hk : CTk S (xq7 S w a b c2).2.2) (hz : (xq7 S w a b c2).2.1 = 0) (cw : CallW R s args RL RX7 index y bytes maxL ret ws rm mc ms n) (hn : As.length = n) (hsize : ls.size = nL) (hst : st0 = As.reverse ++ .ref x0 :: rest) (hr : (rest.map fun v => v.category).sum ≤ 8) (hdg : decode cc pc = .ok (.invokevirtual index, 3)) (hf : cells + mc ≤ R.cells ∧ slots + ms ≤ R.slots)
    (kk : ∀ (H1 : Heap) (locs1 : List Loc), XK A B e0 n0 x0 la g (xqS S w a b c2) → XI A B D cy g n0 la s (xqS S w a b c2) L H1 locs1 → W p l e R s m args below meth c H1 locs1 (cells + mc) (slots + ms) Q (F0 m (pc + 3) ls rest)) : W p l e R s m args below meth c H locs cells slots Q (F0 m pc ls st0) := by
  obtain rfl : ga g 18 0 = x0 := hK.2.2.2.2.2.2.2
  refine vx_callv (vx_runV (As := As) (rest := rest) hC.1.1 hM cw ⟨CTh_blind, xr_recv hC hI, fun U hU hW => ⟨rfl, (xr_LM hC hI hU hW).1⟩⟩ rfl hn hsize hst (lv_room hr) hdg hf) hI.2.2.1 (fun q _ h => Or.inl h) (fun q h => Or.inl h) (fun q _ h => Or.inl h) (fun E ce q9 u t H1 locs1 ht hvm hp => absurd hz hp) (fun u t H1 locs1 ht hvm hp hB hz1 hk1 hS1 => ?_)
  obtain ⟨h1, h2⟩ := xr_fin hK hI ht hB (hK.same hk) hz1 hk1 hS1
  exact kk H1 locs1 h1 h2
/-- a call of the bench that makes something and does not throw -/
theorem xr_mk (w : Nat) (a b c2 : Int32) (hC : XC p l s m args c cc nL A B D cy e0 mi Ts) (hK : XK A B e0 n0 x0 la g S) (hI : XI A B D cy g n0 la s S L H locs) (hM : vx_Met l y ws rm (va_Pc (.ref (ga g 18 0) :: As) (LM A D cy g S e0 mi n0)) (va_Qi (fun (r : Int32) (g1 : CWt) => (xq7 S w a b c2).2.1 = 0 ∧ r = (xq7 S w a b c2).1 ∧ CL A g1 ∧ CG e0 g1 ∧ CT g1 (xq7 S w a b c2).2.2 ∧ ga g1 18 0 = ga g 18 0) (fun g1 t9 => CH D cy g1 (xq7 S w a b c2).2.2 t9.heap) A) (XF A D cy g S (xq7 S w a b c2).2.1) mc ms A) (hz : (xq7 S w a b c2).2.1 = 0) (cw : CallW R s args RL RX7 index y bytes maxL ret ws rm mc ms n) (hn : As.length = n) (hsize : ls.size = nL) (hst : st0 = As.reverse ++ .ref x0 :: rest) (hr : (rest.map fun v => v.category).sum ≤ 8) (hdg : decode cc pc = .ok (.invokevirtual index, 3)) (hf : cells + mc ≤ R.cells ∧ slots + ms ≤ R.slots)
    (kk : ∀ (g1 : CWt) (H1 : Heap) (locs1 : List Loc), XK A B e0 n0 x0 la g1 (xqS S w a b c2) → XI A B D cy g1 n0 la s (xqS S w a b c2) L H1 locs1 → W p l e R s m args below meth c H1 locs1 (cells + mc) (slots + ms) Q (F0 m (pc + 3) ls (.int (xq7 S w a b c2).1 :: rest))) : W p l e R s m args below meth c H locs cells slots Q (F0 m pc ls st0) := by
  obtain rfl : ga g 18 0 = x0 := hK.2.2.2.2.2.2.2
  refine vx_calli (vx_runV (As := As) (rest := rest) hC.1.1 hM cw ⟨LM_blind, xr_recv hC hI, fun U hU hW => ⟨rfl, xr_LM hC hI hU hW⟩⟩ rfl hn hsize hst (lv_room hr) hdg hf) hI.2.2.1 (fun q _ h => Or.inl h) (fun q h => Or.inl h) (fun q _ h => Or.inl h) (fun E ce q9 u t H1 locs1 ht hvm hp => absurd hz hp) (fun r g1 t H1 locs1 ht hvm hp hB hz1 hk1 hS1 => ?_)
  obtain ⟨-, hr1, hG⟩ := hp
  obtain ⟨h1, h2⟩ := xr_fin hK hI ht hB hG hz1 hk1 hS1
  rw [hr1]
  exact kk g1 H1 locs1 h1 h2
/-- 'calls' -/
abbrev LCall (l : Launch) (A : Nat → Prop) (D : va_G) (cy : Nat → ClassId) (g : CWt) (S : St) (e0 mi n0 w : Nat) (a b c2 : Int32) (y : MethodName) (ws : List Cond) (rm : Room) (As : List Value) : Prop := vx_Met l y ws rm (va_Pc As (LM A D cy g S e0 mi n0)) (va_Qi (fun (r : Int32) (g1 : CWt) => r = (if (xq7 S w a b c2).2.1 = 0 then (xq7 S w a b c2).1 else -1003) ∧ LG A g e0 g1 (xq7 S w a b c2).2.2) (fun g1 t => CH D cy g1 (xq7 S w a b c2).2.2 t.heap) A) LF 6 326 A
theorem xr_cs (w : Nat) (a b c2 : Int32) {hh : List (Nat × Nat × Nat × Nat)} (hC : XC p l s m args c cc nL A B D cy e0 mi Ts) (hK : XK A B e0 n0 x0 la g S) (hI : XI A B D cy g n0 la s S L H locs) (hM : LCall l A D cy g S e0 mi n0 w a b c2 y ws rm As) (cw : vx_CSW R s args RL index y bytes maxL ret hh ws rm 6 326 n) (hn : As.length = n) (hsize : ls.size = nL) (hst : st0 = As.reverse ++ rest) (hr : (rest.map fun v => v.category).sum ≤ 8) (hdg : decode cc pc = .ok (.invokestatic index, 3)) (hf : cells + 6 ≤ R.cells ∧ slots + 326 ≤ R.slots)
    (kk : ∀ (g1 : CWt) (H1 : Heap) (locs1 : List Loc), XK A B e0 n0 x0 la g1 (xqS S w a b c2) → XI A B D cy g1 n0 la s (xqS S w a b c2) L H1 locs1 → W p l e R s m args below meth c H1 locs1 (cells + 6) (slots + 326) Q (F0 m (pc + 3) ls (.int (if (xq7 S w a b c2).2.1 = 0 then (xq7 S w a b c2).1 else -1003) :: rest))) : W p l e R s m args below meth c H locs cells slots Q (F0 m pc ls st0) := by
  refine vx_calli (vx_runSX (As := As) (rest := rest) hC.1.1 hM cw ⟨LM_blind, fun U hU hW => ⟨rfl, xr_LM hC hI hU hW⟩⟩ rfl hn hsize hst (lv_room hr) hdg hf) hI.2.2.1 (fun q _ h => Or.inl h) (fun q h => Or.inl h) (fun q _ h => h.elim) (fun E ce q9 u t H1 locs1 ht hvm hp => False.elim hp) (fun r g1 t H1 locs1 ht hvm hp hB hz1 hk1 hS1 => ?_)
  obtain ⟨hr1, hG⟩ := hp
  obtain ⟨h1, h2⟩ := xr_fin hK hI ht hB hG hz1 hk1 hS1
  rw [hr1]
  exact kk g1 H1 locs1 h1 h2
end XR
/-! numbers out of the script -/
theorem low_c (v : Int32) {n : Int32} {N : Nat} (hn : n = nI N) (h0 : 0 < N) (hN : N < 2 ^ 31) : vp_in (fL_low v n) N := by
  subst hn
  obtain ⟨j, hj, e⟩ := pk_andE v (m := 2147483647) 31 (by decide)
  unfold fL_low
  rw [e, pk_rem (by omega) h0 hN]
  exact vp_in_nI (Nat.mod_lt _ h0) hN
theorem low_n (v : Int32) {n : Int32} {N : Nat} (hn : n = nI N) (h0 : 0 < N) (hN : N < 2 ^ 31) : ∃ k, k < N ∧ fL_low v n = nI k := ⟨ix (fL_low v n), vp_ixl (low_c v hn h0 hN), vp_ixe (low_c v hn h0 hN)⟩
theorem low2_ne (v : Int32) : ¬ (1 + fL_low v 20) + 1 = 0 := by
  obtain ⟨k, hk, e⟩ := low_n v (n := 20) (N := 20) (by decide) (by decide) (by decide)
  rw [e, show (1 : Int32) = nI 1 by decide, nI_add, nI_add]
  exact nI_ne0 (by omega) (by omega)
theorem ne_lt {x : Int32} {n K : Nat} {c : Int32} (hx : x = nI n) (hn : n ≤ K) (hc : c = nI K) (h : ¬ x = c) : n < K := by
  rcases Nat.lt_or_ge n K with q | q
  · exact q
  · exact absurd (by rw [hx, hc, Nat.le_antisymm hn q]) h
theorem ne_8 {x : Int32} {n : Nat} (hx : x = nI n) (hn : n ≤ 8) (h : ¬ x = 8) : n < 8 := ne_lt hx hn (by decide) h
theorem ge_lt {x : Int32} {n K : Nat} {c : Int32} (hx : x = nI n) (hK : n ≤ K) (hK2 : K < 2 ^ 31) (hc : c = nI K) (h : ¬ c ≤ x) : n < K := by
  rw [hx, hc] at h
  rcases Nat.lt_or_ge n K with q | q
  · exact q
  · exact absurd (nI_le q (by omega)) h
theorem lt_40 {x : Int32} {n : Nat} (hx : x = nI n) (hn : n ≤ 40) (h : ¬ (40 : Int32) ≤ x) : n < 40 := ge_lt hx hn (by decide) (by decide) h
theorem lt_20 {x : Int32} {n : Nat} (hx : x = nI n) (hn : n ≤ 20) (h : ¬ (20 : Int32) ≤ x) : n < 20 := ge_lt hx hn (by decide) (by decide) h
theorem emp_x {x : Int32} (h : vp_in x 4) (h0 : ¬ x ≤ 0) : ∃ n, n < 3 ∧ x = nI (n + 1) := by
  obtain ⟨n, e, hn⟩ := pos_nI h0
  have h1 := vp_ixl h
  rw [e, show ix (nI (n + 1)) = n + 1 from nI_clamp hn] at h1
  exact ⟨n, by omega, e⟩
theorem emp_e {x : Int32} (h : vp_in x 4) (h0 : ¬ x ≤ 0) : x - 1 = nI (ix x - 1) := by
  obtain ⟨n, hn, e⟩ := emp_x h h0
  rw [e, show ix (nI (n + 1)) = n + 1 from nI_clamp (by omega)]
  exact nI_pred n
theorem emp_l {x : Int32} (h : vp_in x 4) (h0 : ¬ x ≤ 0) : ix x - 1 < 3 := by
  obtain ⟨n, hn, e⟩ := emp_x h h0
  rw [e, show ix (nI (n + 1)) = n + 1 from nI_clamp (by omega)]
  exact hn
