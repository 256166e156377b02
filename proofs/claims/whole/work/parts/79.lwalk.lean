/-! the law's loop: what holds between two rounds, and its steps -/
def A7 (sz o oa : Nat) : Nat → Prop := fun q => (sz ≤ q ∧ q < o) ∨ oa < q
def A8 (o oa : Nat) : Nat → Prop := fun q => o ≤ q ∧ q < oa
def LC (p : Program) (l : Launch) (s : State) (m : MethodId) (c : Code) (D : va_G) (cy : Nat → ClassId) (o : Nat) (ad : Nat → Nat) (oa e0 mi b L : Nat) (xs : Nat → Int32) : Prop :=
  CC p s m #[Value.ref b] c cL_law 7 RL D cy wsL_law ∧ (va_X b L xs s s.heap ∧ b < s.heap.size ∧ L ≤ 2048) ∧ l.stackTraces = false ∧ (JT (fun q => s.heap.size ≤ q) s s.heap ∧ JX (fun q => s.heap.size ≤ q) D cy e0 mi s s.heap ∧ JO s ∧ JN s) ∧ (s.heap.size ≤ o ∧ o < oa) ∧ ML (A8 o oa) o ad
def LW (s : State) (D : va_G) (cy : Nat → ClassId) (o : Nat) (ad : Nat → Nat) (oa e0 x0 : Nat) (H : Heap) (locs : List Loc) : Prop :=
  va_S (fun q => s.heap.size ≤ q) s.heap H locs ∧ oa < H.size ∧ ∃ (g : CWt) (S : St) (th : Int32) (v : Int64), Inv S ∧ LG (A7 s.heap.size o oa) g e0 g S ∧ ga g 18 0 = x0 ∧ CH D cy g S H ∧ MH D cy o ad S th H ∧ at1 D oa (LA cy v) H
theorem a7_sz {sz o oa q : Nat} (h1 : sz ≤ o) (h2 : o < oa) (h : A7 sz o oa q) : sz ≤ q := by
  unfold A7 at h
  omega
theorem a7_oa {sz o oa : Nat} (h2 : o < oa) : ¬ A7 sz o oa oa := by
  unfold A7
  omega
theorem a7_a8 {sz o oa q : Nat} (h2 : o < oa) (h : A7 sz o oa q) : ¬ A8 o oa q := by
  unfold A7 at h
  unfold A8
  omega
theorem a8_a7 {sz o oa q : Nat} (h : A8 o oa q) : ¬ (A7 sz o oa q ∨ q = oa) := by
  unfold A8 at h
  unfold A7
  omega
theorem a8_oa {o oa : Nat} : ¬ A8 o oa oa := by
  unfold A8
  omega
theorem a8_sz {sz o oa q : Nat} (h1 : sz ≤ o) (h : A8 o oa q) : sz ≤ q := by
  unfold A8 at h
  omega
theorem a7_new {sz o oa q : Nat} (h : oa + 1 ≤ q) : A7 sz o oa q := Or.inr h
theorem MH.keptA {A : Nat → Prop} {D : va_G} {cy : Nat → ClassId} {o : Nat} {ad : Nat → Nat} {S : St} {th : Int32} {H H1 : Heap} (h : MH D cy o ad S th H) (hL : ML A o ad) (hk : ∀ q : Nat, q < H.size → A q → H1[q]? = H[q]?) : MH D cy o ad S th H1 := ⟨h.1.kept (hk _ h.1.lt hL.1), fun k hk1 => (h.2 k hk1).kept (hk _ (h.2 k hk1).lt (hL.2 k hk1).1)⟩
theorem CH.keptA {A : Nat → Prop} {D : va_G} {cy : Nat → ClassId} {g : CWt} {S : St} {H H1 : Heap} (h : CH D cy g S H) (hL : CL A g) (hk : ∀ q : Nat, q < H.size → A q → H1[q]? = H[q]?) : CH D cy g S H1 := fun k i hv => (h k i hv).kept (hk _ (h k i hv).lt (hL.1 k i hv))
theorem lc_cmp {x y : Int64} (h : x = y) : lg_cmp x y = 0 := by
  subst h
  simp [lg_cmp]
theorem mp3_z {c : Int32} (h : mp3 c = 0) : c = 0 := h
theorem mp13_z {c : Int32} (h : mp13 c = 0) : c = 0 := by
  unfold mp13 at h
  split at h
  · exact absurd h (by decide)
  · exact h
theorem mp23_z {c : Int32} (h : mp23 c = 0) : c = 0 := by
  unfold mp23 at h
  split at h
  · exact absurd h (by decide)
  · split at h
    · exact absurd h (by decide)
    · exact h
section LLW
variable {p : Program} {l : Launch} {e : Env} {R : Room} {s : State} {m : MethodId} {args : Array Value} {below : List Frame} {meth : Method} {c : Code} {H : Heap} {locs : List Loc} {cells slots : Nat} {Q : State → Prop}
variable {cc : ByteArray} {pc : Nat} {ls : Array Slot} {rest : List Value} {D : va_G} {cy : Nat → ClassId} {o oa e0 mi b L : Nat} {ad : Nat → Nat} {xs : Nat → Int32} {g : CWt} {S : St} {th : Int32} {v : Int64}
theorem lc_sld (hx : p.tables.exec = Jvm.exec) (hb : c.code = cc) (hX : va_X b L xs s s.heap ∧ b < s.heap.size ∧ L ≤ 2048) (hS : va_S (fun q => s.heap.size ≤ q) s.heap H locs) {i : Nat} (k : Nat) {x : Int32} (hk : x = nI k) (hik : i + k < L) (hdg : decode cc pc = .ok (.iaload, 1))
    (kk : W p l e R s m args below meth c H locs cells slots Q (F0 m (pc + 1) ls (.int (xs (i + k)) :: rest))) : W p l e R s m args below meth c H locs cells slots Q (F0 m pc ls (.int (nI i + x) :: .ref b :: rest)) := by
  subst hk
  rw [nI_add]
  obtain ⟨h1, h2, h3⟩ := hX
  refine va_sld hx hb h1 h2 (Nat.not_le.mpr h2) hS (vp_in_nI hik (by omega)) hdg ?_
  rw [show (nI (i + k)).toNatClampNeg = i + k from nI_clamp (by omega)]
  exact kk
theorem lc_lald (hx : p.tables.exec = Jvm.exec) (hb : c.code = cc) (hK : KK D cy s) (hO : at1 D oa (LA cy v) H) (hdg : decode cc pc = .ok (.laload, 1))
    (kk : W p l e R s m args below meth c H locs cells slots Q (F0 m (pc + 1) ls (.long v :: rest))) : W p l e R s m args below meth c H locs cells slots Q (F0 m pc ls (.int 0 :: .ref oa :: rest)) :=
  va_lald hx hb hK (p1 hO) 0 5 rfl rfl (vp_in_nI (n := 0) (by decide) (by decide)) hdg kk
theorem lc_LP (C : LC p l s m c D cy o ad oa e0 mi b L xs) (hS : va_S (fun q => s.heap.size ≤ q) s.heap H locs) (hz : oa < H.size) (hM : CH D cy g S H) (hO : at1 D oa (LA cy v) H) {U : State} (hU : U.heap = H) (hW : s.WarmedH U.vm) : LPw (A7 s.heap.size o oa) D cy g S e0 mi (oa + 1) oa U := by
  obtain ⟨hC, -, -, ⟨hJ, hX, hJo, hJn⟩, ⟨ho1, ho2⟩, -⟩ := C
  refine ⟨⟨⟨⟨by rw [hU]; exact hM, va_K.moved hW.alike hC.2⟩, ?_⟩, JX_now hX hS (fun q h => a7_sz ho1 ho2 h) hU hW, JO.warm hW hJo, by rw [hU]; exact hz⟩, JN.moved hW.alike hJn, v, by rw [hU]; exact hO⟩
  rw [hU]
  exact JT.warm hW (JT.narrow (JT.kept hJ hS.2.1) (fun q h => a7_sz ho1 ho2 h))
/-- the world after a call -/
theorem lc_fin {mp : Int32 → Int32} {x8 x7 : Int32 × Int32 × St} {g1 : CWt} (hS : va_S (fun q => s.heap.size ≤ q) s.heap H locs) (hz : oa < H.size) (hI : Inv (mrg x8.2.2 x7.2.2)) (h1 : ONE mp x8 x7) (hG : LG (A7 s.heap.size o oa) g e0 g1 x7.2.2) (hM : CH D cy g1 x7.2.2 H) (hR : MH D cy o ad x8.2.2 th H) (hO : at1 D oa (LA cy v) H) : LW s D cy o ad oa e0 (ga g 18 0) H locs :=
  ⟨hS, hz, g1, mrg x8.2.2 x7.2.2, th, v, hI, ⟨hG.1, hG.2.1, hG.2.2.1.rows (mrg_rows (fun r j h55 hn => (h1.2.2 r j h55 hn))), rfl⟩, hG.2.2.2, hM.rows (mrg_rows (fun r j h55 hn => (h1.2.2 r j h55 hn))), hR.mrg, hO⟩
end LLW
