/-! the ghost extended -/
def jol : List Cond := [.castable "RelatorsBench$Scheme" "java/lang/Object", .castable "RelatorsBench$Claim" "java/lang/Object", .castable "RelatorsBench$Deal" "java/lang/Object", .castable "RelatorsBench$Suit" "java/lang/Object", .castable "RelatorsBench$Paper" "java/lang/Object"]
def JO (U : State) : Prop := ∀ w ∈ jol, va_Nw w U
theorem jol_tab : ∀ w ∈ jol, w.onTables = true := by decide +kernel
theorem JO.warm {s U : State} (hW : s.WarmedH U.vm) (h : JO s) : JO U :=
  List.forall_mem_cons.mpr ⟨va_Nw.warmC hW (h _ (List.mem_of_getElem? (i := 0) rfl)), List.forall_mem_cons.mpr ⟨va_Nw.warmC hW (h _ (List.mem_of_getElem? (i := 1) rfl)), List.forall_mem_cons.mpr ⟨va_Nw.warmC hW (h _ (List.mem_of_getElem? (i := 2) rfl)), List.forall_mem_cons.mpr ⟨va_Nw.warmC hW (h _ (List.mem_of_getElem? (i := 3) rfl)), List.forall_mem_cons.mpr ⟨va_Nw.warmC hW (h _ (List.mem_of_getElem? (i := 4) rfl)), fun _ hh => absurd hh List.not_mem_nil⟩⟩⟩⟩⟩
theorem JO.blind {U : State} {g : JFrame} {mk : MethodId} {x : Array Value} (h : JO U) : JO (U.calling g mk x) := fun w hw => va_Nw.same (jol_tab w hw) (u := U) (U := U.calling g mk x) rfl (h w hw)
theorem any_of {D : va_G} {cy : Nat → ClassId} {s : State} {a ci : Nat} {fs : List Value} {H : Heap} {r : vw_C} (hK : KK D cy s) (h : at1 D a (.inr (ci, fs)) H) (hc : vwCl[ci]? = some r) (hw : va_Nw (.castable r.1 "java/lang/Object") s) : va_Any "java/lang/Object" s H a :=
  va_rAny hK (p1 h) (q0 := 0) rfl hc (fun comp c0 h1 h2 => by
    obtain ⟨x, y, f1, f2, f3⟩ := Cond.castable_spec (va_Nw.use (A := #[]) rfl hw)
    cases h2.symm.trans f1
    cases h1.symm.trans f2
    exact f3)
/-- the cells that are new or lie elsewhere are apart -/
theorem CL_ext {A : Nat → Prop} {g g1 : CWt} (X : Nat → Nat → Prop) (hL : CL A g) (h1 : ∀ k i, cval g1 k i → ¬ X k i → cval g k i ∧ ga g1 k i = ga g k i) (h2 : ∀ k i, X k i → cval g1 k i → A (ga g1 k i) ∧ (∀ k' i', cval g k' i' → ¬ X k' i' → ga g k' i' ≠ ga g1 k i) ∧ ∀ k' i', X k' i' → cval g1 k' i' → ga g1 k i = ga g1 k' i' → k = k' ∧ i = i') : CL A g1 := by
  refine ⟨fun k i hv => ?_, fun k i k' i' hv hv' he => ?_⟩
  · by_cases hX : X k i
    · exact (h2 k i hX hv).1
    · obtain ⟨q1, q2⟩ := h1 k i hv hX
      rw [q2]
      exact hL.1 k i q1
  · by_cases hX : X k i
    · by_cases hX' : X k' i'
      · exact (h2 k i hX hv).2.2 k' i' hX' hv' he
      · obtain ⟨q1, q2⟩ := h1 k' i' hv' hX'
        exact absurd (q2.symm.trans he.symm) ((h2 k i hX hv).2.1 k' i' q1 hX')
    · obtain ⟨q1, q2⟩ := h1 k i hv hX
      by_cases hX' : X k' i'
      · exact absurd (q2.symm.trans he) ((h2 k' i' hX' hv').2.1 k i q1 hX)
      · obtain ⟨q3, q4⟩ := h1 k' i' hv' hX'
        exact hL.2 k i k' i' q1 q3 (q2.symm.trans (he.trans q4))

section EXT
variable {p : Program} {l : Launch} {e : Env} {R : Room} {s : State} {m : MethodId} {args : Array Value} {below : List Frame} {meth : Method} {c : Code} {H : Heap} {locs : List Loc} {cells slots : Nat} {Q : State → Prop}
variable {cc : ByteArray} {pc nL : Nat} {ls : Array Slot} {rest : List Value} {D : va_G} {cy : Nat → ClassId} {g : CWt} {S : St} {A : Nat → Prop} {Ts : List Cond} {own : String} {bytes : ByteArray} {maxL index e0 mi : Nat} {ret : Option FieldType}
def gx0 (g : CWt) (n q : Nat) (md : Int32) (ra cap : Nat) (f : Nat → Option Nat) : CWt := fun k => if k = 5 then (fun i => if i = n then (q, 0, 0, fun _ => none) else g 5 i) else if k = 12 then (fun i => if i = 0 then (ga g 12 0, md, n + 1, fun _ => none) else g 12 i) else if k = 13 then (fun i => if i = 0 then (ra, 0, cap, f) else g 13 i) else g k
theorem gx0_new {n q : Nat} {md : Int32} {ra cap : Nat} {f : Nat → Option Nat} : ga (gx0 g n q md ra cap f) 5 n = q := by simp [ga, gx0]
theorem gx0_old {n q : Nat} {md : Int32} {ra cap : Nat} {f : Nat → Option Nat} {i : Nat} (h : i ≠ n) : gx0 g n q md ra cap f 5 i = g 5 i := by simp [gx0, h]
theorem gx0_12 {n q : Nat} {md : Int32} {ra cap : Nat} {f : Nat → Option Nat} {i : Nat} (h : i ≠ 0) : gx0 g n q md ra cap f 12 i = g 12 i := by simp [gx0, h]
theorem gx0_13 {n q : Nat} {md : Int32} {ra cap : Nat} {f : Nat → Option Nat} {i : Nat} (h : i ≠ 0) : gx0 g n q md ra cap f 13 i = g 13 i := by simp [gx0, h]
theorem gx0_ga {n q : Nat} {md : Int32} {ra cap : Nat} {f : Nat → Option Nat} {k i : Nat} (h : ¬ ((k = 5 ∧ i = n) ∨ (k = 13 ∧ i = 0))) : ga (gx0 g n q md ra cap f) k i = ga g k i := by
  by_cases h1 : k = 5
  · subst h1; exact congrArg Prod.fst (gx0_old (fun q => h (Or.inl ⟨rfl, q⟩)))
  · by_cases h2 : k = 12
    · subst h2
      by_cases h3 : i = 0
      · subst h3; rfl
      · exact congrArg Prod.fst (gx0_12 h3)
    · by_cases h3 : k = 13
      · subst h3; exact congrArg Prod.fst (gx0_13 (fun q => h (Or.inr ⟨rfl, q⟩)))
      · exact congrArg Prod.fst (show gx0 g n q md ra cap f k i = g k i by simp [gx0, h1, h2, h3])
set_option maxHeartbeats 4000000 in
theorem fa_add0 (hC : CC p s m args c cc nL own D cy Ts) (hV : CV e0 g S) (hL : CL A g) (hI : CI A D cy g s S H locs) (hJ : JX A D cy e0 mi s s.heap) (hW : JO s) (hA : ∀ q, s.heap.size ≤ q → A q) {q n : Nat} (hn : gc g 12 0 = n) {fs : List Value} (hO : at1 D q (.inr (5, fs)) H) (hfr : ∀ k i, cval g k i → ga g k i ≠ q) (hAq : A q) {S' : St} (hSS : ∀ k i, cval g k i → ¬ (k = 12 ∧ i = 0) → ccell cy g S' k i = ccell cy g S k i) (hnew : ccell cy g S' 5 n = .inr (5, fs)) (hcnt : S' 7 0 = nI (n + 1)) (hcts : ncl S' = ncl S ∧ ndl S' = ndl S ∧ nsu S' = nsu S ∧ S' 67 = S 67)
    (cwR : CallW R s args own RJx4a65c index yJx4a65c_add_9ea2d bytes maxL ret wsJx4a65c_add_9ea2d ({ frames := 1, cells := 1, slots := 150, locals := 23 } : Room) 1 150 1) (cwA : CallW R s args own RJx4a65c index yJx4a65c_add_9ea2d bytes maxL ret wsJx4a65c_add_9ea2d ({ frames := 6, cells := 1, slots := 150, locals := 150 } : Room) 1 150 1) (cw0 : CallW R s args own RJx4a65c index yJx4a65c_add_9ea2d bytes maxL ret wsJx4a65c_add_9ea2d ({ frames := 4, cells := 1, slots := 150, locals := 126 } : Room) 1 150 1)
    (hsize : ls.size = nL) (hr : (rest.map fun v => v.category).sum ≤ 8) (hdg : decode cc pc = .ok (.invokevirtual index, 3)) (hf : cells + 1 ≤ R.cells ∧ slots + 150 ≤ R.slots)
    (kk : ∀ (md : Int32) (ra cap : Nat) (f : Nat → Option Nat) (H1 : Heap) (locs1 : List Loc), (∀ k i, cval g k i → cval (gx0 g n q md ra cap f) k i) → CL A (gx0 g n q md ra cap f) → CG e0 (gx0 g n q md ra cap f) → CT (gx0 g n q md ra cap f) S' → CI A D cy (gx0 g n q md ra cap f) s S' H1 locs1 → W p l e R s m args below meth c H1 locs1 (cells + 1) (slots + 150) Q (F0 m (pc + 3) ls (.int 1 :: rest))) : W p l e R s m args below meth c H locs cells slots Q (F0 m pc ls (.ref q :: .ref (ga g 12 0) :: rest)) := by
  have hn40 : n ≤ 40 := by rw [← hn]; exact (hV.c5 0 (by decide)).2
  have hs0 : S (cid 0) 0 = nI n := by rw [← hn]; exact (hV.c5 0 (by decide)).1
  have hlst : at1 D (ga g 12 0) (alC (gm g 12 0) (ga g 13 0) (nI n)) H := by
    have h := hI.1 12 0 (show 0 < 4 by decide)
    rw [show ccell cy g S 12 0 = alC (gm g 12 0) (ga g 13 0) (S (cid 0) 0) from rfl, hs0] at h
    exact h
  have hv13 : 0 < n → cval g 13 0 := fun h => ⟨by decide, by rw [hn]; exact h⟩
  have hG := hV.1
  have hT := hV.2.1
  refine ra_add hC hJ hI.2 hA (f := gf g 13 0) (cap := gc g 13 0) hlst (hL.1 12 0 (show 0 < 4 by decide)) (fun h => hG.1 0 (by decide) (hn.trans h)) (fun h => ?_) (by omega) (fun i y hi hy => ?_) (any_of hC.2 hO rfl (hW _ (List.mem_of_getElem? (i := 0) rfl))) (fun h => hfr 12 0 (show 0 < 4 by decide) h.symm) (fun h h2 => hfr 13 0 (hv13 h) h2.symm) cwR cwA cw0 hsize hr hdg hf (fun md ra cap f H1 locs1 h1 h2 h3 h4 h5 h6 h7 h8 h9 h10 hS1 => ?_)
  · obtain ⟨q1, ⟨q2, q3⟩, -⟩ := hG.2.1 0 (by decide) (by rw [hn]; exact h)
    exact ⟨hI.1 13 0 (hv13 h), by rw [← hn]; exact q1, q2, q3, fun q => absurd (hL.2 12 0 13 0 (show 0 < 4 by decide) (hv13 h) q).1 (by decide), hL.1 13 0 (hv13 h)⟩
  · have hp : 0 < n := Nat.lt_of_le_of_lt (Nat.zero_le _) hi
    obtain ⟨-, -, q4⟩ := hG.2.1 0 (by decide) (by rw [hn]; exact hp)
    have hy2 := q4 i (by rw [hn]; exact hi)
    obtain rfl : ga g 5 i = y := Option.some.inj (hy2.symm.trans hy)
    have hv : cval g 5 i := by show i < gc g 12 0; rw [hn]; exact hi
    exact ⟨any_of hC.2 (hI.1 5 i hv) rfl (hW _ (List.mem_of_getElem? (i := 0) rfl)), fun h => absurd (hL.2 5 i 12 0 hv (show 0 < 4 by decide) h).1 (by decide), fun h => absurd (hL.2 5 i 13 0 hv (hv13 hp) h).1 (by decide)⟩
  · have hlt : ∀ k i, cval g k i → ga g k i < H.size := fun k i hv => (hI.1 k i hv).lt
    have hra : ∀ k i, cval g k i → ¬ (k = 13 ∧ i = 0) → ga g k i ≠ ra := by
      intro k i hv hx h
      rcases h8 with ⟨hp, rfl⟩ | hge
      · exact hx (hL.2 k i 13 0 hv (hv13 hp) h)
      · exact absurd (hlt k i hv) (by rw [h]; exact Nat.not_lt.mpr hge)
    have hraq : ra ≠ q := by
      rcases h8 with ⟨hp, rfl⟩ | hge
      · exact hfr 13 0 (hv13 hp)
      · exact fun h => absurd hO.lt (by show ¬ q < H.size; rw [← h]; exact Nat.not_lt.mpr hge)
    have hkeep : ∀ k i, cval g k i → ¬ (k = 12 ∧ i = 0) → ¬ (k = 13 ∧ i = 0) → at1 D (ga g k i) (ccell cy g S' k i) H1 := by
      intro k i hv hx hy
      rw [hSS k i hv hx]
      exact (hI.1 k i hv).kept (h9 _ (hlt k i hv) (fun h => hx (hL.2 k i 12 0 hv (show 0 < 4 by decide) h)) (fun hp h => hy (hL.2 k i 13 0 hv (hv13 hp) h)))
    have hval : ∀ k i, cval g k i → cval (gx0 g n q md ra cap f) k i := by
      intro k i hv
      match k, hv with
      | 0, hv => exact hv
      | 1, hv => exact hv
      | 2, hv => exact hv
      | 3, hv => exact hv
      | 4, hv => exact hv
      | 5, hv => exact Nat.lt_succ_of_lt (hn ▸ (show i < gc g 12 0 from hv))
      | 6, hv => exact hv
      | 7, hv => exact hv
      | 8, hv => exact hv
      | 9, hv => exact hv
      | 10, hv => exact hv
      | 11, hv => exact hv
      | 12, hv => exact hv
      | 13, hv =>
        refine ⟨hv.1, ?_⟩
        by_cases hj : i = 0
        · subst hj; exact Nat.succ_pos _
        · rw [show gc (gx0 g n q md ra cap f) 12 i = gc g 12 i from congrArg (fun z => z.2.2.1) (gx0_12 hj)]; exact hv.2
      | 14, hv => exact hv
      | 15, hv => exact hv
      | 16, hv => exact hv
      | 17, hv => exact hv
      | 18, hv => exact hv
      | x + 19, hv => exact hv.elim
    have hval2 : ∀ k i, cval (gx0 g n q md ra cap f) k i → ¬ ((k = 5 ∧ i = n) ∨ (k = 13 ∧ i = 0)) → cval g k i := by
      intro k i hv hx
      match k, hv, hx with
      | 0, hv, _ => exact hv
      | 1, hv, _ => exact hv
      | 2, hv, _ => exact hv
      | 3, hv, _ => exact hv
      | 4, hv, _ => exact hv
      | 5, hv, hx =>
        have h1 : i < n + 1 := hv
        have h2 : i ≠ n := fun h => hx (Or.inl ⟨rfl, h⟩)
        show i < gc g 12 0
        rw [hn]; omega
      | 6, hv, _ => exact hv
      | 7, hv, _ => exact hv
      | 8, hv, _ => exact hv
      | 9, hv, _ => exact hv
      | 10, hv, _ => exact hv
      | 11, hv, _ => exact hv
      | 12, hv, _ => exact hv
      | 13, hv, hx =>
        have hj : i ≠ 0 := fun h => hx (Or.inr ⟨rfl, h⟩)
        have h2 := hv.2
        rw [show gc (gx0 g n q md ra cap f) 12 i = gc g 12 i from congrArg (fun z => z.2.2.1) (gx0_12 hj)] at h2
        exact ⟨hv.1, h2⟩
      | 14, hv, _ => exact hv
      | 15, hv, _ => exact hv
      | 16, hv, _ => exact hv
      | 17, hv, _ => exact hv
      | 18, hv, _ => exact hv
      | x + 19, hv, _ => exact hv.elim
    refine kk md ra cap f H1 locs1 hval ?_ ?_ ?_ ⟨?_, hS1⟩
    · refine CL_ext (fun k i => (k = 5 ∧ i = n) ∨ (k = 13 ∧ i = 0)) hL (fun k i hv hx => ⟨hval2 k i hv hx, gx0_ga hx⟩) ?_
      rintro k i (⟨rfl, rfl⟩ | ⟨rfl, rfl⟩) hv
      · rw [gx0_new]
        refine ⟨hAq, fun k' i' hv' _ => hfr k' i' hv', ?_⟩
        rintro k' i' (⟨rfl, rfl⟩ | ⟨rfl, rfl⟩) hv' he
        · exact ⟨rfl, rfl⟩
        · exact absurd (show q = ra from he) (Ne.symm hraq)
      · refine ⟨h7, fun k' i' hv' hx => hra k' i' hv' (fun h => hx (Or.inr h)), ?_⟩
        rintro k' i' (⟨rfl, rfl⟩ | ⟨rfl, rfl⟩) hv' he
        · rw [gx0_new] at he
          exact absurd (show ra = q from he) hraq
        · exact ⟨rfl, rfl⟩
    · refine ⟨fun j2 hj2 h0 => ?_, fun j2 hj2 hp => ?_, fun k hk => hG.2.2 k hk⟩
      · by_cases hj : j2 = 0
        · subst hj
          exact absurd (show n + 1 = 0 from h0) (by omega)
        · have e12 : gx0 g n q md ra cap f 12 j2 = g 12 j2 := gx0_12 hj
          have e13 : gx0 g n q md ra cap f 13 j2 = g 13 j2 := gx0_13 hj
          have h0' : gc g 12 j2 = 0 := (congrArg (fun z => z.2.2.1) e12).symm.trans h0
          exact (congrArg Prod.fst e13).trans (hG.1 j2 hj2 h0')
      · by_cases hj : j2 = 0
        · subst hj
          refine ⟨h3.1, h3.2, fun i hi => ?_⟩
          have hi : i < n + 1 := hi
          by_cases hin : i = n
          · subst hin
            show f i = some (ga _ 5 i)
            rw [h5, gx0_new]
          · show f i = some (ga _ 5 i)
            rw [h4 i (by omega), gx0_ga (by rintro (⟨-, h⟩ | ⟨h, -⟩) <;> omega)]
            exact (hG.2.1 0 (by decide) (by omega)).2.2 i (by omega)
        · have e12 : gx0 g n q md ra cap f 12 j2 = g 12 j2 := gx0_12 hj
          have e13 : gx0 g n q md ra cap f 13 j2 = g 13 j2 := gx0_13 hj
          have c12 : gc (gx0 g n q md ra cap f) 12 j2 = gc g 12 j2 := congrArg (fun z => z.2.2.1) e12
          have c13 : gc (gx0 g n q md ra cap f) 13 j2 = gc g 13 j2 := congrArg (fun z => z.2.2.1) e13
          have f13 : gf (gx0 g n q md ra cap f) 13 j2 = gf g 13 j2 := congrArg (fun z => z.2.2.2) e13
          rw [c12] at hp ⊢
          rw [c13, f13]
          obtain ⟨q1, q2, q3⟩ := hG.2.1 j2 hj2 hp
          refine ⟨q1, q2, fun i hi => ?_⟩
          rw [q3 i hi, gx0_ga (by rintro (⟨h, -⟩ | ⟨h, -⟩) <;> omega)]
    · obtain ⟨e1, e2, e3, e67⟩ := hcts
      obtain ⟨⟨t0, t1, t2, t3⟩, t9⟩ := hT
      have ej : nsc S' = n + 1 := by show ix (S' 7 0) = n + 1; rw [hcnt]; exact nI_clamp (by omega)
      refine ⟨⟨ej.symm, e1 ▸ t1, e2 ▸ t2, e3 ▸ t3⟩, fun k hk => ?_⟩
      rw [e3] at hk
      show gc g 9 k = ix (S' 67 k)
      rw [e67]
      exact t9 k hk
    · intro k i hv
      match k, hv with
      | 0, hv => exact hkeep 0 i (hval2 0 i hv (by omega)) (by omega) (by omega)
      | 1, hv => exact hkeep 1 i (hval2 1 i hv (by omega)) (by omega) (by omega)
      | 2, hv => exact hkeep 2 i (hval2 2 i hv (by omega)) (by omega) (by omega)
      | 3, hv => exact hkeep 3 i (hval2 3 i hv (by omega)) (by omega) (by omega)
      | 4, hv => exact hkeep 4 i (hval2 4 i hv (by omega)) (by omega) (by omega)
      | 5, hv =>
        by_cases hin : i = n
        · subst hin
          rw [gx0_new, show ccell cy (gx0 g i q md ra cap f) S' 5 i = ccell cy g S' 5 i from rfl, hnew]
          exact hO.kept (h9 q hO.lt (fun h => hfr 12 0 (show 0 < 4 by decide) h.symm) (fun hp h => hfr 13 0 (hv13 hp) h.symm))
        · have h := hkeep 5 i (hval2 5 i hv (by omega)) (by omega) (by omega)
          rw [show ga (gx0 g n q md ra cap f) 5 i = ga g 5 i from congrArg Prod.fst (gx0_old hin)]
          exact h
      | 6, hv => exact hkeep 6 i (hval2 6 i hv (by omega)) (by omega) (by omega)
      | 7, hv => exact hkeep 7 i (hval2 7 i hv (by omega)) (by omega) (by omega)
      | 8, hv => exact hkeep 8 i (hval2 8 i hv (by omega)) (by omega) (by omega)
      | 9, hv => exact hkeep 9 i (hval2 9 i hv (by omega)) (by omega) (by omega)
      | 10, hv => exact hkeep 10 i (hval2 10 i hv (by omega)) (by omega) (by omega)
      | 11, hv => exact hkeep 11 i (hval2 11 i hv (by omega)) (by omega) (by omega)
      | 12, hv =>
        by_cases hj : i = 0
        · subst hj
          rw [show ccell cy (gx0 g n q md ra cap f) S' 12 0 = alC md ra (S' 7 0) from rfl, hcnt]
          exact h1
        · have h := hkeep 12 i (hval2 12 i hv (by omega)) (by omega) (by omega)
          have e : ccell cy (gx0 g n q md ra cap f) S' 12 i = ccell cy g S' 12 i := by
            show alC (gx0 g n q md ra cap f 12 i).2.1 (gx0 g n q md ra cap f 13 i).1 _ = alC (g 12 i).2.1 (g 13 i).1 _
            rw [gx0_12 hj, gx0_13 hj]
          rw [e, show ga (gx0 g n q md ra cap f) 12 i = ga g 12 i from congrArg Prod.fst (gx0_12 hj)]
          exact h
      | 13, hv =>
        by_cases hj : i = 0
        · subst hj
          exact h2
        · have h := hkeep 13 i (hval2 13 i hv (by omega)) (by omega) (by omega)
          have e : ccell cy (gx0 g n q md ra cap f) S' 13 i = ccell cy g S' 13 i := by
            show arO cy (gx0 g n q md ra cap f 13 i).2.2.1 (gx0 g n q md ra cap f 13 i).2.2.2 = arO cy (g 13 i).2.2.1 (g 13 i).2.2.2
            rw [gx0_13 hj]
          rw [e, show ga (gx0 g n q md ra cap f) 13 i = ga g 13 i from congrArg Prod.fst (gx0_13 hj)]
          exact h
      | 14, hv => exact hkeep 14 i (hval2 14 i hv (by omega)) (by omega) (by omega)
      | 15, hv => exact hkeep 15 i (hval2 15 i hv (by omega)) (by omega) (by omega)
      | 16, hv => exact hkeep 16 i (hval2 16 i hv (by omega)) (by omega) (by omega)
      | 17, hv => exact hkeep 17 i (hval2 17 i hv (by omega)) (by omega) (by omega)
      | 18, hv => exact hkeep 18 i (hval2 18 i hv (by omega)) (by omega) (by omega)
      | x + 19, hv => exact hv.elim

def gx1 (g : CWt) (n q : Nat) (md : Int32) (ra cap : Nat) (f : Nat → Option Nat) : CWt := fun k => if k = 6 then (fun i => if i = n then (q, 0, 0, fun _ => none) else g 6 i) else if k = 12 then (fun i => if i = 1 then (ga g 12 1, md, n + 1, fun _ => none) else g 12 i) else if k = 13 then (fun i => if i = 1 then (ra, 0, cap, f) else g 13 i) else g k
theorem gx1_new {n q : Nat} {md : Int32} {ra cap : Nat} {f : Nat → Option Nat} : ga (gx1 g n q md ra cap f) 6 n = q := by simp [ga, gx1]
theorem gx1_old {n q : Nat} {md : Int32} {ra cap : Nat} {f : Nat → Option Nat} {i : Nat} (h : i ≠ n) : gx1 g n q md ra cap f 6 i = g 6 i := by simp [gx1, h]
theorem gx1_12 {n q : Nat} {md : Int32} {ra cap : Nat} {f : Nat → Option Nat} {i : Nat} (h : i ≠ 1) : gx1 g n q md ra cap f 12 i = g 12 i := by simp [gx1, h]
theorem gx1_13 {n q : Nat} {md : Int32} {ra cap : Nat} {f : Nat → Option Nat} {i : Nat} (h : i ≠ 1) : gx1 g n q md ra cap f 13 i = g 13 i := by simp [gx1, h]
theorem gx1_ga {n q : Nat} {md : Int32} {ra cap : Nat} {f : Nat → Option Nat} {k i : Nat} (h : ¬ ((k = 6 ∧ i = n) ∨ (k = 13 ∧ i = 1))) : ga (gx1 g n q md ra cap f) k i = ga g k i := by
  by_cases h1 : k = 6
  · subst h1; exact congrArg Prod.fst (gx1_old (fun q => h (Or.inl ⟨rfl, q⟩)))
  · by_cases h2 : k = 12
    · subst h2
      by_cases h3 : i = 1
      · subst h3; rfl
      · exact congrArg Prod.fst (gx1_12 h3)
    · by_cases h3 : k = 13
      · subst h3; exact congrArg Prod.fst (gx1_13 (fun q => h (Or.inr ⟨rfl, q⟩)))
      · exact congrArg Prod.fst (show gx1 g n q md ra cap f k i = g k i by simp [gx1, h1, h2, h3])
set_option maxHeartbeats 4000000 in
theorem fa_add1 (hC : CC p s m args c cc nL own D cy Ts) (hV : CV e0 g S) (hL : CL A g) (hI : CI A D cy g s S H locs) (hJ : JX A D cy e0 mi s s.heap) (hW : JO s) (hA : ∀ q, s.heap.size ≤ q → A q) {q n : Nat} (hn : gc g 12 1 = n) {fs : List Value} (hO : at1 D q (.inr (1, fs)) H) (hfr : ∀ k i, cval g k i → ga g k i ≠ q) (hAq : A q) {S' : St} (hSS : ∀ k i, cval g k i → ¬ (k = 12 ∧ i = 1) → ccell cy g S' k i = ccell cy g S k i) (hnew : ccell cy g S' 6 n = .inr (1, fs)) (hcnt : S' 15 0 = nI (n + 1)) (hcts : nsc S' = nsc S ∧ ndl S' = ndl S ∧ nsu S' = nsu S ∧ S' 67 = S 67)
    (cwR : CallW R s args own RJx4a65c index yJx4a65c_add_9ea2d bytes maxL ret wsJx4a65c_add_9ea2d ({ frames := 1, cells := 1, slots := 150, locals := 23 } : Room) 1 150 1) (cwA : CallW R s args own RJx4a65c index yJx4a65c_add_9ea2d bytes maxL ret wsJx4a65c_add_9ea2d ({ frames := 6, cells := 1, slots := 150, locals := 150 } : Room) 1 150 1) (cw0 : CallW R s args own RJx4a65c index yJx4a65c_add_9ea2d bytes maxL ret wsJx4a65c_add_9ea2d ({ frames := 4, cells := 1, slots := 150, locals := 126 } : Room) 1 150 1)
    (hsize : ls.size = nL) (hr : (rest.map fun v => v.category).sum ≤ 8) (hdg : decode cc pc = .ok (.invokevirtual index, 3)) (hf : cells + 1 ≤ R.cells ∧ slots + 150 ≤ R.slots)
    (kk : ∀ (md : Int32) (ra cap : Nat) (f : Nat → Option Nat) (H1 : Heap) (locs1 : List Loc), (∀ k i, cval g k i → cval (gx1 g n q md ra cap f) k i) → CL A (gx1 g n q md ra cap f) → CG e0 (gx1 g n q md ra cap f) → CT (gx1 g n q md ra cap f) S' → CI A D cy (gx1 g n q md ra cap f) s S' H1 locs1 → W p l e R s m args below meth c H1 locs1 (cells + 1) (slots + 150) Q (F0 m (pc + 3) ls (.int 1 :: rest))) : W p l e R s m args below meth c H locs cells slots Q (F0 m pc ls (.ref q :: .ref (ga g 12 1) :: rest)) := by
  have hn40 : n ≤ 40 := by rw [← hn]; exact (hV.c5 1 (by decide)).2
  have hs0 : S (cid 1) 0 = nI n := by rw [← hn]; exact (hV.c5 1 (by decide)).1
  have hlst : at1 D (ga g 12 1) (alC (gm g 12 1) (ga g 13 1) (nI n)) H := by
    have h := hI.1 12 1 (show 1 < 4 by decide)
    rw [show ccell cy g S 12 1 = alC (gm g 12 1) (ga g 13 1) (S (cid 1) 0) from rfl, hs0] at h
    exact h
  have hv13 : 0 < n → cval g 13 1 := fun h => ⟨by decide, by rw [hn]; exact h⟩
  have hG := hV.1
  have hT := hV.2.1
  refine ra_add hC hJ hI.2 hA (f := gf g 13 1) (cap := gc g 13 1) hlst (hL.1 12 1 (show 1 < 4 by decide)) (fun h => hG.1 1 (by decide) (hn.trans h)) (fun h => ?_) (by omega) (fun i y hi hy => ?_) (any_of hC.2 hO rfl (hW _ (List.mem_of_getElem? (i := 1) rfl))) (fun h => hfr 12 1 (show 1 < 4 by decide) h.symm) (fun h h2 => hfr 13 1 (hv13 h) h2.symm) cwR cwA cw0 hsize hr hdg hf (fun md ra cap f H1 locs1 h1 h2 h3 h4 h5 h6 h7 h8 h9 h10 hS1 => ?_)
  · obtain ⟨q1, ⟨q2, q3⟩, -⟩ := hG.2.1 1 (by decide) (by rw [hn]; exact h)
    exact ⟨hI.1 13 1 (hv13 h), by rw [← hn]; exact q1, q2, q3, fun q => absurd (hL.2 12 1 13 1 (show 1 < 4 by decide) (hv13 h) q).1 (by decide), hL.1 13 1 (hv13 h)⟩
  · have hp : 0 < n := Nat.lt_of_le_of_lt (Nat.zero_le _) hi
    obtain ⟨-, -, q4⟩ := hG.2.1 1 (by decide) (by rw [hn]; exact hp)
    have hy2 := q4 i (by rw [hn]; exact hi)
    obtain rfl : ga g 6 i = y := Option.some.inj (hy2.symm.trans hy)
    have hv : cval g 6 i := by show i < gc g 12 1; rw [hn]; exact hi
    exact ⟨any_of hC.2 (hI.1 6 i hv) rfl (hW _ (List.mem_of_getElem? (i := 1) rfl)), fun h => absurd (hL.2 6 i 12 1 hv (show 1 < 4 by decide) h).1 (by decide), fun h => absurd (hL.2 6 i 13 1 hv (hv13 hp) h).1 (by decide)⟩
  · have hlt : ∀ k i, cval g k i → ga g k i < H.size := fun k i hv => (hI.1 k i hv).lt
    have hra : ∀ k i, cval g k i → ¬ (k = 13 ∧ i = 1) → ga g k i ≠ ra := by
      intro k i hv hx h
      rcases h8 with ⟨hp, rfl⟩ | hge
      · exact hx (hL.2 k i 13 1 hv (hv13 hp) h)
      · exact absurd (hlt k i hv) (by rw [h]; exact Nat.not_lt.mpr hge)
    have hraq : ra ≠ q := by
      rcases h8 with ⟨hp, rfl⟩ | hge
      · exact hfr 13 1 (hv13 hp)
      · exact fun h => absurd hO.lt (by show ¬ q < H.size; rw [← h]; exact Nat.not_lt.mpr hge)
    have hkeep : ∀ k i, cval g k i → ¬ (k = 12 ∧ i = 1) → ¬ (k = 13 ∧ i = 1) → at1 D (ga g k i) (ccell cy g S' k i) H1 := by
      intro k i hv hx hy
      rw [hSS k i hv hx]
      exact (hI.1 k i hv).kept (h9 _ (hlt k i hv) (fun h => hx (hL.2 k i 12 1 hv (show 1 < 4 by decide) h)) (fun hp h => hy (hL.2 k i 13 1 hv (hv13 hp) h)))
    have hval : ∀ k i, cval g k i → cval (gx1 g n q md ra cap f) k i := by
      intro k i hv
      match k, hv with
      | 0, hv => exact hv
      | 1, hv => exact hv
      | 2, hv => exact hv
      | 3, hv => exact hv
      | 4, hv => exact hv
      | 5, hv => exact hv
      | 6, hv => exact Nat.lt_succ_of_lt (hn ▸ (show i < gc g 12 1 from hv))
      | 7, hv => exact hv
      | 8, hv => exact hv
      | 9, hv => exact hv
      | 10, hv => exact hv
      | 11, hv => exact hv
      | 12, hv => exact hv
      | 13, hv =>
        refine ⟨hv.1, ?_⟩
        by_cases hj : i = 1
        · subst hj; exact Nat.succ_pos _
        · rw [show gc (gx1 g n q md ra cap f) 12 i = gc g 12 i from congrArg (fun z => z.2.2.1) (gx1_12 hj)]; exact hv.2
      | 14, hv => exact hv
      | 15, hv => exact hv
      | 16, hv => exact hv
      | 17, hv => exact hv
      | 18, hv => exact hv
      | x + 19, hv => exact hv.elim
    have hval2 : ∀ k i, cval (gx1 g n q md ra cap f) k i → ¬ ((k = 6 ∧ i = n) ∨ (k = 13 ∧ i = 1)) → cval g k i := by
      intro k i hv hx
      match k, hv, hx with
      | 0, hv, _ => exact hv
      | 1, hv, _ => exact hv
      | 2, hv, _ => exact hv
      | 3, hv, _ => exact hv
      | 4, hv, _ => exact hv
      | 5, hv, _ => exact hv
      | 6, hv, hx =>
        have h1 : i < n + 1 := hv
        have h2 : i ≠ n := fun h => hx (Or.inl ⟨rfl, h⟩)
        show i < gc g 12 1
        rw [hn]; omega
      | 7, hv, _ => exact hv
      | 8, hv, _ => exact hv
      | 9, hv, _ => exact hv
      | 10, hv, _ => exact hv
      | 11, hv, _ => exact hv
      | 12, hv, _ => exact hv
      | 13, hv, hx =>
        have hj : i ≠ 1 := fun h => hx (Or.inr ⟨rfl, h⟩)
        have h2 := hv.2
        rw [show gc (gx1 g n q md ra cap f) 12 i = gc g 12 i from congrArg (fun z => z.2.2.1) (gx1_12 hj)] at h2
        exact ⟨hv.1, h2⟩
      | 14, hv, _ => exact hv
      | 15, hv, _ => exact hv
      | 16, hv, _ => exact hv
      | 17, hv, _ => exact hv
      | 18, hv, _ => exact hv
      | x + 19, hv, _ => exact hv.elim
    refine kk md ra cap f H1 locs1 hval ?_ ?_ ?_ ⟨?_, hS1⟩
    · refine CL_ext (fun k i => (k = 6 ∧ i = n) ∨ (k = 13 ∧ i = 1)) hL (fun k i hv hx => ⟨hval2 k i hv hx, gx1_ga hx⟩) ?_
      rintro k i (⟨rfl, rfl⟩ | ⟨rfl, rfl⟩) hv
      · rw [gx1_new]
        refine ⟨hAq, fun k' i' hv' _ => hfr k' i' hv', ?_⟩
        rintro k' i' (⟨rfl, rfl⟩ | ⟨rfl, rfl⟩) hv' he
        · exact ⟨rfl, rfl⟩
        · exact absurd (show q = ra from he) (Ne.symm hraq)
      · refine ⟨h7, fun k' i' hv' hx => hra k' i' hv' (fun h => hx (Or.inr h)), ?_⟩
        rintro k' i' (⟨rfl, rfl⟩ | ⟨rfl, rfl⟩) hv' he
        · rw [gx1_new] at he
          exact absurd (show ra = q from he) hraq
        · exact ⟨rfl, rfl⟩
    · refine ⟨fun j2 hj2 h0 => ?_, fun j2 hj2 hp => ?_, fun k hk => hG.2.2 k hk⟩
      · by_cases hj : j2 = 1
        · subst hj
          exact absurd (show n + 1 = 0 from h0) (by omega)
        · have e12 : gx1 g n q md ra cap f 12 j2 = g 12 j2 := gx1_12 hj
          have e13 : gx1 g n q md ra cap f 13 j2 = g 13 j2 := gx1_13 hj
          have h0' : gc g 12 j2 = 0 := (congrArg (fun z => z.2.2.1) e12).symm.trans h0
          exact (congrArg Prod.fst e13).trans (hG.1 j2 hj2 h0')
      · by_cases hj : j2 = 1
        · subst hj
          refine ⟨h3.1, h3.2, fun i hi => ?_⟩
          have hi : i < n + 1 := hi
          by_cases hin : i = n
          · subst hin
            show f i = some (ga _ 6 i)
            rw [h5, gx1_new]
          · show f i = some (ga _ 6 i)
            rw [h4 i (by omega), gx1_ga (by rintro (⟨-, h⟩ | ⟨h, -⟩) <;> omega)]
            exact (hG.2.1 1 (by decide) (by omega)).2.2 i (by omega)
        · have e12 : gx1 g n q md ra cap f 12 j2 = g 12 j2 := gx1_12 hj
          have e13 : gx1 g n q md ra cap f 13 j2 = g 13 j2 := gx1_13 hj
          have c12 : gc (gx1 g n q md ra cap f) 12 j2 = gc g 12 j2 := congrArg (fun z => z.2.2.1) e12
          have c13 : gc (gx1 g n q md ra cap f) 13 j2 = gc g 13 j2 := congrArg (fun z => z.2.2.1) e13
          have f13 : gf (gx1 g n q md ra cap f) 13 j2 = gf g 13 j2 := congrArg (fun z => z.2.2.2) e13
          rw [c12] at hp ⊢
          rw [c13, f13]
          obtain ⟨q1, q2, q3⟩ := hG.2.1 j2 hj2 hp
          refine ⟨q1, q2, fun i hi => ?_⟩
          rw [q3 i hi, gx1_ga (by rintro (⟨h, -⟩ | ⟨h, -⟩) <;> omega)]
    · obtain ⟨e0, e2, e3, e67⟩ := hcts
      obtain ⟨⟨t0, t1, t2, t3⟩, t9⟩ := hT
      have ej : ncl S' = n + 1 := by show ix (S' 15 0) = n + 1; rw [hcnt]; exact nI_clamp (by omega)
      refine ⟨⟨e0 ▸ t0, ej.symm, e2 ▸ t2, e3 ▸ t3⟩, fun k hk => ?_⟩
      rw [e3] at hk
      show gc g 9 k = ix (S' 67 k)
      rw [e67]
      exact t9 k hk
    · intro k i hv
      match k, hv with
      | 0, hv => exact hkeep 0 i (hval2 0 i hv (by omega)) (by omega) (by omega)
      | 1, hv => exact hkeep 1 i (hval2 1 i hv (by omega)) (by omega) (by omega)
      | 2, hv => exact hkeep 2 i (hval2 2 i hv (by omega)) (by omega) (by omega)
      | 3, hv => exact hkeep 3 i (hval2 3 i hv (by omega)) (by omega) (by omega)
      | 4, hv => exact hkeep 4 i (hval2 4 i hv (by omega)) (by omega) (by omega)
      | 5, hv => exact hkeep 5 i (hval2 5 i hv (by omega)) (by omega) (by omega)
      | 6, hv =>
        by_cases hin : i = n
        · subst hin
          rw [gx1_new, show ccell cy (gx1 g i q md ra cap f) S' 6 i = ccell cy g S' 6 i from rfl, hnew]
          exact hO.kept (h9 q hO.lt (fun h => hfr 12 1 (show 1 < 4 by decide) h.symm) (fun hp h => hfr 13 1 (hv13 hp) h.symm))
        · have h := hkeep 6 i (hval2 6 i hv (by omega)) (by omega) (by omega)
          rw [show ga (gx1 g n q md ra cap f) 6 i = ga g 6 i from congrArg Prod.fst (gx1_old hin)]
          exact h
      | 7, hv => exact hkeep 7 i (hval2 7 i hv (by omega)) (by omega) (by omega)
      | 8, hv => exact hkeep 8 i (hval2 8 i hv (by omega)) (by omega) (by omega)
      | 9, hv => exact hkeep 9 i (hval2 9 i hv (by omega)) (by omega) (by omega)
      | 10, hv => exact hkeep 10 i (hval2 10 i hv (by omega)) (by omega) (by omega)
      | 11, hv => exact hkeep 11 i (hval2 11 i hv (by omega)) (by omega) (by omega)
      | 12, hv =>
        by_cases hj : i = 1
        · subst hj
          rw [show ccell cy (gx1 g n q md ra cap f) S' 12 1 = alC md ra (S' 15 0) from rfl, hcnt]
          exact h1
        · have h := hkeep 12 i (hval2 12 i hv (by omega)) (by omega) (by omega)
          have e : ccell cy (gx1 g n q md ra cap f) S' 12 i = ccell cy g S' 12 i := by
            show alC (gx1 g n q md ra cap f 12 i).2.1 (gx1 g n q md ra cap f 13 i).1 _ = alC (g 12 i).2.1 (g 13 i).1 _
            rw [gx1_12 hj, gx1_13 hj]
          rw [e, show ga (gx1 g n q md ra cap f) 12 i = ga g 12 i from congrArg Prod.fst (gx1_12 hj)]
          exact h
      | 13, hv =>
        by_cases hj : i = 1
        · subst hj
          exact h2
        · have h := hkeep 13 i (hval2 13 i hv (by omega)) (by omega) (by omega)
          have e : ccell cy (gx1 g n q md ra cap f) S' 13 i = ccell cy g S' 13 i := by
            show arO cy (gx1 g n q md ra cap f 13 i).2.2.1 (gx1 g n q md ra cap f 13 i).2.2.2 = arO cy (g 13 i).2.2.1 (g 13 i).2.2.2
            rw [gx1_13 hj]
          rw [e, show ga (gx1 g n q md ra cap f) 13 i = ga g 13 i from congrArg Prod.fst (gx1_13 hj)]
          exact h
      | 14, hv => exact hkeep 14 i (hval2 14 i hv (by omega)) (by omega) (by omega)
      | 15, hv => exact hkeep 15 i (hval2 15 i hv (by omega)) (by omega) (by omega)
      | 16, hv => exact hkeep 16 i (hval2 16 i hv (by omega)) (by omega) (by omega)
      | 17, hv => exact hkeep 17 i (hval2 17 i hv (by omega)) (by omega) (by omega)
      | 18, hv => exact hkeep 18 i (hval2 18 i hv (by omega)) (by omega) (by omega)
      | x + 19, hv => exact hv.elim

def gx2 (g : CWt) (n q : Nat) (md : Int32) (ra cap : Nat) (f : Nat → Option Nat) : CWt := fun k => if k = 7 then (fun i => if i = n then (q, 0, 0, fun _ => none) else g 7 i) else if k = 12 then (fun i => if i = 2 then (ga g 12 2, md, n + 1, fun _ => none) else g 12 i) else if k = 13 then (fun i => if i = 2 then (ra, 0, cap, f) else g 13 i) else g k
theorem gx2_new {n q : Nat} {md : Int32} {ra cap : Nat} {f : Nat → Option Nat} : ga (gx2 g n q md ra cap f) 7 n = q := by simp [ga, gx2]
theorem gx2_old {n q : Nat} {md : Int32} {ra cap : Nat} {f : Nat → Option Nat} {i : Nat} (h : i ≠ n) : gx2 g n q md ra cap f 7 i = g 7 i := by simp [gx2, h]
theorem gx2_12 {n q : Nat} {md : Int32} {ra cap : Nat} {f : Nat → Option Nat} {i : Nat} (h : i ≠ 2) : gx2 g n q md ra cap f 12 i = g 12 i := by simp [gx2, h]
theorem gx2_13 {n q : Nat} {md : Int32} {ra cap : Nat} {f : Nat → Option Nat} {i : Nat} (h : i ≠ 2) : gx2 g n q md ra cap f 13 i = g 13 i := by simp [gx2, h]
theorem gx2_ga {n q : Nat} {md : Int32} {ra cap : Nat} {f : Nat → Option Nat} {k i : Nat} (h : ¬ ((k = 7 ∧ i = n) ∨ (k = 13 ∧ i = 2))) : ga (gx2 g n q md ra cap f) k i = ga g k i := by
  by_cases h1 : k = 7
  · subst h1; exact congrArg Prod.fst (gx2_old (fun q => h (Or.inl ⟨rfl, q⟩)))
  · by_cases h2 : k = 12
    · subst h2
      by_cases h3 : i = 2
      · subst h3; rfl
      · exact congrArg Prod.fst (gx2_12 h3)
    · by_cases h3 : k = 13
      · subst h3; exact congrArg Prod.fst (gx2_13 (fun q => h (Or.inr ⟨rfl, q⟩)))
      · exact congrArg Prod.fst (show gx2 g n q md ra cap f k i = g k i by simp [gx2, h1, h2, h3])
set_option maxHeartbeats 4000000 in
theorem fa_add2 (hC : CC p s m args c cc nL own D cy Ts) (hV : CV e0 g S) (hL : CL A g) (hI : CI A D cy g s S H locs) (hJ : JX A D cy e0 mi s s.heap) (hW : JO s) (hA : ∀ q, s.heap.size ≤ q → A q) {q n : Nat} (hn : gc g 12 2 = n) {fs : List Value} (hO : at1 D q (.inr (2, fs)) H) (hfr : ∀ k i, cval g k i → ga g k i ≠ q) (hAq : A q) {S' : St} (hSS : ∀ k i, cval g k i → ¬ (k = 12 ∧ i = 2) → ccell cy g S' k i = ccell cy g S k i) (hnew : ccell cy g S' 7 n = .inr (2, fs)) (hcnt : S' 23 0 = nI (n + 1)) (hcts : nsc S' = nsc S ∧ ncl S' = ncl S ∧ nsu S' = nsu S ∧ S' 67 = S 67)
    (cwR : CallW R s args own RJx4a65c index yJx4a65c_add_9ea2d bytes maxL ret wsJx4a65c_add_9ea2d ({ frames := 1, cells := 1, slots := 150, locals := 23 } : Room) 1 150 1) (cwA : CallW R s args own RJx4a65c index yJx4a65c_add_9ea2d bytes maxL ret wsJx4a65c_add_9ea2d ({ frames := 6, cells := 1, slots := 150, locals := 150 } : Room) 1 150 1) (cw0 : CallW R s args own RJx4a65c index yJx4a65c_add_9ea2d bytes maxL ret wsJx4a65c_add_9ea2d ({ frames := 4, cells := 1, slots := 150, locals := 126 } : Room) 1 150 1)
    (hsize : ls.size = nL) (hr : (rest.map fun v => v.category).sum ≤ 8) (hdg : decode cc pc = .ok (.invokevirtual index, 3)) (hf : cells + 1 ≤ R.cells ∧ slots + 150 ≤ R.slots)
    (kk : ∀ (md : Int32) (ra cap : Nat) (f : Nat → Option Nat) (H1 : Heap) (locs1 : List Loc), (∀ k i, cval g k i → cval (gx2 g n q md ra cap f) k i) → CL A (gx2 g n q md ra cap f) → CG e0 (gx2 g n q md ra cap f) → CT (gx2 g n q md ra cap f) S' → CI A D cy (gx2 g n q md ra cap f) s S' H1 locs1 → W p l e R s m args below meth c H1 locs1 (cells + 1) (slots + 150) Q (F0 m (pc + 3) ls (.int 1 :: rest))) : W p l e R s m args below meth c H locs cells slots Q (F0 m pc ls (.ref q :: .ref (ga g 12 2) :: rest)) := by
  have hn40 : n ≤ 40 := by rw [← hn]; exact (hV.c5 2 (by decide)).2
  have hs0 : S (cid 2) 0 = nI n := by rw [← hn]; exact (hV.c5 2 (by decide)).1
  have hlst : at1 D (ga g 12 2) (alC (gm g 12 2) (ga g 13 2) (nI n)) H := by
    have h := hI.1 12 2 (show 2 < 4 by decide)
    rw [show ccell cy g S 12 2 = alC (gm g 12 2) (ga g 13 2) (S (cid 2) 0) from rfl, hs0] at h
    exact h
  have hv13 : 0 < n → cval g 13 2 := fun h => ⟨by decide, by rw [hn]; exact h⟩
  have hG := hV.1
  have hT := hV.2.1
  refine ra_add hC hJ hI.2 hA (f := gf g 13 2) (cap := gc g 13 2) hlst (hL.1 12 2 (show 2 < 4 by decide)) (fun h => hG.1 2 (by decide) (hn.trans h)) (fun h => ?_) (by omega) (fun i y hi hy => ?_) (any_of hC.2 hO rfl (hW _ (List.mem_of_getElem? (i := 2) rfl))) (fun h => hfr 12 2 (show 2 < 4 by decide) h.symm) (fun h h2 => hfr 13 2 (hv13 h) h2.symm) cwR cwA cw0 hsize hr hdg hf (fun md ra cap f H1 locs1 h1 h2 h3 h4 h5 h6 h7 h8 h9 h10 hS1 => ?_)
  · obtain ⟨q1, ⟨q2, q3⟩, -⟩ := hG.2.1 2 (by decide) (by rw [hn]; exact h)
    exact ⟨hI.1 13 2 (hv13 h), by rw [← hn]; exact q1, q2, q3, fun q => absurd (hL.2 12 2 13 2 (show 2 < 4 by decide) (hv13 h) q).1 (by decide), hL.1 13 2 (hv13 h)⟩
  · have hp : 0 < n := Nat.lt_of_le_of_lt (Nat.zero_le _) hi
    obtain ⟨-, -, q4⟩ := hG.2.1 2 (by decide) (by rw [hn]; exact hp)
    have hy2 := q4 i (by rw [hn]; exact hi)
    obtain rfl : ga g 7 i = y := Option.some.inj (hy2.symm.trans hy)
    have hv : cval g 7 i := by show i < gc g 12 2; rw [hn]; exact hi
    exact ⟨any_of hC.2 (hI.1 7 i hv) rfl (hW _ (List.mem_of_getElem? (i := 2) rfl)), fun h => absurd (hL.2 7 i 12 2 hv (show 2 < 4 by decide) h).1 (by decide), fun h => absurd (hL.2 7 i 13 2 hv (hv13 hp) h).1 (by decide)⟩
  · have hlt : ∀ k i, cval g k i → ga g k i < H.size := fun k i hv => (hI.1 k i hv).lt
    have hra : ∀ k i, cval g k i → ¬ (k = 13 ∧ i = 2) → ga g k i ≠ ra := by
      intro k i hv hx h
      rcases h8 with ⟨hp, rfl⟩ | hge
      · exact hx (hL.2 k i 13 2 hv (hv13 hp) h)
      · exact absurd (hlt k i hv) (by rw [h]; exact Nat.not_lt.mpr hge)
    have hraq : ra ≠ q := by
      rcases h8 with ⟨hp, rfl⟩ | hge
      · exact hfr 13 2 (hv13 hp)
      · exact fun h => absurd hO.lt (by show ¬ q < H.size; rw [← h]; exact Nat.not_lt.mpr hge)
    have hkeep : ∀ k i, cval g k i → ¬ (k = 12 ∧ i = 2) → ¬ (k = 13 ∧ i = 2) → at1 D (ga g k i) (ccell cy g S' k i) H1 := by
      intro k i hv hx hy
      rw [hSS k i hv hx]
      exact (hI.1 k i hv).kept (h9 _ (hlt k i hv) (fun h => hx (hL.2 k i 12 2 hv (show 2 < 4 by decide) h)) (fun hp h => hy (hL.2 k i 13 2 hv (hv13 hp) h)))
    have hval : ∀ k i, cval g k i → cval (gx2 g n q md ra cap f) k i := by
      intro k i hv
      match k, hv with
      | 0, hv => exact hv
      | 1, hv => exact hv
      | 2, hv => exact hv
      | 3, hv => exact hv
      | 4, hv => exact hv
      | 5, hv => exact hv
      | 6, hv => exact hv
      | 7, hv => exact Nat.lt_succ_of_lt (hn ▸ (show i < gc g 12 2 from hv))
      | 8, hv => exact hv
      | 9, hv => exact hv
      | 10, hv => exact hv
      | 11, hv => exact hv
      | 12, hv => exact hv
      | 13, hv =>
        refine ⟨hv.1, ?_⟩
        by_cases hj : i = 2
        · subst hj; exact Nat.succ_pos _
        · rw [show gc (gx2 g n q md ra cap f) 12 i = gc g 12 i from congrArg (fun z => z.2.2.1) (gx2_12 hj)]; exact hv.2
      | 14, hv => exact hv
      | 15, hv => exact hv
      | 16, hv => exact hv
      | 17, hv => exact hv
      | 18, hv => exact hv
      | x + 19, hv => exact hv.elim
    have hval2 : ∀ k i, cval (gx2 g n q md ra cap f) k i → ¬ ((k = 7 ∧ i = n) ∨ (k = 13 ∧ i = 2)) → cval g k i := by
      intro k i hv hx
      match k, hv, hx with
      | 0, hv, _ => exact hv
      | 1, hv, _ => exact hv
      | 2, hv, _ => exact hv
      | 3, hv, _ => exact hv
      | 4, hv, _ => exact hv
      | 5, hv, _ => exact hv
      | 6, hv, _ => exact hv
      | 7, hv, hx =>
        have h1 : i < n + 1 := hv
        have h2 : i ≠ n := fun h => hx (Or.inl ⟨rfl, h⟩)
        show i < gc g 12 2
        rw [hn]; omega
      | 8, hv, _ => exact hv
      | 9, hv, _ => exact hv
      | 10, hv, _ => exact hv
      | 11, hv, _ => exact hv
      | 12, hv, _ => exact hv
      | 13, hv, hx =>
        have hj : i ≠ 2 := fun h => hx (Or.inr ⟨rfl, h⟩)
        have h2 := hv.2
        rw [show gc (gx2 g n q md ra cap f) 12 i = gc g 12 i from congrArg (fun z => z.2.2.1) (gx2_12 hj)] at h2
        exact ⟨hv.1, h2⟩
      | 14, hv, _ => exact hv
      | 15, hv, _ => exact hv
      | 16, hv, _ => exact hv
      | 17, hv, _ => exact hv
      | 18, hv, _ => exact hv
      | x + 19, hv, _ => exact hv.elim
    refine kk md ra cap f H1 locs1 hval ?_ ?_ ?_ ⟨?_, hS1⟩
    · refine CL_ext (fun k i => (k = 7 ∧ i = n) ∨ (k = 13 ∧ i = 2)) hL (fun k i hv hx => ⟨hval2 k i hv hx, gx2_ga hx⟩) ?_
      rintro k i (⟨rfl, rfl⟩ | ⟨rfl, rfl⟩) hv
      · rw [gx2_new]
        refine ⟨hAq, fun k' i' hv' _ => hfr k' i' hv', ?_⟩
        rintro k' i' (⟨rfl, rfl⟩ | ⟨rfl, rfl⟩) hv' he
        · exact ⟨rfl, rfl⟩
        · exact absurd (show q = ra from he) (Ne.symm hraq)
      · refine ⟨h7, fun k' i' hv' hx => hra k' i' hv' (fun h => hx (Or.inr h)), ?_⟩
        rintro k' i' (⟨rfl, rfl⟩ | ⟨rfl, rfl⟩) hv' he
        · rw [gx2_new] at he
          exact absurd (show ra = q from he) hraq
        · exact ⟨rfl, rfl⟩
    · refine ⟨fun j2 hj2 h0 => ?_, fun j2 hj2 hp => ?_, fun k hk => hG.2.2 k hk⟩
      · by_cases hj : j2 = 2
        · subst hj
          exact absurd (show n + 1 = 0 from h0) (by omega)
        · have e12 : gx2 g n q md ra cap f 12 j2 = g 12 j2 := gx2_12 hj
          have e13 : gx2 g n q md ra cap f 13 j2 = g 13 j2 := gx2_13 hj
          have h0' : gc g 12 j2 = 0 := (congrArg (fun z => z.2.2.1) e12).symm.trans h0
          exact (congrArg Prod.fst e13).trans (hG.1 j2 hj2 h0')
      · by_cases hj : j2 = 2
        · subst hj
          refine ⟨h3.1, h3.2, fun i hi => ?_⟩
          have hi : i < n + 1 := hi
          by_cases hin : i = n
          · subst hin
            show f i = some (ga _ 7 i)
            rw [h5, gx2_new]
          · show f i = some (ga _ 7 i)
            rw [h4 i (by omega), gx2_ga (by rintro (⟨-, h⟩ | ⟨h, -⟩) <;> omega)]
            exact (hG.2.1 2 (by decide) (by omega)).2.2 i (by omega)
        · have e12 : gx2 g n q md ra cap f 12 j2 = g 12 j2 := gx2_12 hj
          have e13 : gx2 g n q md ra cap f 13 j2 = g 13 j2 := gx2_13 hj
          have c12 : gc (gx2 g n q md ra cap f) 12 j2 = gc g 12 j2 := congrArg (fun z => z.2.2.1) e12
          have c13 : gc (gx2 g n q md ra cap f) 13 j2 = gc g 13 j2 := congrArg (fun z => z.2.2.1) e13
          have f13 : gf (gx2 g n q md ra cap f) 13 j2 = gf g 13 j2 := congrArg (fun z => z.2.2.2) e13
          rw [c12] at hp ⊢
          rw [c13, f13]
          obtain ⟨q1, q2, q3⟩ := hG.2.1 j2 hj2 hp
          refine ⟨q1, q2, fun i hi => ?_⟩
          rw [q3 i hi, gx2_ga (by rintro (⟨h, -⟩ | ⟨h, -⟩) <;> omega)]
    · obtain ⟨e0, e1, e3, e67⟩ := hcts
      obtain ⟨⟨t0, t1, t2, t3⟩, t9⟩ := hT
      have ej : ndl S' = n + 1 := by show ix (S' 23 0) = n + 1; rw [hcnt]; exact nI_clamp (by omega)
      refine ⟨⟨e0 ▸ t0, e1 ▸ t1, ej.symm, e3 ▸ t3⟩, fun k hk => ?_⟩
      rw [e3] at hk
      show gc g 9 k = ix (S' 67 k)
      rw [e67]
      exact t9 k hk
    · intro k i hv
      match k, hv with
      | 0, hv => exact hkeep 0 i (hval2 0 i hv (by omega)) (by omega) (by omega)
      | 1, hv => exact hkeep 1 i (hval2 1 i hv (by omega)) (by omega) (by omega)
      | 2, hv => exact hkeep 2 i (hval2 2 i hv (by omega)) (by omega) (by omega)
      | 3, hv => exact hkeep 3 i (hval2 3 i hv (by omega)) (by omega) (by omega)
      | 4, hv => exact hkeep 4 i (hval2 4 i hv (by omega)) (by omega) (by omega)
      | 5, hv => exact hkeep 5 i (hval2 5 i hv (by omega)) (by omega) (by omega)
      | 6, hv => exact hkeep 6 i (hval2 6 i hv (by omega)) (by omega) (by omega)
      | 7, hv =>
        by_cases hin : i = n
        · subst hin
          rw [gx2_new, show ccell cy (gx2 g i q md ra cap f) S' 7 i = ccell cy g S' 7 i from rfl, hnew]
          exact hO.kept (h9 q hO.lt (fun h => hfr 12 2 (show 2 < 4 by decide) h.symm) (fun hp h => hfr 13 2 (hv13 hp) h.symm))
        · have h := hkeep 7 i (hval2 7 i hv (by omega)) (by omega) (by omega)
          rw [show ga (gx2 g n q md ra cap f) 7 i = ga g 7 i from congrArg Prod.fst (gx2_old hin)]
          exact h
      | 8, hv => exact hkeep 8 i (hval2 8 i hv (by omega)) (by omega) (by omega)
      | 9, hv => exact hkeep 9 i (hval2 9 i hv (by omega)) (by omega) (by omega)
      | 10, hv => exact hkeep 10 i (hval2 10 i hv (by omega)) (by omega) (by omega)
      | 11, hv => exact hkeep 11 i (hval2 11 i hv (by omega)) (by omega) (by omega)
      | 12, hv =>
        by_cases hj : i = 2
        · subst hj
          rw [show ccell cy (gx2 g n q md ra cap f) S' 12 2 = alC md ra (S' 23 0) from rfl, hcnt]
          exact h1
        · have h := hkeep 12 i (hval2 12 i hv (by omega)) (by omega) (by omega)
          have e : ccell cy (gx2 g n q md ra cap f) S' 12 i = ccell cy g S' 12 i := by
            show alC (gx2 g n q md ra cap f 12 i).2.1 (gx2 g n q md ra cap f 13 i).1 _ = alC (g 12 i).2.1 (g 13 i).1 _
            rw [gx2_12 hj, gx2_13 hj]
          rw [e, show ga (gx2 g n q md ra cap f) 12 i = ga g 12 i from congrArg Prod.fst (gx2_12 hj)]
          exact h
      | 13, hv =>
        by_cases hj : i = 2
        · subst hj
          exact h2
        · have h := hkeep 13 i (hval2 13 i hv (by omega)) (by omega) (by omega)
          have e : ccell cy (gx2 g n q md ra cap f) S' 13 i = ccell cy g S' 13 i := by
            show arO cy (gx2 g n q md ra cap f 13 i).2.2.1 (gx2 g n q md ra cap f 13 i).2.2.2 = arO cy (g 13 i).2.2.1 (g 13 i).2.2.2
            rw [gx2_13 hj]
          rw [e, show ga (gx2 g n q md ra cap f) 13 i = ga g 13 i from congrArg Prod.fst (gx2_13 hj)]
          exact h
      | 14, hv => exact hkeep 14 i (hval2 14 i hv (by omega)) (by omega) (by omega)
      | 15, hv => exact hkeep 15 i (hval2 15 i hv (by omega)) (by omega) (by omega)
      | 16, hv => exact hkeep 16 i (hval2 16 i hv (by omega)) (by omega) (by omega)
      | 17, hv => exact hkeep 17 i (hval2 17 i hv (by omega)) (by omega) (by omega)
      | 18, hv => exact hkeep 18 i (hval2 18 i hv (by omega)) (by omega) (by omega)
      | x + 19, hv => exact hv.elim

end EXT
