/-! a paper is added to a suit -/
section EXT4
variable {p : Program} {l : Launch} {e : Env} {R : Room} {s : State} {m : MethodId} {args : Array Value} {below : List Frame} {meth : Method} {c : Code} {H : Heap} {locs : List Loc} {cells slots : Nat} {Q : State → Prop}
variable {cc : ByteArray} {pc nL : Nat} {ls : Array Slot} {rest : List Value} {D : va_G} {cy : Nat → ClassId} {g : CWt} {S : St} {A : Nat → Prop} {Ts : List Cond} {own : String} {bytes : ByteArray} {maxL index e0 mi : Nat} {ret : Option FieldType}
def gx4 (g : CWt) (k0 n : Nat) (pq : Nat) (md : Int32) (ra cap : Nat) (f : Nat → Option Nat) : CWt := fun k => if k = 9 then (fun i => if i = k0 then (ga g 9 k0, md, n + 1, fun _ => none) else g 9 i) else if k = 10 then (fun i => if i = k0 then (ra, 0, cap, f) else g 10 i) else if k = 11 then (fun i => if i = (64 * k0 + n) then (pq, 0, 0, fun _ => none) else g 11 i) else g k
theorem gx4_n9 {k0 n : Nat} {pq : Nat} {md : Int32} {ra cap : Nat} {f : Nat → Option Nat} : gx4 g k0 n pq md ra cap f 9 (k0) = (ga g 9 k0, md, n + 1, fun _ => none) := by simp [gx4]
theorem gx4_o9 {k0 n : Nat} {pq : Nat} {md : Int32} {ra cap : Nat} {f : Nat → Option Nat} {i : Nat} (h : i ≠ k0) : gx4 g k0 n pq md ra cap f 9 i = g 9 i := by simp [gx4, h]
theorem gx4_n10 {k0 n : Nat} {pq : Nat} {md : Int32} {ra cap : Nat} {f : Nat → Option Nat} : gx4 g k0 n pq md ra cap f 10 (k0) = (ra, 0, cap, f) := by simp [gx4]
theorem gx4_o10 {k0 n : Nat} {pq : Nat} {md : Int32} {ra cap : Nat} {f : Nat → Option Nat} {i : Nat} (h : i ≠ k0) : gx4 g k0 n pq md ra cap f 10 i = g 10 i := by simp [gx4, h]
theorem gx4_n11 {k0 n : Nat} {pq : Nat} {md : Int32} {ra cap : Nat} {f : Nat → Option Nat} : gx4 g k0 n pq md ra cap f 11 ((64 * k0 + n)) = (pq, 0, 0, fun _ => none) := by simp [gx4]
theorem gx4_o11 {k0 n : Nat} {pq : Nat} {md : Int32} {ra cap : Nat} {f : Nat → Option Nat} {i : Nat} (h : i ≠ (64 * k0 + n)) : gx4 g k0 n pq md ra cap f 11 i = g 11 i := by simp [gx4, h]
theorem gx4_e {k0 n : Nat} {pq : Nat} {md : Int32} {ra cap : Nat} {f : Nat → Option Nat} {k : Nat} (h : k ≠ 9 ∧ k ≠ 10 ∧ k ≠ 11 ∧ True) : gx4 g k0 n pq md ra cap f k = g k := by
  obtain ⟨h9, h10, h11, -⟩ := h
  simp [gx4, h9, h10, h11]
theorem gx4_ga {k0 n : Nat} {pq : Nat} {md : Int32} {ra cap : Nat} {f : Nat → Option Nat} {k i : Nat} (h : ¬ ((k = 10 ∧ i = k0) ∨ (k = 11 ∧ i = (64 * k0 + n)))) : ga (gx4 g k0 n pq md ra cap f) k i = ga g k i := by
  by_cases c9 : k = 9
  · subst c9
    by_cases c : i = k0
    · rw [c]; show (gx4 g k0 n pq md ra cap f 9 (k0)).1 = _; rw [gx4_n9]
    · exact congrArg Prod.fst (gx4_o9 c)
  by_cases c10 : k = 10
  · subst c10
    exact congrArg Prod.fst (gx4_o10 (fun q => h (by simp [q])))
  by_cases c11 : k = 11
  · subst c11
    exact congrArg Prod.fst (gx4_o11 (fun q => h (by simp [q])))
  exact congrArg Prod.fst (congrFun (gx4_e ⟨c9, c10, c11, trivial⟩) i)
set_option maxHeartbeats 4000000 in
theorem fa_add4 (hC : CC p s m args c cc nL own D cy Ts) (hV : CV e0 g S) (hL : CL A g) (hI : CI A D cy g s S H locs) (hJ : JX A D cy e0 mi s s.heap) (hW : JO s) (hA : ∀ q, s.heap.size ≤ q → A q) {k0 n pq : Nat} (hk0 : k0 < gc g 12 3) (hn : gc g 9 k0 = n) (hn40 : n ≤ 40) {gs : List Value}
    (hP : at1 D pq (.inr (4, gs)) H) (n_pq : ∀ k i, cval g k i → ga g k i ≠ pq) (hA_pq : A pq) {S' : St} (hSS : ∀ k i, cval g k i → ¬ (k = 9 ∧ i = k0) → ccell cy g S' k i = ccell cy g S k i) (hnew11 : ccell cy g S' 11 (64 * k0 + n) = .inr (4, gs)) (hcnt : S' 67 k0 = nI (n + 1)) (hcts : nsc S' = nsc S ∧ ncl S' = ncl S ∧ ndl S' = ndl S ∧ nsu S' = nsu S) (h67 : ∀ k, k ≠ k0 → S' 67 k = S 67 k)
    (cwR : CallW R s args own RJx4a65c index yJx4a65c_add_9ea2d bytes maxL ret wsJx4a65c_add_9ea2d ({ frames := 1, cells := 1, slots := 150, locals := 23 } : Room) 1 150 1) (cwA : CallW R s args own RJx4a65c index yJx4a65c_add_9ea2d bytes maxL ret wsJx4a65c_add_9ea2d ({ frames := 6, cells := 1, slots := 150, locals := 150 } : Room) 1 150 1) (cw0 : CallW R s args own RJx4a65c index yJx4a65c_add_9ea2d bytes maxL ret wsJx4a65c_add_9ea2d ({ frames := 4, cells := 1, slots := 150, locals := 126 } : Room) 1 150 1)
    (hsize : ls.size = nL) (hr : (rest.map fun v => v.category).sum ≤ 8) (hdg : decode cc pc = .ok (.invokevirtual index, 3)) (hf : cells + 1 ≤ R.cells ∧ slots + 150 ≤ R.slots)
    (kk : ∀ (md : Int32) (ra cap : Nat) (f : Nat → Option Nat) (H1 : Heap) (locs1 : List Loc), (∀ k i, cval g k i → cval (gx4 g k0 n pq md ra cap f) k i) → CL A (gx4 g k0 n pq md ra cap f) → CG e0 (gx4 g k0 n pq md ra cap f) → CT (gx4 g k0 n pq md ra cap f) S' → CI A D cy (gx4 g k0 n pq md ra cap f) s S' H1 locs1 → W p l e R s m args below meth c H1 locs1 (cells + 1) (slots + 150) Q (F0 m (pc + 3) ls (.int 1 :: rest))) : W p l e R s m args below meth c H locs cells slots Q (F0 m pc ls (.ref pq :: .ref (ga g 9 k0) :: rest)) := by
  have hG := hV.1
  have hT := hV.2.1
  have hks : k0 < nsu S := hT.1.2.2.2 ▸ hk0
  have hs0 : S 67 k0 = nI n := by rw [← hn, hT.2 k0 hks]; exact hV.2.2.2.n67 k0
  have hv9 : cval g 9 k0 := hk0
  have hv10 : cval g 10 k0 := hk0
  obtain ⟨hp, q1, ⟨q2, q3⟩, q4⟩ := hG.2.2 k0 hk0
  rw [hn] at hp q1 q4
  have hlst : at1 D (ga g 9 k0) (alC (gm g 9 k0) (ga g 10 k0) (nI n)) H := by
    have h := hI.1 9 k0 hv9
    rw [show ccell cy g S 9 k0 = alC (gm g 9 k0) (ga g 10 k0) (S 67 k0) from rfl, hs0] at h
    exact h
  refine ra_add hC hJ hI.2 hA (f := gf g 10 k0) (cap := gc g 10 k0) hlst (hL.1 9 k0 hv9) (fun h => absurd h (by omega)) (fun _ => ⟨hI.1 10 k0 hv10, q1, q2, q3, fun q => absurd (hL.2 9 k0 10 k0 hv9 hv10 q).1 (by decide), hL.1 10 k0 hv10⟩) (by omega) (fun i y hi hy => ?_) (any_of hC.2 hP rfl (hW _ (List.mem_of_getElem? (i := 4) rfl))) (fun h => n_pq 9 k0 hv9 h.symm) (fun _ h2 => n_pq 10 k0 hv10 h2.symm) cwR cwA cw0 hsize hr hdg hf (fun md ra cap f H1 locs1 h1 h2 h3 h4 h5 h6 h7 h8 h9 h10 hS1 => ?_)
  · have hy2 := q4 i hi
    obtain rfl : ga g 11 (64 * k0 + i) = y := Option.some.inj (hy2.symm.trans hy)
    have hv : cval g 11 (64 * k0 + i) := ⟨by rw [show (64 * k0 + i) / 64 = k0 by omega]; exact hk0, by rw [show (64 * k0 + i) / 64 = k0 by omega, show (64 * k0 + i) % 64 = i by omega, hn]; exact hi⟩
    exact ⟨any_of hC.2 (hI.1 11 _ hv) rfl (hW _ (List.mem_of_getElem? (i := 4) rfl)), fun h => absurd (hL.2 11 _ 9 k0 hv hv9 h).1 (by decide), fun h => absurd (hL.2 11 _ 10 k0 hv hv10 h).1 (by decide)⟩
  · have hlt : ∀ k i, cval g k i → ga g k i < H.size := fun k i hv => (hI.1 k i hv).lt
    have hra : ∀ k i, cval g k i → ¬ (k = 10 ∧ i = k0) → ga g k i ≠ ra := by
      intro k i hv hx h
      rcases h8 with ⟨hp, rfl⟩ | hge
      · exact hx (hL.2 k i 10 k0 hv hv10 h)
      · exact absurd (hlt k i hv) (by rw [h]; exact Nat.not_lt.mpr hge)
    have d_pq_ra : pq ≠ ra := by
      rcases h8 with ⟨hp, rfl⟩ | hge
      · exact fun h => n_pq 10 k0 hv10 h.symm
      · exact fun h => absurd hP.lt (by show ¬ pq < H.size; rw [h]; exact Nat.not_lt.mpr hge)
    have hkeep : ∀ k i, cval g k i → ¬ (k = 9 ∧ i = k0) → ¬ (k = 10 ∧ i = k0) → at1 D (ga g k i) (ccell cy g S' k i) H1 := by
      intro k i hv hx hy
      rw [hSS k i hv hx]
      exact (hI.1 k i hv).kept (h9 _ (hlt k i hv) (fun h => hx (hL.2 k i 9 k0 hv hv9 h)) (fun _ h => hy (hL.2 k i 10 k0 hv hv10 h)))
    have knew : ∀ (z : Nat) (E : va_E), at1 D z E H → (∀ k i, cval g k i → ga g k i ≠ z) → at1 D z E H1 := fun z E hz hzn => hz.kept (h9 z hz.lt (fun h => hzn 9 k0 hv9 h.symm) (fun _ h => hzn 10 k0 hv10 h.symm))
    have c9 : gc (gx4 g k0 n pq md ra cap f) 9 k0 = n + 1 := congrArg (fun z => z.2.2.1) gx4_n9
    have hval : ∀ k i, cval g k i → cval (gx4 g k0 n pq md ra cap f) k i := by
      intro k i hv
      match k, hv with
      | 0, hv => exact hv
      | 1, hv => exact hv
      | 2, hv => exact hv
      | 3, hv => exact hv
      | 4, hv => exact hv
      | 5, hv => exact hv
      | 6, hv => exact hv
      | 7, hv => exact hv
      | 8, hv => exact hv
      | 9, hv => exact hv
      | 10, hv => exact hv
      | 11, hv =>
        refine ⟨hv.1, ?_⟩
        by_cases hj : i / 64 = k0
        · rw [hj, c9]; have h2 := hv.2; rw [hj, hn] at h2; omega
        · rw [show gc (gx4 g k0 n pq md ra cap f) 9 (i / 64) = gc g 9 (i / 64) from congrArg (fun z => z.2.2.1) (gx4_o9 hj)]; exact hv.2
      | 12, hv => exact hv
      | 13, hv => exact hv
      | 14, hv => exact hv
      | 15, hv => exact hv
      | 16, hv => exact hv
      | 17, hv => exact hv
      | 18, hv => exact hv
      | x + 19, hv => exact hv.elim
    have hval2 : ∀ k i, cval (gx4 g k0 n pq md ra cap f) k i → ¬ ((k = 10 ∧ i = k0) ∨ (k = 11 ∧ i = (64 * k0 + n))) → cval g k i := by
      intro k i hv hx
      match k, hv, hx with
      | 0, hv, _ => exact hv
      | 1, hv, _ => exact hv
      | 2, hv, _ => exact hv
      | 3, hv, _ => exact hv
      | 4, hv, _ => exact hv
      | 5, hv, _ => exact hv
      | 6, hv, _ => exact hv
      | 7, hv, _ => exact hv
      | 8, hv, _ => exact hv
      | 9, hv, _ => exact hv
      | 10, hv, _ => exact hv
      | 11, hv, hx =>
        refine ⟨hv.1, ?_⟩
        have h3 := hv.2
        by_cases hj : i / 64 = k0
        · rw [hj, c9] at h3
          have h4 : ¬ i = 64 * k0 + n := fun h => hx (by simp [h])
          rw [hj, hn]; omega
        · rw [show gc (gx4 g k0 n pq md ra cap f) 9 (i / 64) = gc g 9 (i / 64) from congrArg (fun z => z.2.2.1) (gx4_o9 hj)] at h3; exact h3
      | 12, hv, _ => exact hv
      | 13, hv, _ => exact hv
      | 14, hv, _ => exact hv
      | 15, hv, _ => exact hv
      | 16, hv, _ => exact hv
      | 17, hv, _ => exact hv
      | 18, hv, _ => exact hv
      | x + 19, hv, _ => exact hv.elim
    refine kk md ra cap f H1 locs1 hval ?_ ?_ ?_ ⟨?_, hS1⟩
    · refine CL_ext (fun k i => (k = 10 ∧ i = k0) ∨ (k = 11 ∧ i = (64 * k0 + n))) hL (fun k i hv hx => ⟨hval2 k i hv hx, gx4_ga hx⟩) ?_
      rintro k i (⟨rfl, hi⟩ | ⟨rfl, hi⟩) hv
      · rw [hi, show ga (gx4 g k0 n pq md ra cap f) 10 k0 = ra from congrArg Prod.fst gx4_n10]
        refine ⟨h7, fun k' i' hv' hx => hra k' i' hv' (fun h => hx (by simp [h])), ?_⟩
        rintro k' i' (⟨rfl, hi'⟩ | ⟨rfl, hi'⟩) hv' he
        · exact ⟨rfl, hi'.symm⟩
        · exact absurd (he.trans (by rw [hi']; exact congrArg Prod.fst gx4_n11)) (Ne.symm d_pq_ra)
      · rw [hi, show ga (gx4 g k0 n pq md ra cap f) 11 (64 * k0 + n) = pq from congrArg Prod.fst gx4_n11]
        refine ⟨hA_pq, fun k' i' hv' hx => n_pq k' i' hv', ?_⟩
        rintro k' i' (⟨rfl, hi'⟩ | ⟨rfl, hi'⟩) hv' he
        · exact absurd (he.trans (by rw [hi']; exact congrArg Prod.fst gx4_n10)) d_pq_ra
        · exact ⟨rfl, hi'.symm⟩
    · refine ⟨fun j2 hj2 h0 => hG.1 j2 hj2 h0, fun j2 hj2 hp => ?_, fun k hk => ?_⟩
      · obtain ⟨w1, w2, w3⟩ := hG.2.1 j2 hj2 hp
        refine ⟨w1, w2, fun i hi => ?_⟩
        have e := w3 i hi
        rw [gx4_ga (by simp; omega)]
        exact e
      · by_cases hkn : k = k0
        · rw [hkn]
          have c10 : gc (gx4 g k0 n pq md ra cap f) 10 k0 = cap := congrArg (fun z => z.2.2.1) gx4_n10
          have f10 : gf (gx4 g k0 n pq md ra cap f) 10 k0 = f := congrArg (fun z => z.2.2.2) gx4_n10
          rw [c9, c10, f10]
          refine ⟨Nat.succ_pos _, h3.1, h3.2, fun j hj => ?_⟩
          by_cases hjn : j = n
          · rw [hjn, h5]
            exact congrArg some (congrArg Prod.fst (gx4_n11 (g := g))).symm
          · rw [h4 j (by omega), q4 j (by omega), show ga (gx4 g k0 n pq md ra cap f) 11 (64 * k0 + j) = ga g 11 (64 * k0 + j) from congrArg Prod.fst (gx4_o11 (by omega))]
        · have c9' : gc (gx4 g k0 n pq md ra cap f) 9 k = gc g 9 k := congrArg (fun z => z.2.2.1) (gx4_o9 hkn)
          have c10 : gc (gx4 g k0 n pq md ra cap f) 10 k = gc g 10 k := congrArg (fun z => z.2.2.1) (gx4_o10 hkn)
          have f10 : gf (gx4 g k0 n pq md ra cap f) 10 k = gf g 10 k := congrArg (fun z => z.2.2.2) (gx4_o10 hkn)
          rw [c9', c10, f10]
          obtain ⟨w1, w2, w3, w4⟩ := hG.2.2 k hk
          refine ⟨w1, w2, w3, fun j hj => ?_⟩
          have hb : gc g 9 k ≤ 41 := by rw [hT.2 k (hT.1.2.2.2 ▸ hk)]; exact hV.2.2.2.b67 k
          rw [w4 j hj, show ga (gx4 g k0 n pq md ra cap f) 11 (64 * k + j) = ga g 11 (64 * k + j) from congrArg Prod.fst (gx4_o11 (by omega))]
    · obtain ⟨e0', e1', e2', e3'⟩ := hcts
      obtain ⟨⟨t0, t1, t2, t3⟩, t9⟩ := hT
      refine ⟨⟨e0' ▸ t0, e1' ▸ t1, e2' ▸ t2, e3' ▸ t3⟩, fun k hk => ?_⟩
      rw [e3'] at hk
      show gc (gx4 g k0 n pq md ra cap f) 9 k = ix (S' 67 k)
      by_cases hkn : k = k0
      · rw [hkn, c9, hcnt]
        exact (nI_clamp (by omega)).symm
      · rw [h67 k hkn]
        exact (congrArg (fun z => z.2.2.1) (gx4_o9 hkn)).trans (t9 k hk)
    · intro k i hv
      match k, hv with
      | 0, hv => exact hkeep 0 i (hval2 0 i hv (by simp)) (by simp) (by simp)
      | 1, hv => exact hkeep 1 i (hval2 1 i hv (by simp)) (by simp) (by simp)
      | 2, hv => exact hkeep 2 i (hval2 2 i hv (by simp)) (by simp) (by simp)
      | 3, hv => exact hkeep 3 i (hval2 3 i hv (by simp)) (by simp) (by simp)
      | 4, hv => exact hkeep 4 i (hval2 4 i hv (by simp)) (by simp) (by simp)
      | 5, hv => exact hkeep 5 i (hval2 5 i hv (by simp)) (by simp) (by simp)
      | 6, hv => exact hkeep 6 i (hval2 6 i hv (by simp)) (by simp) (by simp)
      | 7, hv => exact hkeep 7 i (hval2 7 i hv (by simp)) (by simp) (by simp)
      | 8, hv =>
        have h := hkeep 8 i (hval2 8 i hv (by simp)) (by simp) (by simp)
        have e9 : ga (gx4 g k0 n pq md ra cap f) 9 i = ga g 9 i := by
          by_cases hin : i = k0
          · rw [hin]; show ((gx4 g k0 n pq md ra cap f) 9 k0).1 = _; rw [gx4_n9]
          · exact congrArg Prod.fst (gx4_o9 hin)
        have e : ccell cy (gx4 g k0 n pq md ra cap f) S' 8 i = ccell cy g S' 8 i := by
          show Sum.inr (6, [_, _, _, _, _, Value.ref (ga (gx4 g k0 n pq md ra cap f) 9 i), _, _, _, _, _, _, _, _, _]) = Sum.inr (6, [_, _, _, _, _, Value.ref (ga g 9 i), _, _, _, _, _, _, _, _, _])
          rw [e9]
        rw [e]
        exact h
      | 9, hv =>
        by_cases hin : i = k0
        · rw [hin]
          rw [show ga (gx4 g k0 n pq md ra cap f) 9 k0 = ga g 9 k0 by (show ((gx4 g k0 n pq md ra cap f) 9 k0).1 = _); rw [gx4_n9], show ccell cy (gx4 g k0 n pq md ra cap f) S' 9 k0 = alC md ra (S' 67 k0) by
            show alC ((gx4 g k0 n pq md ra cap f) 9 k0).2.1 ((gx4 g k0 n pq md ra cap f) 10 k0).1 _ = _
            rw [gx4_n9, gx4_n10], hcnt]
          exact h1
        · have h := hkeep 9 i (hval2 9 i hv (by simp)) (by simp [hin]) (by simp)
          have e : ccell cy (gx4 g k0 n pq md ra cap f) S' 9 i = ccell cy g S' 9 i := by
            show alC ((gx4 g k0 n pq md ra cap f) 9 i).2.1 ((gx4 g k0 n pq md ra cap f) 10 i).1 _ = alC (g 9 i).2.1 (g 10 i).1 _
            rw [gx4_o9 hin, gx4_o10 hin]
          rw [e, show ga (gx4 g k0 n pq md ra cap f) 9 i = ga g 9 i from congrArg Prod.fst (gx4_o9 hin)]
          exact h
      | 10, hv =>
        by_cases hin : i = k0
        · rw [hin]
          rw [show ga (gx4 g k0 n pq md ra cap f) 10 k0 = ra from congrArg Prod.fst gx4_n10, show ccell cy (gx4 g k0 n pq md ra cap f) S' 10 k0 = arO cy cap f by
            show arO cy ((gx4 g k0 n pq md ra cap f) 10 k0).2.2.1 ((gx4 g k0 n pq md ra cap f) 10 k0).2.2.2 = _
            rw [gx4_n10]]
          exact h2
        · have h := hkeep 10 i (hval2 10 i hv (by simp [hin])) (by simp) (by simp [hin])
          have e : ccell cy (gx4 g k0 n pq md ra cap f) S' 10 i = ccell cy g S' 10 i := by
            show arO cy ((gx4 g k0 n pq md ra cap f) 10 i).2.2.1 ((gx4 g k0 n pq md ra cap f) 10 i).2.2.2 = arO cy (g 10 i).2.2.1 (g 10 i).2.2.2
            rw [gx4_o10 hin]
          rw [e, show ga (gx4 g k0 n pq md ra cap f) 10 i = ga g 10 i from congrArg Prod.fst (gx4_o10 hin)]
          exact h
      | 11, hv =>
        by_cases hin : i = 64 * k0 + n
        · rw [hin]
          rw [show ga (gx4 g k0 n pq md ra cap f) 11 (64 * k0 + n) = pq from congrArg Prod.fst gx4_n11, show ccell cy (gx4 g k0 n pq md ra cap f) S' 11 (64 * k0 + n) = ccell cy g S' 11 (64 * k0 + n) from rfl, hnew11]
          exact knew pq _ hP n_pq
        · have h := hkeep 11 i (hval2 11 i hv (by simp [hin])) (by simp) (by simp)
          rw [show ga (gx4 g k0 n pq md ra cap f) 11 i = ga g 11 i from congrArg Prod.fst (gx4_o11 hin)]
          exact h
      | 12, hv => exact hkeep 12 i (hval2 12 i hv (by simp)) (by simp) (by simp)
      | 13, hv => exact hkeep 13 i (hval2 13 i hv (by simp)) (by simp) (by simp)
      | 14, hv => exact hkeep 14 i (hval2 14 i hv (by simp)) (by simp) (by simp)
      | 15, hv => exact hkeep 15 i (hval2 15 i hv (by simp)) (by simp) (by simp)
      | 16, hv => exact hkeep 16 i (hval2 16 i hv (by simp)) (by simp) (by simp)
      | 17, hv => exact hkeep 17 i (hval2 17 i hv (by simp)) (by simp) (by simp)
      | 18, hv => exact hkeep 18 i (hval2 18 i hv (by simp)) (by simp) (by simp)
      | x + 19, hv => exact hv.elim

end EXT4
