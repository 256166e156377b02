section EXT3
variable {p : Program} {l : Launch} {e : Env} {R : Room} {s : State} {m : MethodId} {args : Array Value} {below : List Frame} {meth : Method} {c : Code} {H : Heap} {locs : List Loc} {cells slots : Nat} {Q : State → Prop}
variable {cc : ByteArray} {pc nL : Nat} {ls : Array Slot} {rest : List Value} {D : va_G} {cy : Nat → ClassId} {g : CWt} {S : St} {A : Nat → Prop} {Ts : List Cond} {own : String} {bytes : ByteArray} {maxL index e0 mi : Nat} {ret : Option FieldType}
set_option maxHeartbeats 4000000 in
theorem fa_add3 (hC : CC p s m args c cc nL own D cy Ts) (hV : CV e0 g S) (hL : CL A g) (hI : CI A D cy g s S H locs) (hJ : JX A D cy e0 mi s s.heap) (hW : JO s) (hA : ∀ q, s.heap.size ≤ q → A q) {n q la ra2 pq cap2 : Nat} {md2 : Int32} {f2 : Nat → Option Nat} (hn : gc g 12 3 = n) {fs gs : List Value}
    (hO : at1 D q (.inr (6, fs)) H) (hL2 : at1 D la (alC md2 ra2 (nI 1)) H) (hR2 : at1 D ra2 (arO cy cap2 f2) H) (hP : at1 D pq (.inr (4, gs)) H) (n_q : ∀ k i, cval g k i → ga g k i ≠ q) (n_la : ∀ k i, cval g k i → ga g k i ≠ la) (n_ra2 : ∀ k i, cval g k i → ga g k i ≠ ra2) (n_pq : ∀ k i, cval g k i → ga g k i ≠ pq) (hA_q : A q) (hA_la : A la) (hA_ra2 : A ra2) (hA_pq : A pq) (d_q_la : q ≠ la) (d_q_ra2 : q ≠ ra2) (d_q_pq : q ≠ pq) (d_la_ra2 : la ≠ ra2) (d_la_pq : la ≠ pq) (d_ra2_pq : ra2 ≠ pq) (hcap2 : 2 ≤ cap2 ∧ cap2 ≤ 150) (hf2 : f2 0 = some pq)
    {S' : St} (hSS : ∀ k i, cval g k i → ¬ (k = 12 ∧ i = 3) → ccell cy g S' k i = ccell cy g S k i) (hnew8 : ∀ (md : Int32) (ra cap : Nat) (f : Nat → Option Nat), ccell cy (gx3 g n q la ra2 pq md2 cap2 f2 md ra cap f) S' 8 n = .inr (6, fs)) (hnew67 : S' 67 n = nI 1) (hnew11 : ccell cy g S' 11 (64 * n) = .inr (4, gs)) (hcnt : S' 28 0 = nI (n + 1)) (hcts : nsc S' = nsc S ∧ ncl S' = ncl S ∧ ndl S' = ndl S) (h67 : ∀ k, k ≠ n → S' 67 k = S 67 k)
    (cwR : CallW R s args own RJx4a65c index yJx4a65c_add_9ea2d bytes maxL ret wsJx4a65c_add_9ea2d ({ frames := 1, cells := 1, slots := 150, locals := 23 } : Room) 1 150 1) (cwA : CallW R s args own RJx4a65c index yJx4a65c_add_9ea2d bytes maxL ret wsJx4a65c_add_9ea2d ({ frames := 6, cells := 1, slots := 150, locals := 150 } : Room) 1 150 1) (cw0 : CallW R s args own RJx4a65c index yJx4a65c_add_9ea2d bytes maxL ret wsJx4a65c_add_9ea2d ({ frames := 4, cells := 1, slots := 150, locals := 126 } : Room) 1 150 1)
    (hsize : ls.size = nL) (hr : (rest.map fun v => v.category).sum ≤ 8) (hdg : decode cc pc = .ok (.invokevirtual index, 3)) (hf : cells + 1 ≤ R.cells ∧ slots + 150 ≤ R.slots)
    (kk : ∀ (md : Int32) (ra cap : Nat) (f : Nat → Option Nat) (H1 : Heap) (locs1 : List Loc), (∀ k i, cval g k i → cval (gx3 g n q la ra2 pq md2 cap2 f2 md ra cap f) k i) → CL A (gx3 g n q la ra2 pq md2 cap2 f2 md ra cap f) → CG e0 (gx3 g n q la ra2 pq md2 cap2 f2 md ra cap f) → CT (gx3 g n q la ra2 pq md2 cap2 f2 md ra cap f) S' → CI A D cy (gx3 g n q la ra2 pq md2 cap2 f2 md ra cap f) s S' H1 locs1 → W p l e R s m args below meth c H1 locs1 (cells + 1) (slots + 150) Q (F0 m (pc + 3) ls (.int 1 :: rest))) : W p l e R s m args below meth c H locs cells slots Q (F0 m pc ls (.ref q :: .ref (ga g 12 3) :: rest)) := by
  have hn12 : n ≤ 12 := by rw [← hn, hV.2.1.1.2.2.2]; exact hV.2.2.1.b28
  have hs0 : S (cid 3) 0 = nI n := by rw [← hn]; exact (hV.c5 3 (by decide)).1
  have hlst : at1 D (ga g 12 3) (alC (gm g 12 3) (ga g 13 3) (nI n)) H := by
    have h := hI.1 12 3 (show 3 < 4 by decide)
    rw [show ccell cy g S 12 3 = alC (gm g 12 3) (ga g 13 3) (S (cid 3) 0) from rfl, hs0] at h
    exact h
  have hv13 : 0 < n → cval g 13 3 := fun h => ⟨by decide, by rw [hn]; exact h⟩
  have hG := hV.1
  have hT := hV.2.1
  refine ra_add hC hJ hI.2 hA (f := gf g 13 3) (cap := gc g 13 3) hlst (hL.1 12 3 (show 3 < 4 by decide)) (fun h => hG.1 3 (by decide) (hn.trans h)) (fun h => ?_) (by omega) (fun i y hi hy => ?_) (any_of hC.2 hO rfl (hW _ (List.mem_of_getElem? (i := 3) rfl))) (fun h => n_q 12 3 (show 3 < 4 by decide) h.symm) (fun h h2 => n_q 13 3 (hv13 h) h2.symm) cwR cwA cw0 hsize hr hdg hf (fun md ra cap f H1 locs1 h1 h2 h3 h4 h5 h6 h7 h8 h9 h10 hS1 => ?_)
  · obtain ⟨q1, ⟨q2, q3⟩, -⟩ := hG.2.1 3 (by decide) (by rw [hn]; exact h)
    exact ⟨hI.1 13 3 (hv13 h), by rw [← hn]; exact q1, q2, q3, fun q => absurd (hL.2 12 3 13 3 (show 3 < 4 by decide) (hv13 h) q).1 (by decide), hL.1 13 3 (hv13 h)⟩
  · have hp : 0 < n := Nat.lt_of_le_of_lt (Nat.zero_le _) hi
    obtain ⟨-, -, q4⟩ := hG.2.1 3 (by decide) (by rw [hn]; exact hp)
    have hy2 := q4 i (by rw [hn]; exact hi)
    obtain rfl : ga g 8 i = y := Option.some.inj (hy2.symm.trans hy)
    have hv : cval g 8 i := by show i < gc g 12 3; rw [hn]; exact hi
    exact ⟨any_of hC.2 (hI.1 8 i hv) rfl (hW _ (List.mem_of_getElem? (i := 3) rfl)), fun h => absurd (hL.2 8 i 12 3 hv (show 3 < 4 by decide) h).1 (by decide), fun h => absurd (hL.2 8 i 13 3 hv (hv13 hp) h).1 (by decide)⟩
  · have hlt : ∀ k i, cval g k i → ga g k i < H.size := fun k i hv => (hI.1 k i hv).lt
    have hra : ∀ k i, cval g k i → ¬ (k = 13 ∧ i = 3) → ga g k i ≠ ra := by
      intro k i hv hx h
      rcases h8 with ⟨hp, rfl⟩ | hge
      · exact hx (hL.2 k i 13 3 hv (hv13 hp) h)
      · exact absurd (hlt k i hv) (by rw [h]; exact Nat.not_lt.mpr hge)
    have hdr : ∀ z, z < H.size → (∀ k i, cval g k i → ga g k i ≠ z) → z ≠ ra := by
      intro z hz hzn
      rcases h8 with ⟨hp, rfl⟩ | hge
      · exact fun h => hzn 13 3 (hv13 hp) h.symm
      · exact fun h => absurd hz (by rw [h]; exact Nat.not_lt.mpr hge)
    have d_q_ra := hdr q hO.lt n_q
    have d_la_ra := hdr la hL2.lt n_la
    have d_ra2_ra := hdr ra2 hR2.lt n_ra2
    have d_pq_ra := hdr pq hP.lt n_pq
    have hkeep : ∀ k i, cval g k i → ¬ (k = 12 ∧ i = 3) → ¬ (k = 13 ∧ i = 3) → at1 D (ga g k i) (ccell cy g S' k i) H1 := by
      intro k i hv hx hy
      rw [hSS k i hv hx]
      exact (hI.1 k i hv).kept (h9 _ (hlt k i hv) (fun h => hx (hL.2 k i 12 3 hv (show 3 < 4 by decide) h)) (fun hp h => hy (hL.2 k i 13 3 hv (hv13 hp) h)))
    have knew : ∀ (z : Nat) (E : va_E), at1 D z E H → (∀ k i, cval g k i → ga g k i ≠ z) → at1 D z E H1 := fun z E hz hzn => hz.kept (h9 z hz.lt (fun h => hzn 12 3 (show 3 < 4 by decide) h.symm) (fun hp h => hzn 13 3 (hv13 hp) h.symm))
    have hval : ∀ k i, cval g k i → cval (gx3 g n q la ra2 pq md2 cap2 f2 md ra cap f) k i := by
      intro k i hv
      match k, hv with
      | 0, hv => exact hv
      | 1, hv => exact hv
      | 2, hv => exact hv
      | 3, hv => exact hv
      | 4, hv => exact hv
      | 5, hv => exact hv
      | 6, hv => exact hv
      | 7, hv => exact hv
      | 8, hv => exact Nat.lt_succ_of_lt (hn ▸ (show i < gc g 12 3 from hv))
      | 9, hv => exact Nat.lt_succ_of_lt (hn ▸ (show i < gc g 12 3 from hv))
      | 10, hv => exact Nat.lt_succ_of_lt (hn ▸ (show i < gc g 12 3 from hv))
      | 11, hv =>
        have h1 : i / 64 < n := hn ▸ hv.1
        exact ⟨Nat.lt_succ_of_lt h1, by rw [show gc (gx3 g n q la ra2 pq md2 cap2 f2 md ra cap f) 9 (i / 64) = gc g 9 (i / 64) from congrArg (fun z => z.2.2.1) (gx3_o9 (Nat.ne_of_lt h1))]; exact hv.2⟩
      | 12, hv => exact hv
      | 13, hv =>
        refine ⟨hv.1, ?_⟩
        by_cases hj : i = 3
        · subst hj; exact Nat.succ_pos _
        · rw [show gc (gx3 g n q la ra2 pq md2 cap2 f2 md ra cap f) 12 i = gc g 12 i from congrArg (fun z => z.2.2.1) (gx3_o12 hj)]; exact hv.2
      | 14, hv => exact hv
      | 15, hv => exact hv
      | 16, hv => exact hv
      | 17, hv => exact hv
      | 18, hv => exact hv
      | x + 19, hv => exact hv.elim
    have hval2 : ∀ k i, cval (gx3 g n q la ra2 pq md2 cap2 f2 md ra cap f) k i → ¬ ((k = 8 ∧ i = n) ∨ (k = 9 ∧ i = n) ∨ (k = 10 ∧ i = n) ∨ (k = 11 ∧ i = 64 * n) ∨ (k = 13 ∧ i = 3)) → cval g k i := by
      intro k i hv hx
      match k, hv, hx with
      | 0, hv, _ => exact hv
      | 1, hv, _ => exact hv
      | 2, hv, _ => exact hv
      | 3, hv, _ => exact hv
      | 4, hv, _ => exact hv
      | 5, hv, _ => exact hv
      | 6, hv, _ => exact hv
      | 7, hv, _ => exact hv
      | 8, hv, hx =>
        have h1 : i < n + 1 := hv
        have h2 : i ≠ n := fun h => hx (by simp [h])
        show i < gc g 12 3
        rw [hn]; omega
      | 9, hv, hx =>
        have h1 : i < n + 1 := hv
        have h2 : i ≠ n := fun h => hx (by simp [h])
        show i < gc g 12 3
        rw [hn]; omega
      | 10, hv, hx =>
        have h1 : i < n + 1 := hv
        have h2 : i ≠ n := fun h => hx (by simp [h])
        show i < gc g 12 3
        rw [hn]; omega
      | 11, hv, hx =>
        have h1 : i / 64 < n + 1 := hv.1
        have h3 := hv.2
        have h2 : i / 64 ≠ n := by
          intro h
          rw [show gc (gx3 g n q la ra2 pq md2 cap2 f2 md ra cap f) 9 (i / 64) = 1 by rw [h]; exact congrArg (fun z => z.2.2.1) gx3_n9] at h3
          exact hx (by simp; omega)
        rw [show gc (gx3 g n q la ra2 pq md2 cap2 f2 md ra cap f) 9 (i / 64) = gc g 9 (i / 64) from congrArg (fun z => z.2.2.1) (gx3_o9 h2)] at h3
        exact ⟨by rw [hn]; omega, h3⟩
      | 12, hv, _ => exact hv
      | 13, hv, hx =>
        have hj : i ≠ 3 := fun h => hx (by simp [h])
        have h2 := hv.2
        rw [show gc (gx3 g n q la ra2 pq md2 cap2 f2 md ra cap f) 12 i = gc g 12 i from congrArg (fun z => z.2.2.1) (gx3_o12 hj)] at h2
        exact ⟨hv.1, h2⟩
      | 14, hv, _ => exact hv
      | 15, hv, _ => exact hv
      | 16, hv, _ => exact hv
      | 17, hv, _ => exact hv
      | 18, hv, _ => exact hv
      | x + 19, hv, _ => exact hv.elim
    refine kk md ra cap f H1 locs1 hval ?_ ?_ ?_ ⟨?_, hS1⟩
    · refine CL_ext (fun k i => (k = 8 ∧ i = n) ∨ (k = 9 ∧ i = n) ∨ (k = 10 ∧ i = n) ∨ (k = 11 ∧ i = 64 * n) ∨ (k = 13 ∧ i = 3)) hL (fun k i hv hx => ⟨hval2 k i hv hx, gx3_ga hx⟩) ?_
      rintro k i (⟨rfl, hi⟩ | ⟨rfl, hi⟩ | ⟨rfl, hi⟩ | ⟨rfl, hi⟩ | ⟨rfl, hi⟩) hv
      · rw [hi, show ga (gx3 g n q la ra2 pq md2 cap2 f2 md ra cap f) 8 (n) = q from congrArg Prod.fst gx3_n8]
        refine ⟨hA_q, fun k' i' hv' hx => n_q k' i' hv', ?_⟩
        rintro k' i' (⟨rfl, hi'⟩ | ⟨rfl, hi'⟩ | ⟨rfl, hi'⟩ | ⟨rfl, hi'⟩ | ⟨rfl, hi'⟩) hv' he
        · exact ⟨rfl, hi'.symm⟩
        · exact absurd (he.trans (by rw [hi']; exact congrArg Prod.fst gx3_n9)) d_q_la
        · exact absurd (he.trans (by rw [hi']; exact congrArg Prod.fst gx3_n10)) d_q_ra2
        · exact absurd (he.trans (by rw [hi']; exact congrArg Prod.fst gx3_n11)) d_q_pq
        · exact absurd (he.trans (by rw [hi']; exact congrArg Prod.fst gx3_n13)) d_q_ra
      · rw [hi, show ga (gx3 g n q la ra2 pq md2 cap2 f2 md ra cap f) 9 (n) = la from congrArg Prod.fst gx3_n9]
        refine ⟨hA_la, fun k' i' hv' hx => n_la k' i' hv', ?_⟩
        rintro k' i' (⟨rfl, hi'⟩ | ⟨rfl, hi'⟩ | ⟨rfl, hi'⟩ | ⟨rfl, hi'⟩ | ⟨rfl, hi'⟩) hv' he
        · exact absurd (he.trans (by rw [hi']; exact congrArg Prod.fst gx3_n8)) (Ne.symm d_q_la)
        · exact ⟨rfl, hi'.symm⟩
        · exact absurd (he.trans (by rw [hi']; exact congrArg Prod.fst gx3_n10)) d_la_ra2
        · exact absurd (he.trans (by rw [hi']; exact congrArg Prod.fst gx3_n11)) d_la_pq
        · exact absurd (he.trans (by rw [hi']; exact congrArg Prod.fst gx3_n13)) d_la_ra
      · rw [hi, show ga (gx3 g n q la ra2 pq md2 cap2 f2 md ra cap f) 10 (n) = ra2 from congrArg Prod.fst gx3_n10]
        refine ⟨hA_ra2, fun k' i' hv' hx => n_ra2 k' i' hv', ?_⟩
        rintro k' i' (⟨rfl, hi'⟩ | ⟨rfl, hi'⟩ | ⟨rfl, hi'⟩ | ⟨rfl, hi'⟩ | ⟨rfl, hi'⟩) hv' he
        · exact absurd (he.trans (by rw [hi']; exact congrArg Prod.fst gx3_n8)) (Ne.symm d_q_ra2)
        · exact absurd (he.trans (by rw [hi']; exact congrArg Prod.fst gx3_n9)) (Ne.symm d_la_ra2)
        · exact ⟨rfl, hi'.symm⟩
        · exact absurd (he.trans (by rw [hi']; exact congrArg Prod.fst gx3_n11)) d_ra2_pq
        · exact absurd (he.trans (by rw [hi']; exact congrArg Prod.fst gx3_n13)) d_ra2_ra
      · rw [hi, show ga (gx3 g n q la ra2 pq md2 cap2 f2 md ra cap f) 11 (64 * n) = pq from congrArg Prod.fst gx3_n11]
        refine ⟨hA_pq, fun k' i' hv' hx => n_pq k' i' hv', ?_⟩
        rintro k' i' (⟨rfl, hi'⟩ | ⟨rfl, hi'⟩ | ⟨rfl, hi'⟩ | ⟨rfl, hi'⟩ | ⟨rfl, hi'⟩) hv' he
        · exact absurd (he.trans (by rw [hi']; exact congrArg Prod.fst gx3_n8)) (Ne.symm d_q_pq)
        · exact absurd (he.trans (by rw [hi']; exact congrArg Prod.fst gx3_n9)) (Ne.symm d_la_pq)
        · exact absurd (he.trans (by rw [hi']; exact congrArg Prod.fst gx3_n10)) (Ne.symm d_ra2_pq)
        · exact ⟨rfl, hi'.symm⟩
        · exact absurd (he.trans (by rw [hi']; exact congrArg Prod.fst gx3_n13)) d_pq_ra
      · rw [hi, show ga (gx3 g n q la ra2 pq md2 cap2 f2 md ra cap f) 13 (3) = ra from congrArg Prod.fst gx3_n13]
        refine ⟨h7, fun k' i' hv' hx => hra k' i' hv' (fun h => hx (by simp [h])), ?_⟩
        rintro k' i' (⟨rfl, hi'⟩ | ⟨rfl, hi'⟩ | ⟨rfl, hi'⟩ | ⟨rfl, hi'⟩ | ⟨rfl, hi'⟩) hv' he
        · exact absurd (he.trans (by rw [hi']; exact congrArg Prod.fst gx3_n8)) (Ne.symm d_q_ra)
        · exact absurd (he.trans (by rw [hi']; exact congrArg Prod.fst gx3_n9)) (Ne.symm d_la_ra)
        · exact absurd (he.trans (by rw [hi']; exact congrArg Prod.fst gx3_n10)) (Ne.symm d_ra2_ra)
        · exact absurd (he.trans (by rw [hi']; exact congrArg Prod.fst gx3_n11)) (Ne.symm d_pq_ra)
        · exact ⟨rfl, hi'.symm⟩
    · refine ⟨fun j2 hj2 h0 => ?_, fun j2 hj2 hp => ?_, fun k hk => ?_⟩
      · by_cases hj : j2 = 3
        · subst hj
          exact absurd ((congrArg (fun z => z.2.2.1) (gx3_n12 (g := g) (n := n) (md := md))).symm.trans h0) (by simp)
        · have h0' : gc g 12 j2 = 0 := (congrArg (fun z => z.2.2.1) (gx3_o12 hj)).symm.trans h0
          exact (congrArg Prod.fst (gx3_o13 hj)).trans (hG.1 j2 hj2 h0')
      · by_cases hj : j2 = 3
        · subst hj
          have c12 : gc (gx3 g n q la ra2 pq md2 cap2 f2 md ra cap f) 12 3 = n + 1 := congrArg (fun z => z.2.2.1) gx3_n12
          have c13 : gc (gx3 g n q la ra2 pq md2 cap2 f2 md ra cap f) 13 3 = cap := congrArg (fun z => z.2.2.1) gx3_n13
          have f13 : gf (gx3 g n q la ra2 pq md2 cap2 f2 md ra cap f) 13 3 = f := congrArg (fun z => z.2.2.2) gx3_n13
          rw [c12, c13, f13]
          refine ⟨h3.1, h3.2, fun i hi => ?_⟩
          by_cases hin : i = n
          · rw [hin, h5, show ga (gx3 g n q la ra2 pq md2 cap2 f2 md ra cap f) (5 + 3) n = q from congrArg Prod.fst gx3_n8]
          · rw [h4 i (by omega), show ga (gx3 g n q la ra2 pq md2 cap2 f2 md ra cap f) (5 + 3) i = ga g 8 i from congrArg Prod.fst (gx3_o8 hin)]
            exact (hG.2.1 3 (by decide) (by omega)).2.2 i (by omega)
        · have c12 : gc (gx3 g n q la ra2 pq md2 cap2 f2 md ra cap f) 12 j2 = gc g 12 j2 := congrArg (fun z => z.2.2.1) (gx3_o12 hj)
          have c13 : gc (gx3 g n q la ra2 pq md2 cap2 f2 md ra cap f) 13 j2 = gc g 13 j2 := congrArg (fun z => z.2.2.1) (gx3_o13 hj)
          have f13 : gf (gx3 g n q la ra2 pq md2 cap2 f2 md ra cap f) 13 j2 = gf g 13 j2 := congrArg (fun z => z.2.2.2) (gx3_o13 hj)
          rw [c12] at hp ⊢
          rw [c13, f13]
          obtain ⟨q1, q2, q3⟩ := hG.2.1 j2 hj2 hp
          refine ⟨q1, q2, fun i hi => ?_⟩
          rw [q3 i hi, gx3_ga (by simp; omega)]
      · have hk : k < n + 1 := (show gc (gx3 g n q la ra2 pq md2 cap2 f2 md ra cap f) 12 3 = n + 1 from congrArg (fun z => z.2.2.1) gx3_n12) ▸ hk
        by_cases hkn : k = n
        · rw [hkn]
          have c9 : gc (gx3 g n q la ra2 pq md2 cap2 f2 md ra cap f) 9 n = 1 := congrArg (fun z => z.2.2.1) gx3_n9
          have c10 : gc (gx3 g n q la ra2 pq md2 cap2 f2 md ra cap f) 10 n = cap2 := congrArg (fun z => z.2.2.1) gx3_n10
          have f10 : gf (gx3 g n q la ra2 pq md2 cap2 f2 md ra cap f) 10 n = f2 := congrArg (fun z => z.2.2.2) gx3_n10
          rw [c9, c10, f10]
          refine ⟨by decide, by omega, hcap2, fun j hj => ?_⟩
          obtain rfl : j = 0 := by omega
          rw [hf2]
          exact congrArg some (congrArg Prod.fst (gx3_n11 (g := g))).symm
        · have c9 : gc (gx3 g n q la ra2 pq md2 cap2 f2 md ra cap f) 9 k = gc g 9 k := congrArg (fun z => z.2.2.1) (gx3_o9 hkn)
          have c10 : gc (gx3 g n q la ra2 pq md2 cap2 f2 md ra cap f) 10 k = gc g 10 k := congrArg (fun z => z.2.2.1) (gx3_o10 hkn)
          have f10 : gf (gx3 g n q la ra2 pq md2 cap2 f2 md ra cap f) 10 k = gf g 10 k := congrArg (fun z => z.2.2.2) (gx3_o10 hkn)
          rw [c9, c10, f10]
          have hkg : k < gc g 12 3 := by rw [hn]; omega
          obtain ⟨q1, q2, q3, q4⟩ := hG.2.2 k hkg
          refine ⟨q1, q2, q3, fun j hj => ?_⟩
          have hb : gc g 9 k ≤ 41 := by rw [hT.2 k (hT.1.2.2.2 ▸ hkg)]; exact hV.2.2.2.b67 k
          rw [q4 j hj, show ga (gx3 g n q la ra2 pq md2 cap2 f2 md ra cap f) 11 (64 * k + j) = ga g 11 (64 * k + j) from congrArg Prod.fst (gx3_o11 (by omega))]
    · obtain ⟨e0', e1', e2'⟩ := hcts
      obtain ⟨⟨t0, t1, t2, t3⟩, t9⟩ := hT
      have ej : nsu S' = n + 1 := by show ix (S' 28 0) = n + 1; rw [hcnt]; exact nI_clamp (by omega)
      refine ⟨⟨?_, ?_, ?_, ?_⟩, fun k hk => ?_⟩
      · exact (congrArg (fun z => z.2.2.1) (gx3_o12 (by decide))).trans (e0' ▸ t0)
      · exact (congrArg (fun z => z.2.2.1) (gx3_o12 (by decide))).trans (e1' ▸ t1)
      · exact (congrArg (fun z => z.2.2.1) (gx3_o12 (by decide))).trans (e2' ▸ t2)
      · exact (congrArg (fun z => z.2.2.1) gx3_n12).trans ej.symm
      · by_cases hkn : k = n
        · rw [hkn]
          show gc (gx3 g n q la ra2 pq md2 cap2 f2 md ra cap f) 9 n = ix (S' 67 n)
          rw [hnew67]
          exact (show gc (gx3 g n q la ra2 pq md2 cap2 f2 md ra cap f) 9 n = 1 from congrArg (fun z => z.2.2.1) gx3_n9).trans (by decide)
        · show gc (gx3 g n q la ra2 pq md2 cap2 f2 md ra cap f) 9 k = ix (S' 67 k)
          rw [h67 k hkn]
          exact (congrArg (fun z => z.2.2.1) (gx3_o9 hkn)).trans (t9 k (by rw [← t3, hn]; omega))
    · intro k i hv
      match k, hv with
      | 0, hv => exact hkeep 0 i (hval2 0 i hv (by simp)) (by simp) (by simp)
      | 1, hv => exact hkeep 1 i (hval2 1 i hv (by simp)) (by simp) (by simp)
      | 2, hv => exact hkeep 2 i (hval2 2 i hv (by simp)) (by simp) (by simp)
      | 3, hv => exact hkeep 3 i (hval2 3 i hv (by simp)) (by simp) (by simp)
      | 4, hv => exact hkeep 4 i (hval2 4 i hv (by simp)) (by simp) (by simp)
      | 5, hv => exact hkeep 5 i (hval2 5 i hv (by simp)) (by simp) (by simp)
      | 6, hv => exact hkeep 6 i (hval2 6 i hv (by simp)) (by simp) (by simp)
      | 7, hv => exact hkeep 7 i (hval2 7 i hv (by simp)) (by simp) (by simp)
      | 8, hv =>
        by_cases hin : i = n
        · rw [hin]
          rw [show ga (gx3 g n q la ra2 pq md2 cap2 f2 md ra cap f) 8 n = q from congrArg Prod.fst gx3_n8, hnew8 md ra cap f]
          exact knew q _ hO n_q
        · have h := hkeep 8 i (hval2 8 i hv (by simp [hin])) (by simp) (by simp)
          have e9 : ga (gx3 g n q la ra2 pq md2 cap2 f2 md ra cap f) 9 i = ga g 9 i := congrArg Prod.fst (gx3_o9 hin)
          have e : ccell cy (gx3 g n q la ra2 pq md2 cap2 f2 md ra cap f) S' 8 i = ccell cy g S' 8 i := by
            show Sum.inr (6, [_, _, _, _, _, Value.ref (ga (gx3 g n q la ra2 pq md2 cap2 f2 md ra cap f) 9 i), _, _, _, _, _, _, _, _, _]) = Sum.inr (6, [_, _, _, _, _, Value.ref (ga g 9 i), _, _, _, _, _, _, _, _, _])
            rw [e9]
          rw [e, show ga (gx3 g n q la ra2 pq md2 cap2 f2 md ra cap f) 8 i = ga g 8 i from congrArg Prod.fst (gx3_o8 hin)]
          exact h
      | 9, hv =>
        by_cases hin : i = n
        · rw [hin]
          rw [show ga (gx3 g n q la ra2 pq md2 cap2 f2 md ra cap f) 9 n = la from congrArg Prod.fst gx3_n9, show ccell cy (gx3 g n q la ra2 pq md2 cap2 f2 md ra cap f) S' 9 n = alC md2 ra2 (S' 67 n) by
            show alC ((gx3 g n q la ra2 pq md2 cap2 f2 md ra cap f) 9 n).2.1 ((gx3 g n q la ra2 pq md2 cap2 f2 md ra cap f) 10 n).1 _ = _
            rw [gx3_n9, gx3_n10], hnew67]
          exact knew la _ hL2 n_la
        · have h := hkeep 9 i (hval2 9 i hv (by simp [hin])) (by simp) (by simp)
          have e : ccell cy (gx3 g n q la ra2 pq md2 cap2 f2 md ra cap f) S' 9 i = ccell cy g S' 9 i := by
            show alC ((gx3 g n q la ra2 pq md2 cap2 f2 md ra cap f) 9 i).2.1 ((gx3 g n q la ra2 pq md2 cap2 f2 md ra cap f) 10 i).1 _ = alC (g 9 i).2.1 (g 10 i).1 _
            rw [gx3_o9 hin, gx3_o10 hin]
          rw [e, show ga (gx3 g n q la ra2 pq md2 cap2 f2 md ra cap f) 9 i = ga g 9 i from congrArg Prod.fst (gx3_o9 hin)]
          exact h
      | 10, hv =>
        by_cases hin : i = n
        · rw [hin]
          rw [show ga (gx3 g n q la ra2 pq md2 cap2 f2 md ra cap f) 10 n = ra2 from congrArg Prod.fst gx3_n10, show ccell cy (gx3 g n q la ra2 pq md2 cap2 f2 md ra cap f) S' 10 n = arO cy cap2 f2 by
            show arO cy ((gx3 g n q la ra2 pq md2 cap2 f2 md ra cap f) 10 n).2.2.1 ((gx3 g n q la ra2 pq md2 cap2 f2 md ra cap f) 10 n).2.2.2 = _
            rw [gx3_n10]]
          exact knew ra2 _ hR2 n_ra2
        · have h := hkeep 10 i (hval2 10 i hv (by simp [hin])) (by simp) (by simp)
          have e : ccell cy (gx3 g n q la ra2 pq md2 cap2 f2 md ra cap f) S' 10 i = ccell cy g S' 10 i := by
            show arO cy ((gx3 g n q la ra2 pq md2 cap2 f2 md ra cap f) 10 i).2.2.1 ((gx3 g n q la ra2 pq md2 cap2 f2 md ra cap f) 10 i).2.2.2 = arO cy (g 10 i).2.2.1 (g 10 i).2.2.2
            rw [gx3_o10 hin]
          rw [e, show ga (gx3 g n q la ra2 pq md2 cap2 f2 md ra cap f) 10 i = ga g 10 i from congrArg Prod.fst (gx3_o10 hin)]
          exact h
      | 11, hv =>
        by_cases hin : i = 64 * n
        · subst hin
          rw [show ga (gx3 g n q la ra2 pq md2 cap2 f2 md ra cap f) 11 (64 * n) = pq from congrArg Prod.fst gx3_n11, show ccell cy (gx3 g n q la ra2 pq md2 cap2 f2 md ra cap f) S' 11 (64 * n) = ccell cy g S' 11 (64 * n) from rfl, hnew11]
          exact knew pq _ hP n_pq
        · have h := hkeep 11 i (hval2 11 i hv (by simp [hin])) (by simp) (by simp)
          rw [show ga (gx3 g n q la ra2 pq md2 cap2 f2 md ra cap f) 11 i = ga g 11 i from congrArg Prod.fst (gx3_o11 hin)]
          exact h
      | 12, hv =>
        by_cases hj : i = 3
        · subst hj
          rw [show ga (gx3 g n q la ra2 pq md2 cap2 f2 md ra cap f) 12 3 = ga g 12 3 by (show ((gx3 g n q la ra2 pq md2 cap2 f2 md ra cap f) 12 3).1 = _); rw [gx3_n12], show ccell cy (gx3 g n q la ra2 pq md2 cap2 f2 md ra cap f) S' 12 3 = alC md ra (S' 28 0) by
            show alC ((gx3 g n q la ra2 pq md2 cap2 f2 md ra cap f) 12 3).2.1 ((gx3 g n q la ra2 pq md2 cap2 f2 md ra cap f) 13 3).1 _ = _
            rw [gx3_n12, gx3_n13]; rfl, hcnt]
          exact h1
        · have h := hkeep 12 i (hval2 12 i hv (by simp)) (by simp [hj]) (by simp)
          have e : ccell cy (gx3 g n q la ra2 pq md2 cap2 f2 md ra cap f) S' 12 i = ccell cy g S' 12 i := by
            show alC ((gx3 g n q la ra2 pq md2 cap2 f2 md ra cap f) 12 i).2.1 ((gx3 g n q la ra2 pq md2 cap2 f2 md ra cap f) 13 i).1 _ = alC (g 12 i).2.1 (g 13 i).1 _
            rw [gx3_o12 hj, gx3_o13 hj]
          rw [e, show ga (gx3 g n q la ra2 pq md2 cap2 f2 md ra cap f) 12 i = ga g 12 i from congrArg Prod.fst (gx3_o12 hj)]
          exact h
      | 13, hv =>
        by_cases hj : i = 3
        · subst hj
          rw [show ga (gx3 g n q la ra2 pq md2 cap2 f2 md ra cap f) 13 3 = ra from congrArg Prod.fst gx3_n13, show ccell cy (gx3 g n q la ra2 pq md2 cap2 f2 md ra cap f) S' 13 3 = arO cy cap f by
            show arO cy ((gx3 g n q la ra2 pq md2 cap2 f2 md ra cap f) 13 3).2.2.1 ((gx3 g n q la ra2 pq md2 cap2 f2 md ra cap f) 13 3).2.2.2 = _
            rw [gx3_n13]]
          exact h2
        · have h := hkeep 13 i (hval2 13 i hv (by simp [hj])) (by simp) (by simp [hj])
          have e : ccell cy (gx3 g n q la ra2 pq md2 cap2 f2 md ra cap f) S' 13 i = ccell cy g S' 13 i := by
            show arO cy ((gx3 g n q la ra2 pq md2 cap2 f2 md ra cap f) 13 i).2.2.1 ((gx3 g n q la ra2 pq md2 cap2 f2 md ra cap f) 13 i).2.2.2 = arO cy (g 13 i).2.2.1 (g 13 i).2.2.2
            rw [gx3_o13 hj]
          rw [e, show ga (gx3 g n q la ra2 pq md2 cap2 f2 md ra cap f) 13 i = ga g 13 i from congrArg Prod.fst (gx3_o13 hj)]
          exact h
      | 14, hv => exact hkeep 14 i (hval2 14 i hv (by simp)) (by simp) (by simp)
      | 15, hv => exact hkeep 15 i (hval2 15 i hv (by simp)) (by simp) (by simp)
      | 16, hv => exact hkeep 16 i (hval2 16 i hv (by simp)) (by simp) (by simp)
      | 17, hv => exact hkeep 17 i (hval2 17 i hv (by simp)) (by simp) (by simp)
      | 18, hv => exact hkeep 18 i (hval2 18 i hv (by simp)) (by simp) (by simp)
      | x + 19, hv => exact hv.elim

end EXT3
