/-! the calls that change one state alone keep the invariant -/
theorem inv_fund {S : St} (h : Inv S) {i j : Nat} {v w : Int32} : Inv (up (up S 2 i v) 3 j w) := by
  refine ⟨h.m.cg rfl rfl rfl rfl rfl rfl rfl rfl rfl rfl rfl rfl rfl rfl, h.k.cg rfl rfl, h.z.cg rfl rfl rfl rfl rfl rfl rfl rfl rfl rfl rfl rfl rfl, h.n.cg rfl rfl, h.p.cg rfl rfl rfl rfl rfl rfl rfl rfl rfl rfl rfl, h.s.cg rfl rfl, h.pd.cg rfl rfl rfl rfl rfl rfl rfl, h.d.cg rfl rfl rfl rfl rfl rfl rfl, h.l.cg rfl rfl, h.pl.cg rfl rfl, h.o.cg rfl rfl rfl, h.t.cg rfl, h.td.cg rfl, h.st.cg rfl rfl, h.g.cg rfl rfl rfl rfl, h.a.cg rfl rfl rfl, h.b.cg rfl, h.am.cg rfl rfl rfl⟩
theorem inv_work {S : St} (h : Inv S) {i j : Nat} {v w : Int32} : Inv (up (up S 49 i v) 50 j w) := by
  refine ⟨h.m.cg rfl rfl rfl rfl rfl rfl rfl rfl rfl rfl rfl rfl rfl rfl, h.k.cg rfl rfl, h.z.cg rfl rfl rfl rfl rfl rfl rfl rfl rfl rfl rfl rfl rfl, h.n.cg rfl rfl, h.p.cg rfl rfl rfl rfl rfl rfl rfl rfl rfl rfl rfl, h.s.cg rfl rfl, h.pd.cg rfl rfl rfl rfl rfl rfl rfl, h.d.cg rfl rfl rfl rfl rfl rfl rfl, h.l.cg rfl rfl, h.pl.cg rfl rfl, h.o.cg rfl rfl rfl, h.t.cg rfl, h.td.cg rfl, h.st.cg rfl rfl, h.g.cg rfl rfl rfl rfl, h.a.cg rfl rfl rfl, h.b.cg rfl, h.am.cg rfl rfl rfl⟩
theorem inv_scheme {S : St} (h : Inv S) {f set by_ : Int32} (hn : nsc S < 8) (hs : ∃ n, 0 < n ∧ n < 65536 ∧ set = nI n) : Inv (up (up (up (up (up S 8 (nsc S) f) 9 (nsc S) set) 10 (nsc S) by_) 11 (nsc S) 1) 7 0 ((S 7 0) + 1)) := by
  refine ⟨?m, h.k.cg rfl rfl, ?z, h.n.cg rfl rfl, h.p.cg rfl rfl rfl rfl rfl rfl rfl rfl rfl rfl rfl, ?s, h.pd.cg rfl rfl rfl rfl rfl rfl rfl, ?d, ?l, h.pl.cg rfl rfl, h.o.cg rfl rfl rfl, h.t.cg rfl, h.td.cg rfl, h.st.cg rfl rfl, h.g.cg rfl rfl rfl rfl, h.a.cg rfl rfl rfl, h.b.cg rfl, h.am.cg rfl rfl rfl⟩
  case m =>
    obtain ⟨c1, c2⟩ := cnt_up (S := S) (S' := up (up (up (up (up S 8 (nsc S) f) 9 (nsc S) set) 10 (nsc S) by_) 11 (nsc S) 1) 7 0 ((S 7 0) + 1)) (r := 7) rfl h.m.n7 (by omega)
    have hm := h.m
    refine ⟨cnt_m c1 (by omega) (by decide), hm.2.1, hm.2.2.1, hm.2.2.2.1, hm.2.2.2.2.1, hm.2.2.2.2.2.1, hm.2.2.2.2.2.2.1, hm.2.2.2.2.2.2.2.1, hm.2.2.2.2.2.2.2.2.1, hm.2.2.2.2.2.2.2.2.2.1, ?_, hm.2.2.2.2.2.2.2.2.2.2.2.1, hm.2.2.2.2.2.2.2.2.2.2.2.2.1, hm.2.2.2.2.2.2.2.2.2.2.2.2.2⟩
    intro i hi
    show ¬ upd (S 11) (nsc S) 1 i = 0
    by_cases e : i = nsc S
    · rw [e, upd_at]; decide
    · rw [upd_off e]
      exact hm.lk i (by have : i < nsc S + 1 := c2 ▸ hi; omega)
  case z =>
    obtain ⟨c1, c2⟩ := cnt_up (S := S) (S' := up (up (up (up (up S 8 (nsc S) f) 9 (nsc S) set) 10 (nsc S) by_) 11 (nsc S) 1) 7 0 ((S 7 0) + 1)) (r := 7) rfl h.m.n7 (by omega)
    exact ⟨fun i hi => h.z.1 i (by have : nsc S + 1 ≤ i := c2 ▸ hi; omega), h.z.2⟩
  case s =>
    obtain ⟨c1, c2⟩ := cnt_up (S := S) (S' := up (up (up (up (up S 8 (nsc S) f) 9 (nsc S) set) 10 (nsc S) by_) 11 (nsc S) 1) 7 0 ((S 7 0) + 1)) (r := 7) rfl h.m.n7 (by omega)
    intro a ha
    have ha2 : a < nsc S + 1 := c2 ▸ ha
    show ∃ n, 0 < n ∧ n < 65536 ∧ upd (S 9) (nsc S) set a = nI n
    by_cases e : a = nsc S
    · rw [e, upd_at]; exact hs
    · rw [upd_off e]; exact h.s a (by omega)
  case d =>
    obtain ⟨c1, c2⟩ := cnt_up (S := S) (S' := up (up (up (up (up S 8 (nsc S) f) 9 (nsc S) set) 10 (nsc S) by_) 11 (nsc S) 1) 7 0 ((S 7 0) + 1)) (r := 7) rfl h.m.n7 (by omega)
    refine ⟨h.d.1, h.d.2.1, fun c hc => ?_⟩
    have h3 : ix (S 16 c) < nsc S := h.d.2.2 c hc
    refine Nat.lt_of_lt_of_eq ?_ c2.symm
    show ix (S 16 c) < nsc S + 1
    omega
  case l =>
    obtain ⟨c1, c2⟩ := cnt_up (S := S) (S' := up (up (up (up (up S 8 (nsc S) f) 9 (nsc S) set) 10 (nsc S) by_) 11 (nsc S) 1) 7 0 ((S 7 0) + 1)) (r := 7) rfl h.m.n7 (by omega)
    intro a ha
    have ha2 : a < nsc S + 1 := c2 ▸ ha
    show (1 : Int32) ≤ upd (S 11) (nsc S) 1 a
    by_cases e : a = nsc S
    · rw [e, upd_at]; decide
    · rw [upd_off e]; exact h.l a (by omega)
theorem inv_claim {S : St} (h : Inv S) {s_ much : Int32} (hn : ncl S < 40) (hs : vp_in s_ (nsc S)) : Inv (up (up (up (up (up S 16 (ncl S) s_) 17 (ncl S) much) 18 (ncl S) (S 1 0)) 19 (ncl S) (-1)) 15 0 ((S 15 0) + 1)) := by
  refine ⟨?m, h.k.cg rfl rfl, h.z.cg rfl rfl rfl rfl rfl rfl rfl rfl rfl rfl rfl rfl rfl, h.n.cg rfl rfl, h.p.cg rfl rfl rfl rfl rfl rfl rfl rfl rfl rfl rfl, h.s.cg rfl rfl, h.pd.cg rfl rfl rfl rfl rfl rfl rfl, ?d, h.l.cg rfl rfl, h.pl.cg rfl rfl, h.o.cg rfl rfl rfl, h.t.cg rfl, h.td.cg rfl, h.st.cg rfl rfl, h.g.cg rfl rfl rfl rfl, h.a.cg rfl rfl rfl, h.b.cg rfl, h.am.cg rfl rfl rfl⟩
  case m =>
    obtain ⟨c1, c2⟩ := cnt_up (S := S) (S' := up (up (up (up (up S 16 (ncl S) s_) 17 (ncl S) much) 18 (ncl S) (S 1 0)) 19 (ncl S) (-1)) 15 0 ((S 15 0) + 1)) (r := 15) rfl h.m.n15 (by omega)
    have hm := h.m
    refine ⟨hm.1, cnt_m c1 (by omega) (by decide), hm.2.2.1, hm.2.2.2.1, hm.2.2.2.2.1, upd_all (P := fun x => vp_in x 8) hm.2.2.2.2.2.1 (vp_mono hs hm.b7) _, hm.2.2.2.2.2.2.1, hm.2.2.2.2.2.2.2.1, hm.2.2.2.2.2.2.2.2.1, hm.2.2.2.2.2.2.2.2.2.1, hm.2.2.2.2.2.2.2.2.2.2.1, hm.2.2.2.2.2.2.2.2.2.2.2.1, hm.2.2.2.2.2.2.2.2.2.2.2.2.1, hm.2.2.2.2.2.2.2.2.2.2.2.2.2⟩
  case d =>
    obtain ⟨c1, c2⟩ := cnt_up (S := S) (S' := up (up (up (up (up S 16 (ncl S) s_) 17 (ncl S) much) 18 (ncl S) (S 1 0)) 19 (ncl S) (-1)) 15 0 ((S 15 0) + 1)) (r := 15) rfl h.m.n15 (by omega)
    refine ⟨h.d.1, fun c hc => ?_, fun c hc => ?_⟩
    · have hc2 : c < ncl S + 1 := c2 ▸ hc
      show dayR (upd (S 18) (ncl S) (S 1 0) c)
      by_cases e : c = ncl S
      · rw [e, upd_at]; exact h.td
      · rw [upd_off e]; exact h.d.2.1 c (by omega)
    · have hc2 : c < ncl S + 1 := c2 ▸ hc
      show ix (upd (S 16) (ncl S) s_ c) < nsc S
      by_cases e : c = ncl S
      · rw [e, upd_at]; exact vp_ixl hs
      · rw [upd_off e]; exact h.d.2.2 c (by omega)
theorem inv_sample {S : St} (h : Inv S) {a : Nat} {many bad : Int32} (ha : a < nsc S) (hm1 : (1 : Int32) ≤ many) : Inv (up (up S 11 a many) 12 a bad) := by
  refine ⟨?m, h.k.cg rfl rfl, ?z, h.n.cg rfl rfl, h.p.cg rfl rfl rfl rfl rfl rfl rfl rfl rfl rfl rfl, h.s.cg rfl rfl, h.pd.cg rfl rfl rfl rfl rfl rfl rfl, h.d.cg rfl rfl rfl rfl rfl rfl rfl, ?l, h.pl.cg rfl rfl, h.o.cg rfl rfl rfl, h.t.cg rfl, h.td.cg rfl, h.st.cg rfl rfl, h.g.cg rfl rfl rfl rfl, h.a.cg rfl rfl rfl, h.b.cg rfl, h.am.cg rfl rfl rfl⟩
  case m =>
    have hm := h.m
    refine ⟨hm.1, hm.2.1, hm.2.2.1, hm.2.2.2.1, hm.2.2.2.2.1, hm.2.2.2.2.2.1, hm.2.2.2.2.2.2.1, hm.2.2.2.2.2.2.2.1, hm.2.2.2.2.2.2.2.2.1, hm.2.2.2.2.2.2.2.2.2.1, ?_, hm.2.2.2.2.2.2.2.2.2.2.2.1, hm.2.2.2.2.2.2.2.2.2.2.2.2.1, hm.2.2.2.2.2.2.2.2.2.2.2.2.2⟩
    intro i hi
    show ¬ upd (S 11) a many i = 0
    by_cases e : i = a
    · rw [e, upd_at]; exact nz_le hm1
    · rw [upd_off e]; exact hm.lk i hi
  case z =>
    refine ⟨fun i hi => ?_, h.z.2⟩
    have hi2 : nsc S ≤ i := hi
    have e : upd (S 12) a bad i = S 12 i := upd_off (by omega)
    exact ⟨e.trans (h.z.1 i hi2).1, (h.z.1 i hi2).2⟩
  case l =>
    intro i hi
    show (1 : Int32) ≤ upd (S 11) a many i
    by_cases e : i = a
    · rw [e, upd_at]; exact hm1
    · rw [upd_off e]; exact h.l i hi
theorem inv_learn {S : St} (h : Inv S) {a : Nat} {v : Int32} (hv : set16 v) : Inv (up S 21 a v) := by
  refine ⟨h.m.cg rfl rfl rfl rfl rfl rfl rfl rfl rfl rfl rfl rfl rfl rfl, h.k.cg rfl rfl, h.z.cg rfl rfl rfl rfl rfl rfl rfl rfl rfl rfl rfl rfl rfl, h.n.cg rfl rfl, h.p.cg rfl rfl rfl rfl rfl rfl rfl rfl rfl rfl rfl, h.s.cg rfl rfl, h.pd.cg rfl rfl rfl rfl rfl rfl rfl, h.d.cg rfl rfl rfl rfl rfl rfl rfl, h.l.cg rfl rfl, h.pl.cg rfl rfl, h.o.cg rfl rfl rfl, h.t.cg rfl, h.td.cg rfl, h.st.cg rfl rfl, h.g.cg rfl rfl rfl rfl, h.a.cg rfl rfl rfl, ?b, h.am.cg rfl rfl rfl⟩
  case b =>
    intro t ht
    show set16 (upd (S 21) a v t)
    by_cases e : t = a
    · rw [e, upd_at]; exact hv
    · rw [upd_off e]; exact h.b t ht
theorem inv_publish {S : St} (h : Inv S) {a : Nat} {v : Int32} : Inv (up S 20 a v) := by
  refine ⟨h.m.cg rfl rfl rfl rfl rfl rfl rfl rfl rfl rfl rfl rfl rfl rfl, h.k.cg rfl rfl, h.z.cg rfl rfl rfl rfl rfl rfl rfl rfl rfl rfl rfl rfl rfl, h.n.cg rfl rfl, h.p.cg rfl rfl rfl rfl rfl rfl rfl rfl rfl rfl rfl, h.s.cg rfl rfl, h.pd.cg rfl rfl rfl rfl rfl rfl rfl, h.d.cg rfl rfl rfl rfl rfl rfl rfl, h.l.cg rfl rfl, h.pl.cg rfl rfl, h.o.cg rfl rfl rfl, h.t.cg rfl, h.td.cg rfl, h.st.cg rfl rfl, h.g.cg rfl rfl rfl rfl, h.a.cg rfl rfl rfl, h.b.cg rfl, h.am.cg rfl rfl rfl⟩
theorem inv_know {S : St} (h : Inv S) {a : Nat} {v : Int32} (ha : a < nsc S) : Inv (up S 13 a v) := by
  refine ⟨h.m.cg rfl rfl rfl rfl rfl rfl rfl rfl rfl rfl rfl rfl rfl rfl, h.k.cg rfl rfl, ?z, h.n.cg rfl rfl, h.p.cg rfl rfl rfl rfl rfl rfl rfl rfl rfl rfl rfl, h.s.cg rfl rfl, h.pd.cg rfl rfl rfl rfl rfl rfl rfl, h.d.cg rfl rfl rfl rfl rfl rfl rfl, h.l.cg rfl rfl, h.pl.cg rfl rfl, h.o.cg rfl rfl rfl, h.t.cg rfl, h.td.cg rfl, h.st.cg rfl rfl, h.g.cg rfl rfl rfl rfl, h.a.cg rfl rfl rfl, h.b.cg rfl, h.am.cg rfl rfl rfl⟩
  case z =>
    refine ⟨fun i hi => ?_, h.z.2⟩
    have hi2 : nsc S ≤ i := hi
    have e : upd (S 13) a v i = S 13 i := upd_off (by omega)
    exact ⟨(h.z.1 i hi2).1, e.trans (h.z.1 i hi2).2.1, (h.z.1 i hi2).2.2⟩
theorem inv_admit {S : St} (h : Inv S) {a : Nat} (ha : a < nsc S) : Inv (up S 14 a 1) := by
  refine ⟨?m, h.k.cg rfl rfl, ?z, h.n.cg rfl rfl, h.p.cg rfl rfl rfl rfl rfl rfl rfl rfl rfl rfl rfl, h.s.cg rfl rfl, h.pd.cg rfl rfl rfl rfl rfl rfl rfl, h.d.cg rfl rfl rfl rfl rfl rfl rfl, h.l.cg rfl rfl, h.pl.cg rfl rfl, h.o.cg rfl rfl rfl, h.t.cg rfl, h.td.cg rfl, h.st.cg rfl rfl, h.g.cg rfl rfl rfl rfl, h.a.cg rfl rfl rfl, h.b.cg rfl, h.am.cg rfl rfl rfl⟩
  case m =>
    have hm := h.m
    exact ⟨hm.1, hm.2.1, hm.2.2.1, hm.2.2.2.1, hm.2.2.2.2.1, hm.2.2.2.2.2.1, hm.2.2.2.2.2.2.1, hm.2.2.2.2.2.2.2.1, hm.2.2.2.2.2.2.2.2.1, hm.2.2.2.2.2.2.2.2.2.1, hm.2.2.2.2.2.2.2.2.2.2.1, upd_all (P := bz) hm.2.2.2.2.2.2.2.2.2.2.2.1 (Or.inr rfl) a, hm.2.2.2.2.2.2.2.2.2.2.2.2.1, hm.2.2.2.2.2.2.2.2.2.2.2.2.2⟩
  case z =>
    refine ⟨fun i hi => ?_, h.z.2⟩
    have hi2 : nsc S ≤ i := hi
    have e : upd (S 14) a 1 i = S 14 i := upd_off (by omega)
    exact ⟨(h.z.1 i hi2).1, (h.z.1 i hi2).2.1, e.trans (h.z.1 i hi2).2.2.1, (h.z.1 i hi2).2.2.2⟩
theorem inv_extend {S : St} (h : Inv S) {k : Nat} (hk : k < nsu S) (h4 : ¬ S 37 k = 4) : Inv (up (up S 37 k (S 37 k + 1)) 36 k (S 36 k + 30)) := by
  refine ⟨h.m.cg rfl rfl rfl rfl rfl rfl rfl rfl rfl rfl rfl rfl rfl rfl, h.k.cg rfl rfl, ?z, h.n.cg rfl rfl, h.p.cg rfl rfl rfl rfl rfl rfl rfl rfl rfl rfl rfl, h.s.cg rfl rfl, h.pd.cg rfl rfl rfl rfl rfl rfl rfl, h.d.cg rfl rfl rfl rfl rfl rfl rfl, h.l.cg rfl rfl, h.pl.cg rfl rfl, ?o, h.t.cg rfl, h.td.cg rfl, h.st.cg rfl rfl, h.g.cg rfl rfl rfl rfl, h.a.cg rfl rfl rfl, h.b.cg rfl, h.am.cg rfl rfl rfl⟩
  case z =>
    refine ⟨h.z.1, fun i hi => ?_⟩
    have hi2 : nsu S ≤ i := hi
    obtain ⟨z34, z35, z37, z38, z39, z40, z41⟩ := h.z.2 i hi2
    exact ⟨z34, z35, (upd_off (by omega : i ≠ k)).trans z37, z38, z39, z40, z41⟩
  case o =>
    intro q hq
    have hq2 : q < nsu S := hq
    show ∃ n m, m ≤ 4 ∧ n ≤ 3060 + 30 * m ∧ upd (S 36) k (S 36 k + 30) q = nI n ∧ upd (S 37) k (S 37 k + 1) q = nI m
    by_cases e : q = k
    · rw [e, upd_at, upd_at]
      obtain ⟨n, m, hm, hn, e1, e2⟩ := h.o k hk
      have hm2 : m < 4 := ne_ix e2 hm h4 (by decide) (by decide)
      exact ⟨n + 30, m + 1, by omega, by omega, by rw [e1, show (30 : Int32) = nI 30 by decide, nI_add], by rw [e2, show (1 : Int32) = nI 1 by decide, nI_add]⟩
    · rw [upd_off e, upd_off e]
      exact h.o q hq2
theorem inv_choose {S : St} (h : Inv S) {k : Nat} {what x v : Int32} (hk : k < nsu S) (hw : ∃ n, n ≤ 4 ∧ what = nI n) (hx : bz x) (hv : v = S 36 k ∨ v = S 1 0) : Inv (up (up (up S 34 k what) 35 k x) 36 k v) := by
  refine ⟨?m, h.k.cg rfl rfl, ?z, h.n.cg rfl rfl, h.p.cg rfl rfl rfl rfl rfl rfl rfl rfl rfl rfl rfl, h.s.cg rfl rfl, h.pd.cg rfl rfl rfl rfl rfl rfl rfl, h.d.cg rfl rfl rfl rfl rfl rfl rfl, h.l.cg rfl rfl, h.pl.cg rfl rfl, ?o, h.t.cg rfl, h.td.cg rfl, ?st, h.g.cg rfl rfl rfl rfl, h.a.cg rfl rfl rfl, h.b.cg rfl, h.am.cg rfl rfl rfl⟩
  case m =>
    have hm := h.m
    exact ⟨hm.1, hm.2.1, hm.2.2.1, hm.2.2.2.1, hm.2.2.2.2.1, hm.2.2.2.2.2.1, hm.2.2.2.2.2.2.1, hm.2.2.2.2.2.2.2.1, hm.2.2.2.2.2.2.2.2.1, hm.2.2.2.2.2.2.2.2.2.1, hm.2.2.2.2.2.2.2.2.2.2.1, hm.2.2.2.2.2.2.2.2.2.2.2.1, upd_all (P := bz) hm.2.2.2.2.2.2.2.2.2.2.2.2.1 hx k, hm.2.2.2.2.2.2.2.2.2.2.2.2.2⟩
  case z =>
    refine ⟨h.z.1, fun i hi => ?_⟩
    have hi2 : nsu S ≤ i := hi
    obtain ⟨z34, z35, z37, z38, z39, z40, z41⟩ := h.z.2 i hi2
    exact ⟨(upd_off (by omega : i ≠ k)).trans z34, (upd_off (by omega : i ≠ k)).trans z35, z37, z38, z39, z40, z41⟩
  case o =>
    intro q hq
    have hq2 : q < nsu S := hq
    show ∃ n m, m ≤ 4 ∧ n ≤ 3060 + 30 * m ∧ upd (S 36) k v q = nI n ∧ S 37 q = nI m
    by_cases e : q = k
    · rw [e, upd_at]
      rcases hv with hv | hv
      · rw [hv]; exact h.o k hk
      · obtain ⟨n, m, hm, hn, e1, e2⟩ := h.o k hk
        obtain ⟨d, hd, ed⟩ := h.td
        exact ⟨d, m, hm, by omega, hv.trans ed, e2⟩
    · rw [upd_off e]
      exact h.o q hq2
  case st =>
    intro q hq
    have hq2 : q < nsu S := hq
    show ∃ n, n ≤ 4 ∧ upd (S 34) k what q = nI n
    by_cases e : q = k
    · rw [e, upd_at]; exact hw
    · rw [upd_off e]; exact h.st q hq2
theorem inv_help {S : St} (h : Inv S) {k : Nat} {v : Int32} (hk : k < nsu S) : Inv (up S 38 k v) := by
  refine ⟨h.m.cg rfl rfl rfl rfl rfl rfl rfl rfl rfl rfl rfl rfl rfl rfl, h.k.cg rfl rfl, ?z, h.n.cg rfl rfl, h.p.cg rfl rfl rfl rfl rfl rfl rfl rfl rfl rfl rfl, h.s.cg rfl rfl, h.pd.cg rfl rfl rfl rfl rfl rfl rfl, h.d.cg rfl rfl rfl rfl rfl rfl rfl, h.l.cg rfl rfl, h.pl.cg rfl rfl, h.o.cg rfl rfl rfl, h.t.cg rfl, h.td.cg rfl, h.st.cg rfl rfl, h.g.cg rfl rfl rfl rfl, h.a.cg rfl rfl rfl, h.b.cg rfl, h.am.cg rfl rfl rfl⟩
  case z =>
    refine ⟨h.z.1, fun i hi => ?_⟩
    have hi2 : nsu S ≤ i := hi
    obtain ⟨z34, z35, z37, z38, z39, z40, z41⟩ := h.z.2 i hi2
    exact ⟨z34, z35, z37, (upd_off (by omega : i ≠ k)).trans z38, z39, z40, z41⟩
theorem inv_tell {S : St} (h : Inv S) {q : Nat} : Inv (up S 51 q (S 1 0)) := by
  refine ⟨h.m.cg rfl rfl rfl rfl rfl rfl rfl rfl rfl rfl rfl rfl rfl rfl, h.k.cg rfl rfl, h.z.cg rfl rfl rfl rfl rfl rfl rfl rfl rfl rfl rfl rfl rfl, h.n.cg rfl rfl, h.p.cg rfl rfl rfl rfl rfl rfl rfl rfl rfl rfl rfl, h.s.cg rfl rfl, h.pd.cg rfl rfl rfl rfl rfl rfl rfl, h.d.cg rfl rfl rfl rfl rfl rfl rfl, h.l.cg rfl rfl, h.pl.cg rfl rfl, h.o.cg rfl rfl rfl, ?t, h.td.cg rfl, h.st.cg rfl rfl, h.g.cg rfl rfl rfl rfl, h.a.cg rfl rfl rfl, h.b.cg rfl, h.am.cg rfl rfl rfl⟩
  case t =>
    intro q2 hq
    show upd (S 51) q (S 1 0) q2 = -1 ∨ dayR (upd (S 51) q (S 1 0) q2)
    by_cases e : q2 = q
    · rw [e, upd_at]; exact Or.inr h.td
    · rw [upd_off e]; exact h.t q2 hq
theorem inv_pass {S : St} (h : Inv S) {v : Int32} (hv : dayR v) (hle : S 1 0 ≤ v) : Inv (up S 1 0 v) := by
  refine ⟨h.m.cg rfl rfl rfl rfl rfl rfl rfl rfl rfl rfl rfl rfl rfl rfl, h.k.cg rfl rfl, h.z.cg rfl rfl rfl rfl rfl rfl rfl rfl rfl rfl rfl rfl rfl, h.n.cg rfl rfl, h.p.cg rfl rfl rfl rfl rfl rfl rfl rfl rfl rfl rfl, h.s.cg rfl rfl, ?pd, h.d.cg rfl rfl rfl rfl rfl rfl rfl, h.l.cg rfl rfl, h.pl.cg rfl rfl, h.o.cg rfl rfl rfl, h.t.cg rfl, ?td, h.st.cg rfl rfl, h.g.cg rfl rfl rfl rfl, h.a.cg rfl rfl rfl, h.b.cg rfl, h.am.cg rfl rfl rfl⟩
  case pd =>
    exact ⟨⟨h.pd.1.1, h.pd.1.2.1, fun i hi => Int32.le_trans (h.pd.1.2.2 i hi) hle⟩, h.pd.2⟩
  case td =>
    exact hv
