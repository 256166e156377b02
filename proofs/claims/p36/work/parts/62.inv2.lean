/-! the calls after which the class and the reference differ in rows of their own keep the invariant -/
theorem or_bit (u t j : Nat) : (u ||| 2 ^ t).testBit j = (u.testBit j || decide (t = j)) := by
  rw [Nat.testBit_or, Nat.testBit_two_pow]
theorem ix_or {x : Int32} {n : Nat} (hx : set16 x) (hn : n < 16) : ix (x ||| nI (2 ^ n)) = ix x ||| 2 ^ n := by
  obtain ⟨m, hm, rfl⟩ := hx
  have h2 : 2 ^ n < 2 ^ 16 := Nat.pow_lt_pow_right (by decide) hn
  have h3 : m ||| 2 ^ n < 2 ^ 16 := Nat.or_lt_two_pow hm h2
  rw [nI_or, show ix (nI (m ||| 2 ^ n)) = m ||| 2 ^ n from nI_clamp (by omega), show ix (nI m) = m from nI_clamp (by omega)]
theorem set16_pow {n : Nat} (hn : n < 16) : set16 (nI (2 ^ n)) := ⟨2 ^ n, Nat.pow_lt_pow_right (by decide) hn, rfl⟩
theorem inv_plan {S : St} (h : Inv S) {a t : Nat} (ha : a < nsc S) (ht : t < 8) {v w : Int32} (ev : v = S 22 t ||| nI (2 ^ a)) (ew : w = S 61 a ||| nI (2 ^ t)) : Inv (mrg (up S 22 t v) (up S 61 a w)) := by
  refine ⟨h.m.cg rfl rfl rfl rfl rfl rfl rfl rfl rfl rfl rfl rfl rfl rfl, h.k.cg rfl rfl, ?z, h.n.cg rfl rfl, h.p.cg rfl rfl rfl rfl rfl rfl rfl rfl rfl rfl rfl, h.s.cg rfl rfl, h.pd.cg rfl rfl rfl rfl rfl rfl rfl, h.d.cg rfl rfl rfl rfl rfl rfl rfl, h.l.cg rfl rfl, ?pl, h.o.cg rfl rfl rfl, h.t.cg rfl, h.td.cg rfl, h.st.cg rfl rfl, h.g.cg rfl rfl rfl rfl, h.a.cg rfl rfl rfl, h.b.cg rfl, h.am.cg rfl rfl rfl⟩
  case z =>
    refine ⟨fun i hi => ?_, h.z.2⟩
    have hi2 : nsc S ≤ i := hi
    have e : upd (S 61) a w i = S 61 i := upd_off (by omega)
    exact ⟨(h.z.1 i hi2).1, (h.z.1 i hi2).2.1, (h.z.1 i hi2).2.2.1, e.trans (h.z.1 i hi2).2.2.2⟩
  case pl =>
    have ha8 : a < 8 := Nat.lt_of_lt_of_le ha h.m.b7
    refine ⟨?_, ?_, ?_⟩
    · intro q hq
      show set16 (upd (S 22) t v q)
      by_cases e : q = t
      · rw [e, upd_at, ev]; exact set16_or (h.pl.1 t ht) (set16_pow (by omega))
      · rw [upd_off e]; exact h.pl.1 q hq
    · intro q hq
      show set16 (upd (S 61) a w q)
      by_cases e : q = a
      · rw [e, upd_at, ew]; exact set16_or (h.pl.2.1 a ha8) (set16_pow (by omega))
      · rw [upd_off e]; exact h.pl.2.1 q hq
    · intro x hx y hy
      show (ix (upd (S 61) a w x)).testBit y = (ix (upd (S 22) t v y)).testBit x
      have e0 := h.pl.2.2 x hx y hy
      by_cases e1 : x = a
      · by_cases e2 : y = t
        · rw [e1, e2, upd_at, upd_at, ev, ew, ix_or (h.pl.1 t ht) (by omega), ix_or (h.pl.2.1 a ha8) (by omega), or_bit, or_bit, decide_eq_true rfl, decide_eq_true rfl, Bool.or_true, Bool.or_true]
        · rw [e1, upd_at, upd_off e2, ew, ix_or (h.pl.2.1 a ha8) (by omega), or_bit, decide_eq_false (fun q => e2 q.symm), Bool.or_false, ← e1]
          exact e0
      · by_cases e2 : y = t
        · rw [e2, upd_at, upd_off e1, ev, ix_or (h.pl.1 t ht) (by omega), or_bit, decide_eq_false (fun q => e1 q.symm), Bool.or_false, ← e2]
          exact e0
        · rw [upd_off e1, upd_off e2]
          exact e0
theorem inv_deal {S : St} (h : Inv S) {a : Nat} {t o_ much : Int32} (hn : ndl S < 20) (ha : a < 8) (ht : t = nI a) (ho : vp_in o_ 8) : Inv (mrg (up (up (up (up (up S 24 (ndl S) t) 25 (ndl S) o_) 26 (ndl S) much) 27 (ndl S) (S 1 0)) 23 0 ((S 23 0) + 1)) (up (up (up (up (up (up S 24 (ndl S) t) 25 (ndl S) o_) 26 (ndl S) much) 27 (ndl S) (S 1 0)) 23 0 ((S 23 0) + 1)) 60 a (S 60 a + much))) := by
  refine ⟨?m, h.k.cg rfl rfl, h.z.cg rfl rfl rfl rfl rfl rfl rfl rfl rfl rfl rfl rfl rfl, h.n.cg rfl rfl, h.p.cg rfl rfl rfl rfl rfl rfl rfl rfl rfl rfl rfl, h.s.cg rfl rfl, h.pd.cg rfl rfl rfl rfl rfl rfl rfl, h.d.cg rfl rfl rfl rfl rfl rfl rfl, h.l.cg rfl rfl, h.pl.cg rfl rfl, h.o.cg rfl rfl rfl, h.t.cg rfl, h.td.cg rfl, h.st.cg rfl rfl, ?g, h.a.cg rfl rfl rfl, h.b.cg rfl, h.am.cg rfl rfl rfl⟩
  case m =>
    obtain ⟨c1, c2⟩ := cnt_up (S := S) (S' := mrg (up (up (up (up (up S 24 (ndl S) t) 25 (ndl S) o_) 26 (ndl S) much) 27 (ndl S) (S 1 0)) 23 0 ((S 23 0) + 1)) (up (up (up (up (up (up S 24 (ndl S) t) 25 (ndl S) o_) 26 (ndl S) much) 27 (ndl S) (S 1 0)) 23 0 ((S 23 0) + 1)) 60 a (S 60 a + much))) (r := 23) rfl h.m.n23 (by omega)
    have hm := h.m
    exact ⟨hm.1, hm.2.1, cnt_m c1 (by omega) (by decide), hm.2.2.2.1, hm.2.2.2.2.1, hm.2.2.2.2.2.1, upd_all (P := fun x => vp_in x 8) hm.2.2.2.2.2.2.1 (by rw [ht]; exact vp_in_nI ha (by decide)) _, upd_all (P := fun x => vp_in x 8) hm.2.2.2.2.2.2.2.1 ho _, hm.2.2.2.2.2.2.2.2⟩
  case g =>
    obtain ⟨c1, c2⟩ := cnt_up (S := S) (S' := mrg (up (up (up (up (up S 24 (ndl S) t) 25 (ndl S) o_) 26 (ndl S) much) 27 (ndl S) (S 1 0)) 23 0 ((S 23 0) + 1)) (up (up (up (up (up (up S 24 (ndl S) t) 25 (ndl S) o_) 26 (ndl S) much) 27 (ndl S) (S 1 0)) 23 0 ((S 23 0) + 1)) 60 a (S 60 a + much))) (r := 23) rfl h.m.n23 (by omega)
    intro q hq
    show upd (S 60) a (S 60 a + much) q = gsum (mrg (up (up (up (up (up S 24 (ndl S) t) 25 (ndl S) o_) 26 (ndl S) much) 27 (ndl S) (S 1 0)) 23 0 ((S 23 0) + 1)) (up (up (up (up (up (up S 24 (ndl S) t) 25 (ndl S) o_) 26 (ndl S) much) 27 (ndl S) (S 1 0)) 23 0 ((S 23 0) + 1)) 60 a (S 60 a + much))) (nI q) (ix ((mrg (up (up (up (up (up S 24 (ndl S) t) 25 (ndl S) o_) 26 (ndl S) much) 27 (ndl S) (S 1 0)) 23 0 ((S 23 0) + 1)) (up (up (up (up (up (up S 24 (ndl S) t) 25 (ndl S) o_) 26 (ndl S) much) 27 (ndl S) (S 1 0)) 23 0 ((S 23 0) + 1)) 60 a (S 60 a + much))) 23 0))
    rw [show ix ((mrg (up (up (up (up (up S 24 (ndl S) t) 25 (ndl S) o_) 26 (ndl S) much) 27 (ndl S) (S 1 0)) 23 0 ((S 23 0) + 1)) (up (up (up (up (up (up S 24 (ndl S) t) 25 (ndl S) o_) 26 (ndl S) much) 27 (ndl S) (S 1 0)) 23 0 ((S 23 0) + 1)) 60 a (S 60 a + much))) 23 0) = ndl S + 1 from c2]
    show _ = gsum (mrg (up (up (up (up (up S 24 (ndl S) t) 25 (ndl S) o_) 26 (ndl S) much) 27 (ndl S) (S 1 0)) 23 0 ((S 23 0) + 1)) (up (up (up (up (up (up S 24 (ndl S) t) 25 (ndl S) o_) 26 (ndl S) much) 27 (ndl S) (S 1 0)) 23 0 ((S 23 0) + 1)) 60 a (S 60 a + much))) (nI q) (ndl S) + (if upd (S 24) (ndl S) t (ndl S) = nI q then upd (S 26) (ndl S) much (ndl S) else 0)
    rw [upd_at, upd_at, gsum_congr (S := S) (S' := mrg (up (up (up (up (up S 24 (ndl S) t) 25 (ndl S) o_) 26 (ndl S) much) 27 (ndl S) (S 1 0)) 23 0 ((S 23 0) + 1)) (up (up (up (up (up (up S 24 (ndl S) t) 25 (ndl S) o_) 26 (ndl S) much) 27 (ndl S) (S 1 0)) 23 0 ((S 23 0) + 1)) 60 a (S 60 a + much))) _ (fun i hi => ⟨upd_off (by omega), upd_off (by omega)⟩), ← h.g q hq, ht]
    by_cases e : q = a
    · rw [e, upd_at, if_pos rfl]
    · rw [upd_off e, if_neg (fun x => e ((nI_eq (by omega) (by omega)).mp x).symm), Int32.add_zero]
theorem inv_fire {S : St} (h : Inv S) {i q : Nat} {x a b c w : Int32} (hb : bz b) (ha : dayR a) (hc : c = if b = 0 then -1 else a) : Inv (mrg (up (up (up (up S 49 i x) 52 q a) 53 q w) 54 q b) (up (up (up S 62 q c) 53 q w) 49 i x)) := by
  refine ⟨?m, h.k.cg rfl rfl, h.z.cg rfl rfl rfl rfl rfl rfl rfl rfl rfl rfl rfl rfl rfl, h.n.cg rfl rfl, h.p.cg rfl rfl rfl rfl rfl rfl rfl rfl rfl rfl rfl, h.s.cg rfl rfl, h.pd.cg rfl rfl rfl rfl rfl rfl rfl, h.d.cg rfl rfl rfl rfl rfl rfl rfl, h.l.cg rfl rfl, h.pl.cg rfl rfl, h.o.cg rfl rfl rfl, h.t.cg rfl, h.td.cg rfl, h.st.cg rfl rfl, h.g.cg rfl rfl rfl rfl, ?a, h.b.cg rfl, h.am.cg rfl rfl rfl⟩
  case m =>
    have hm := h.m
    exact ⟨hm.1, hm.2.1, hm.2.2.1, hm.2.2.2.1, hm.2.2.2.2.1, hm.2.2.2.2.2.1, hm.2.2.2.2.2.2.1, hm.2.2.2.2.2.2.2.1, hm.2.2.2.2.2.2.2.2.1, hm.2.2.2.2.2.2.2.2.2.1, hm.2.2.2.2.2.2.2.2.2.2.1, hm.2.2.2.2.2.2.2.2.2.2.2.1, hm.2.2.2.2.2.2.2.2.2.2.2.2.1, upd_all (P := bz) hm.2.2.2.2.2.2.2.2.2.2.2.2.2 hb q⟩
  case a =>
    intro z hz
    show upd (S 62) q c z = (if upd (S 54) q b z = 0 then -1 else upd (S 52) q a z) ∧ (¬ upd (S 54) q b z = 0 → dayR (upd (S 52) q a z))
    by_cases e : z = q
    · rw [e, upd_at, upd_at, upd_at]; exact ⟨hc, fun _ => ha⟩
    · rw [upd_off e, upd_off e, upd_off e]; exact h.a z hz
theorem inv_award {S : St} (h : Inv S) {i j q : Nat} {v w x : Int32} : Inv (mrg (up (up (up (up S 54 q 0) 2 i v) 5 i w) 48 j x) (up (up (up (up S 62 q (-1)) 2 i v) 5 i w) 48 j x)) := by
  refine ⟨?m, h.k.cg rfl rfl, h.z.cg rfl rfl rfl rfl rfl rfl rfl rfl rfl rfl rfl rfl rfl, h.n.cg rfl rfl, h.p.cg rfl rfl rfl rfl rfl rfl rfl rfl rfl rfl rfl, h.s.cg rfl rfl, h.pd.cg rfl rfl rfl rfl rfl rfl rfl, h.d.cg rfl rfl rfl rfl rfl rfl rfl, h.l.cg rfl rfl, h.pl.cg rfl rfl, h.o.cg rfl rfl rfl, h.t.cg rfl, h.td.cg rfl, h.st.cg rfl rfl, h.g.cg rfl rfl rfl rfl, ?a, h.b.cg rfl, h.am.cg rfl rfl rfl⟩
  case m =>
    have hm := h.m
    exact ⟨hm.1, hm.2.1, hm.2.2.1, hm.2.2.2.1, hm.2.2.2.2.1, hm.2.2.2.2.2.1, hm.2.2.2.2.2.2.1, hm.2.2.2.2.2.2.2.1, hm.2.2.2.2.2.2.2.2.1, hm.2.2.2.2.2.2.2.2.2.1, hm.2.2.2.2.2.2.2.2.2.2.1, hm.2.2.2.2.2.2.2.2.2.2.2.1, hm.2.2.2.2.2.2.2.2.2.2.2.2.1, upd_all (P := bz) hm.2.2.2.2.2.2.2.2.2.2.2.2.2 (Or.inl rfl) q⟩
  case a =>
    intro z hz
    show upd (S 62) q (-1) z = (if upd (S 54) q 0 z = 0 then -1 else S 52 z) ∧ (¬ upd (S 54) q 0 z = 0 → dayR (S 52 z))
    by_cases e : z = q
    · rw [e, upd_at, upd_at]; exact ⟨rfl, fun x => absurd rfl x⟩
    · rw [upd_off e, upd_off e]; exact h.a z hz
theorem inv_win {S : St} (h : Inv S) {k : Nat} {p th : Int32} (hk : k < nsu S) : Inv (mrg (fX8_wins S th k p).2 (fX7_win S k p)) := by
  refine ⟨h.m.cg rfl rfl rfl rfl rfl rfl rfl rfl rfl rfl rfl rfl rfl rfl, h.k.cg rfl rfl, ?z, h.n.cg rfl rfl, h.p.cg rfl rfl rfl rfl rfl rfl rfl rfl rfl rfl rfl, h.s.cg rfl rfl, h.pd.cg rfl rfl rfl rfl rfl rfl rfl, h.d.cg rfl rfl rfl rfl rfl rfl rfl, h.l.cg rfl rfl, h.pl.cg rfl rfl, h.o.cg rfl rfl rfl, h.t.cg rfl, h.td.cg rfl, ?st, h.g.cg rfl rfl rfl rfl, h.a.cg rfl rfl rfl, h.b.cg rfl, h.am.cg rfl rfl rfl⟩
  case z =>
    refine ⟨h.z.1, fun i hi => ?_⟩
    have hi2 : nsu S ≤ i := hi
    obtain ⟨z34, z35, z37, z38, z39, z40, z41⟩ := h.z.2 i hi2
    exact ⟨(upd_off (by omega : i ≠ k)).trans z34, z35, z37, z38, (upd_off (by omega : i ≠ k)).trans z39, (upd_off (by omega : i ≠ k)).trans z40, (upd_off (by omega : i ≠ k)).trans z41⟩
  case st =>
    intro q hq
    have hq2 : q < nsu S := hq
    show ∃ n, n ≤ 4 ∧ upd (S 34) k 4 q = nI n
    by_cases e : q = k
    · rw [e, upd_at]; exact ⟨4, by omega, by decide⟩
    · rw [upd_off e]; exact h.st q hq2
