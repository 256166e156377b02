/-! work, tell, fire, award, pass -/
theorem knows_lawT {M : Nat} {S L : St} (hR : REL M S L) (hT : TLD S) {f t : Nat} (hf : f < 3) (ht : t < 5) : fL_knows L f t = fX8_tellsFrom S f t := by
  have hs8 := hR.ur.1
  obtain ⟨e0, -, -⟩ := hR.r f hf t ht
  have ep : ix (fX8_place (nI f) (nI t)) = 8 * f + t := place_ix (by omega) (by omega)
  obtain ⟨m1, m2, -⟩ := m1_le (hT (8 * f + t) (by omega))
  have hj : jL_knows_29 L f t = jX8_tellsFrom_30 S f t := by
    unfold jL_knows_29 jX8_tellsFrom_30
    rw [e0, ep, m2]
    by_cases c : S 51 (8 * f + t) = -1
    · rw [if_pos c, if_pos (m1.mpr c)]
    · rw [if_neg c, if_neg (fun q => c (m1.mp q))]
  have key : ∀ y n, n ≤ nsu S → lL_knows_34 L f t y n = lX8_tellsFrom_34 S f t y n := by
    intro y n
    induction n with
    | zero => exact fun _ => rfl
    | succ n ih =>
      intro hn
      have s1 : lL_knows_34 L f t y (n + 1) = iL_knows_34 L f t n (lL_knows_34 L f t y n) := rfl
      have s2 : lX8_tellsFrom_34 S f t y (n + 1) = iX8_tellsFrom_34 S f t n (lX8_tellsFrom_34 S f t y n) := rfl
      rw [s1, s2, ih (by omega)]
      obtain ⟨u0, u1, -, -, u4, -⟩ := hR.u n (by omega)
      unfold iL_knows_34 iX8_tellsFrom_34
      rw [u0, u1, u4]
  unfold fL_knows bL_knows_29 fX8_tellsFrom bX8_tellsFrom_30
  rw [hj, hR.q4e, key _ _ (Nat.le_refl _)]
theorem tells_n {S : St} (hI : Inv S) {f t : Nat} (hf : f < 3) (ht : t < 5) : ∃ d, d ≤ 9999 ∧ fX8_tellsFrom S f t = nI d := by
  have ep : ix (fX8_place (nI f) (nI t)) = 8 * f + t := place_ix (by omega) (by omega)
  have h0 : ∃ d, d ≤ 9999 ∧ jX8_tellsFrom_30 S f t = nI d := by
    unfold jX8_tellsFrom_30
    rw [ep]
    by_cases c : S 51 (8 * f + t) = -1
    · rw [if_pos c]; exact ⟨9999, Nat.le_refl _, by decide⟩
    · rw [if_neg c]
      obtain ⟨d, hd, ed⟩ := (hI.t (8 * f + t) (by omega)).resolve_left c
      exact ⟨d, by omega, ed⟩
  have key : ∀ y, (∃ d, d ≤ 9999 ∧ y = nI d) → ∀ n, n ≤ nsu S → ∃ d, d ≤ 9999 ∧ lX8_tellsFrom_34 S f t y n = nI d := by
    intro y hy n
    induction n with
    | zero => exact fun _ => hy
    | succ n ih =>
      intro hn
      obtain ⟨d, hd, ed⟩ := ih (by omega)
      have s2 : lX8_tellsFrom_34 S f t y (n + 1) = iX8_tellsFrom_34 S f t n (lX8_tellsFrom_34 S f t y n) := rfl
      obtain ⟨n2, m2, h1, h2, e36, -⟩ := hI.o n (by omega)
      rw [s2, ed]
      unfold iX8_tellsFrom_34
      split
      · split
        · split
          · exact ⟨d, hd, rfl⟩
          · exact ⟨n2, by omega, e36⟩
        · exact ⟨d, hd, rfl⟩
      · exact ⟨d, hd, rfl⟩
  exact key _ h0 _ (Nat.le_refl _)
theorem add1_sub (x : Int32) : x + 1 - 1 = x := by
  rw [Int32.sub_eq_add_neg, Int32.add_assoc, show (1 : Int32) + -1 = 0 by decide, Int32.add_zero]
theorem g_work {M : Nat} {S L : St} (hR : REL M S L) (hI : Inv S) {f t : Nat} (hf : f < 3) (ht : t < 5) {z : Int32} (hz : ∃ x, x < 1000 ∧ z = nI x) : GOOD M S ((up (up L 4 (8 * t + 2) ((nI f) + 1)) 4 (8 * t + 3) z), (19, nI t, nI f, z), ((L 4 (8 * t + 2)) - 1)) := by
  obtain ⟨x, hx, ez⟩ := hz
  have hF : okI (nI f) 6 := okI_nI (by decide) (show f < 6 by omega) (by decide)
  have hT : okI (nI t) 8 := okI_nI (by decide) (show t < 8 by omega) (by decide)
  have h1 : okR (nI x) 0 999 := okR_nI (lo := 0) (hi := 999) (by decide) (by decide) (Nat.zero_le _) (by omega) (by decide)
  have et : ix (nI t) = t := nI_clamp (by omega)
  obtain ⟨-, -, t2, -⟩ := hR.t t ht
  rw [ez, t2, add1_sub]
  have hs : SU [49, 50] S (up (up S 49 t (nI f)) 50 t (nI x)) := fun r _ hn => by repeat rw [up_nm (by decide) hn]
  have hl : LU [4] L (up (up L 4 (8 * t + 2) ((nI f) + 1)) 4 (8 * t + 3) (nI x)) := fun r hn => by repeat rw [up_nm (by decide) hn]
  refine good_8 hI (A := up (up S 49 t (nI f)) 50 t (nI x)) ?_ (fun r hr => by rw [up_ne (by omega), up_ne (by omega)]) ⟨hR.q.cg hs hl, hR.h.cg hs hl, hR.hr.cg hs, hR.c.cg hs hl, hR.b.cg hs hl, fun t' ht' => ?_, hR.d.cg hs hl, hR.u.cg hs hl, hR.ur.cg hs, hR.m.cg (Nat.le_refl _) hs hl, hR.r.cg hs hl, hR.e.cg hs hl⟩
  · show fX8_work S (nI t) (nI f) (nI x) = _
    unfold fX8_work
    rw [if_neg ((teller_I _).mpr hT), if_neg ((firm_I _).mpr hF), if_neg ((in_R _ _ _).mpr h1), et]
  · obtain ⟨y0, y1, y2, y3, y4, y5, y6, y7, y8, y9⟩ := hR.t t' ht'
    have r49 : up (up S 49 t (nI f)) 50 t (nI x) 49 = upd (S 49) t (nI f) := rfl
    have r50 : up (up S 49 t (nI f)) 50 t (nI x) 50 = upd (S 50) t (nI x) := rfl
    rw [r49, r50, hs 21 (by decide) (by decide), hs 22 (by decide) (by decide), hs 46 (by decide) (by decide), hs 47 (by decide) (by decide), hs 48 (by decide) (by decide)]
    refine ⟨by rw [up_off (by omega), up_off (by omega)]; exact y0, by rw [up_off (by omega), up_off (by omega)]; exact y1, ?_, ?_, by rw [up_off (by omega), up_off (by omega)]; exact y4, by rw [up_off (by omega), up_off (by omega)]; exact y5, by rw [up_off (by omega), up_off (by omega)]; exact y6, y7, ?_, ?_⟩
    · by_cases e : t' = t
      · subst e; rw [up_off (by omega), up_at, upd_at]
      · rw [up_off (by omega), up_off (by omega), upd_off e]; exact y2
    · by_cases e : t' = t
      · subst e; rw [up_at, upd_at]
      · rw [up_off (by omega), up_off (by omega), upd_off e]; exact y3
    · by_cases e : t' = t
      · subst e; rw [upd_at]; exact Or.inr ⟨f, hf, rfl⟩
      · rw [upd_off e]; exact y8
    · by_cases e : t' = t
      · subst e; rw [upd_at]; exact ⟨x, hx, rfl⟩
      · rw [upd_off e]; exact y9
theorem tell_rel {M : Nat} {S L : St} (hR : REL M S L) {f t : Nat} (hf : f < 3) (ht : t < 5) {v : Int32} : REL M (up S 51 (8 * f + t) v) (up L 10 (4 * (5 * f + t)) (v + 1)) := by
  have hs : SU [51] S (up S 51 (8 * f + t) v) := fun r _ hn => by repeat rw [up_nm (by decide) hn]
  have hl : LU [10] L (up L 10 (4 * (5 * f + t)) (v + 1)) := fun r hn => by repeat rw [up_nm (by decide) hn]
  refine ⟨hR.q.cg hs hl, hR.h.cg hs hl, hR.hr.cg hs, hR.c.cg hs hl, hR.b.cg hs hl, hR.t.cg hs hl, hR.d.cg hs hl, hR.u.cg hs hl, hR.ur.cg hs, hR.m.cg (Nat.le_refl _) hs hl, fun f' hf' t' ht' => ?_, hR.e.cg hs hl⟩
  obtain ⟨y0, y1, y2⟩ := hR.r f' hf' t' ht'
  rw [up_row S 51, hs 54 (by decide) (by decide), hs 53 (by decide) (by decide), hs 52 (by decide) (by decide), hs 1 (by decide) (by decide)]
  refine ⟨?_, by rw [up_off (by omega)]; exact y1, fun q => ?_⟩
  · by_cases e : 5 * f' + t' = 5 * f + t
    · have e1 : f' = f := by omega
      have e2 : t' = t := by omega
      subst e1 e2
      rw [up_at, upd_at]
    · rw [up_off (by omega), upd_off (by omega)]; exact y0
  · rw [up_off (by omega), up_off (by omega)]; exact y2 q
theorem g_tell {M : Nat} {S L : St} (hR : REL M S L) (hI : Inv S) {f t : Nat} (hf : f < 3) (ht : t < 5) : GOOD M S (if (L 10 (4 * (5 * f + t))) = 0 then ((up L 10 (4 * (5 * f + t)) ((L 11 0) + 1)), (20, nI f, nI t, 0), (fL_knows (up L 10 (4 * (5 * f + t)) ((L 11 0) + 1)) f t)) else ((up L 10 (4 * (5 * f + t)) (L 10 (4 * (5 * f + t)))), (20, nI f, nI t, 0), (fL_knows (up L 10 (4 * (5 * f + t)) (L 10 (4 * (5 * f + t)))) f t))) := by
  have hF : okI (nI f) 6 := okI_nI (by decide) (show f < 6 by omega) (by decide)
  have hT : okI (nI t) 8 := okI_nI (by decide) (show t < 8 by omega) (by decide)
  have et : ix (nI t) = t := nI_clamp (by omega)
  have ef : ix (nI f) = f := nI_clamp (by omega)
  have ep : ix (fX8_place (nI f) (nI t)) = 8 * f + t := place_ix (by omega) (by omega)
  obtain ⟨y0, -, -⟩ := hR.r f hf t ht
  obtain ⟨-, -, m3⟩ := m1_le (hI.t (8 * f + t) (by omega))
  by_cases c : S 51 (8 * f + t) = -1
  · rw [if_pos (by rw [y0]; exact m3.mpr c), hR.q.1]
    have hR2 := tell_rel hR hf ht (v := S 1 0)
    have hT2 : TLD (up S 51 (8 * f + t) (S 1 0)) := by
      intro q hq
      rw [up_row]
      by_cases e : q = 8 * f + t
      · subst e; rw [upd_at]; exact Or.inr hI.td
      · rw [upd_off e]; exact hI.t q hq
    rw [knows_lawT hR2 hT2 hf ht]
    refine good_8 hI (A := up S 51 (8 * f + t) (S 1 0)) ?_ (fun r hr => up_ne (by omega)) hR2
    show fX8_tell S (nI f) (nI t) = _
    unfold fX8_tell
    rw [if_neg ((firm_I _).mpr hF), if_neg ((teller_I _).mpr hT), ep, if_pos c, ef, et]
  · rw [if_neg (by rw [y0]; exact fun q => c (m3.mp q)), up_same rfl, knows_lawT hR hI.t hf ht]
    refine good_8 hI (A := S) ?_ (fun r hr => rfl) hR
    show fX8_tell S (nI f) (nI t) = _
    unfold fX8_tell
    rw [if_neg ((firm_I _).mpr hF), if_neg ((teller_I _).mpr hT), ep, if_neg c, up_same rfl, ef, et]
theorem fire_rel {M : Nat} {S L : St} (hR : REL M S L) {f t : Nat} (hf : f < 3) (ht : t < 5) (j : Int32) : REL M (up (up (up (up S 49 t (-1)) 52 (8 * f + t) (S 1 0)) 53 (8 * f + t) (S 50 t)) 54 (8 * f + t) j) (up (up (up (up L 4 (8 * t + 2) 0) 10 (4 * (5 * f + t) + 1) (L 11 0)) 10 (4 * (5 * f + t) + 2) ((up L 4 (8 * t + 2) 0) 4 (8 * t + 3))) 10 (4 * (5 * f + t) + 3) j) := by
  have hs : SU [49, 52, 53, 54] S (up (up (up (up S 49 t (-1)) 52 (8 * f + t) (S 1 0)) 53 (8 * f + t) (S 50 t)) 54 (8 * f + t) j) := fun r _ hn => by repeat rw [up_nm (by decide) hn]
  have hl : LU [4, 10] L (up (up (up (up L 4 (8 * t + 2) 0) 10 (4 * (5 * f + t) + 1) (L 11 0)) 10 (4 * (5 * f + t) + 2) ((up L 4 (8 * t + 2) 0) 4 (8 * t + 3))) 10 (4 * (5 * f + t) + 3) j) := fun r hn => by repeat rw [up_nm (by decide) hn]
  obtain ⟨-, -, -, z3, -, -, -, -, -, z9⟩ := hR.t t ht
  generalize hS' : up (up (up (up S 49 t (-1)) 52 (8 * f + t) (S 1 0)) 53 (8 * f + t) (S 50 t)) 54 (8 * f + t) j = S' at hs ⊢
  generalize hL' : up (up (up (up L 4 (8 * t + 2) 0) 10 (4 * (5 * f + t) + 1) (L 11 0)) 10 (4 * (5 * f + t) + 2) ((up L 4 (8 * t + 2) 0) 4 (8 * t + 3))) 10 (4 * (5 * f + t) + 3) j = L' at hl ⊢
  have s49 : S' 49 = upd (S 49) t (-1) := by rw [← hS']; rfl
  have s52 : S' 52 = upd (S 52) (8 * f + t) (S 1 0) := by rw [← hS']; rfl
  have s53 : S' 53 = upd (S 53) (8 * f + t) (S 50 t) := by rw [← hS']; rfl
  have s54 : S' 54 = upd (S 54) (8 * f + t) j := by rw [← hS']; rfl
  have l4 : L' 4 = upd (L 4) (8 * t + 2) 0 := by rw [← hL']; rfl
  have l10 : L' 10 = upd (upd (upd (L 10) (4 * (5 * f + t) + 1) (S 1 0)) (4 * (5 * f + t) + 2) (S 50 t)) (4 * (5 * f + t) + 3) j := by
    rw [← hL', up_off (by omega), z3, hR.q.1]; rfl
  refine ⟨hR.q.cg hs hl, hR.h.cg hs hl, hR.hr.cg hs, hR.c.cg hs hl, hR.b.cg hs hl, fun t' ht' => ?_, hR.d.cg hs hl, hR.u.cg hs hl, hR.ur.cg hs, hR.m.cg (Nat.le_refl _) hs hl, fun f' hf' t' ht' => ?_, hR.e.cg hs hl⟩
  · obtain ⟨y0, y1, y2, y3, y4, y5, y6, y7, y8, y9⟩ := hR.t t' ht'
    rw [s49, l4, hs 21 (by decide) (by decide), hs 22 (by decide) (by decide), hs 46 (by decide) (by decide), hs 47 (by decide) (by decide), hs 48 (by decide) (by decide), hs 50 (by decide) (by decide)]
    refine ⟨by rw [upd_off (by omega)]; exact y0, by rw [upd_off (by omega)]; exact y1, ?_, by rw [upd_off (by omega)]; exact y3, by rw [upd_off (by omega)]; exact y4, by rw [upd_off (by omega)]; exact y5, by rw [upd_off (by omega)]; exact y6, y7, ?_, y9⟩
    · by_cases e : t' = t
      · subst e; rw [upd_at, upd_at]; decide
      · rw [upd_off (by omega), upd_off e]; exact y2
    · by_cases e : t' = t
      · subst e; rw [upd_at]; exact Or.inl rfl
      · rw [upd_off e]; exact y8
  · obtain ⟨y0, y1, y2⟩ := hR.r f' hf' t' ht'
    rw [s52, s53, s54, l10, hs 51 (by decide) (by decide), hs 1 (by decide) (by decide)]
    by_cases e : 5 * f' + t' = 5 * f + t
    · have e1 : f' = f := by omega
      have e2 : t' = t := by omega
      subst e1 e2
      refine ⟨by rw [upd_off (by omega), upd_off (by omega), upd_off (by omega)]; exact y0, by rw [upd_at, upd_at], fun _ => ⟨by rw [upd_off (by omega), upd_off (by omega), upd_at, upd_at], by rw [upd_off (by omega), upd_at, upd_at], ?_, ?_⟩⟩
      · rw [upd_at]; exact z9
      · rw [upd_at]; exact fun q => Int32.lt_irrefl q
    · rw [upd_off (show 8 * f' + t' ≠ 8 * f + t by omega), upd_off (show 8 * f' + t' ≠ 8 * f + t by omega), upd_off (show 8 * f' + t' ≠ 8 * f + t by omega)]
      refine ⟨by rw [upd_off (by omega), upd_off (by omega), upd_off (by omega)]; exact y0, by rw [upd_off (by omega), upd_off (by omega), upd_off (by omega)]; exact y1, fun q => ?_⟩
      rw [upd_off (by omega), upd_off (by omega), upd_off (by omega), upd_off (by omega), upd_off (by omega), upd_off (by omega)]
      exact y2 q
theorem yes_01 : fL_yes 0 = 0 ∧ fL_yes 1 = 1 := by decide
theorem g_fire {M : Nat} {S L : St} (hR : REL M S L) (hI : Inv S) {f t : Nat} (hf : f < 3) (ht : t < 5) : (S 49 t = nI f → GOOD M S (bL_wages_285_v2 L f t (jL_wages_285 L f t))) ∧ (¬ S 49 t = nI f → GOOD M S (bL_wages_285 L f t (jL_wages_285 L f t))) := by
  have hF : okI (nI f) 6 := okI_nI (by decide) (show f < 6 by omega) (by decide)
  have hT : okI (nI t) 8 := okI_nI (by decide) (show t < 8 by omega) (by decide)
  have et : ix (nI t) = t := nI_clamp (by omega)
  have ef : ix (nI f) = f := nI_clamp (by omega)
  have ep : ix (fX8_place (nI f) (nI t)) = 8 * f + t := place_ix (by omega) (by omega)
  obtain ⟨T, hT3, eT⟩ := hI.td
  obtain ⟨d, hd, ed⟩ := tells_n hI hf ht
  have start : ∀ A B C : Int32 × Int32 × St, (if fX8_isFirm (nI f) = 0 then A else (if fX8_isTeller (nI t) = 0 then B else C)) = C := fun A B C => by rw [if_neg ((firm_I _).mpr hF), if_neg ((teller_I _).mpr hT)]
  constructor
  · intro c49
    have e8 : xq8 S 10 (nI f) (nI t) 0 = (fL_yes (jL_wages_285 L f t), 0, up (up (up (up S 49 t (-1)) 52 (8 * f + t) (S 1 0)) 53 (8 * f + t) (S 50 t)) 54 (8 * f + t) (jL_wages_285 L f t)) := by
      show fX8_fire S (nI f) (nI t) = _
      unfold fX8_fire jL_wages_285
      rw [start, et, ef, ep, if_pos c49, knows_lawT hR hI.t hf ht, hR.q.1, ed, eT, show (90 : Int32) = nI 90 by decide, nI_add]
      by_cases c1 : nI T < nI d
      · rw [if_pos c1, if_pos c1, yes_01.1]
      · rw [if_neg c1, if_neg c1]
        rw [nI_ltI (by omega) (by omega)] at c1
        rw [pk_sub (by omega)]
        have hq : nI 90 < nI (T - d) ↔ nI (d + 90) < nI T := by rw [nI_ltI (by decide) (by omega), nI_ltI (by omega) (by omega)]; omega
        by_cases c2 : nI (d + 90) < nI T
        · rw [if_pos c2, if_pos (hq.mpr c2), yes_01.1]
        · rw [if_neg c2, if_neg (fun q => c2 (hq.mp q)), yes_01.2]
    have hj : jL_wages_285 L f t = 0 ∨ jL_wages_285 L f t = 1 := by
      unfold jL_wages_285
      repeat' split
      all_goals first | exact Or.inl rfl | exact Or.inr rfl
    unfold bL_wages_285_v2
    have h65 : ∀ (j : Int32) r, 64 < r → up (up (up (up S 49 t (-1)) 52 (8 * f + t) (S 1 0)) 53 (8 * f + t) (S 50 t)) 54 (8 * f + t) j r = S r := fun j r hr => by rw [up_ne (by omega), up_ne (by omega), up_ne (by omega), up_ne (by omega)]
    rcases hj with q | q
    · rw [q] at e8 ⊢
      rw [if_pos rfl]
      exact good_8 hI e8 (h65 0) (fire_rel hR hf ht 0)
    · rw [q] at e8 ⊢
      rw [if_neg (by decide)]
      exact good_8 hI e8 (h65 1) (fire_rel hR hf ht 1)
  · intro c49
    have e8 : xq8 S 10 (nI f) (nI t) 0 = (0, 2, S) := by
      show fX8_fire S (nI f) (nI t) = _
      unfold fX8_fire
      rw [start, et, if_neg c49]
    have hone := (xq_one hI 10 (nI f) (nI t) 0).1
    rw [e8] at hone
    unfold bL_wages_285
    exact good_t (by decide) e8 (mp13_2 hone.symm (c7_fire S (nI f) (nI t)).1) (fun r hr => k65 S 10 (by decide) (by decide) _ _ _ r hr) hR
theorem emp_is {S : St} {t f : Nat} (h : S 49 t = -1 ∨ ∃ e, e < 3 ∧ S 49 t = nI e) (hf : f < 3) : S 49 t + 1 = nI f + 1 ↔ S 49 t = nI f := by
  rcases h with q | ⟨e, he, q⟩
  · rw [q, nI_1]
    have a1 : ∀ f, f < 3 → ¬ ((-1 : Int32) + 1 = nI (f + 1)) := by decide
    have a2 : ∀ f, f < 3 → ¬ ((-1 : Int32) = nI f) := by decide
    exact ⟨fun w => absurd w (a1 f hf), fun w => absurd w (a2 f hf)⟩
  · rw [q, nI_1, nI_1, nI_eq (by omega) (by omega), nI_eq (by omega) (by omega)]
    omega
theorem g_fire3 {M : Nat} {S L : St} (hR : REL M S L) (hI : Inv S) {f t : Nat} (hf : f < 3) (ht : t < 5) (z : Int32) : GOOD M S (if z ≤ 0 then (if (L 4 (8 * t + 2)) = ((nI f) + 1) then (bL_wages_285_v2 L f t (jL_wages_285 L f t)) else (bL_wages_285 L f t (jL_wages_285 L f t))) else (if (L 4 (8 * t + 2)) ≤ 0 then (if (L 4 (8 * t + 2)) = ((nI f) + 1) then (bL_wages_285_v3 L f t (jL_wages_285 L f t)) else (bL_wages_285 L f t (jL_wages_285 L f t))) else (if (L 4 (8 * t + 2)) = (((L 4 (8 * t + 2)) - 1) + 1) then (bL_wages_285_v5 L t (jL_wages_285_v3 L t)) else (bL_wages_285_v4 L t (jL_wages_285_v2 L t))))) := by
  obtain ⟨-, -, t2, -, -, -, -, -, h49, -⟩ := hR.t t ht
  obtain ⟨g1, g2⟩ := g_fire hR hI hf ht
  have hi := emp_is h49 hf
  rw [t2]
  have two : GOOD M S (if S 49 t + 1 = nI f + 1 then (bL_wages_285_v2 L f t (jL_wages_285 L f t)) else (bL_wages_285 L f t (jL_wages_285 L f t))) := by
    by_cases c : S 49 t = nI f
    · rw [if_pos (hi.mpr c)]; exact g1 c
    · rw [if_neg (fun q => c (hi.mp q))]; exact g2 c
  by_cases c1 : z ≤ 0
  · rw [if_pos c1]; exact two
  · rw [if_neg c1]
    by_cases c2 : S 49 t + 1 ≤ 0
    · rw [if_pos c2]
      exact two
    · rw [if_neg c2, if_pos (by rw [add1_sub])]
      rcases h49 with q | ⟨e, he, q⟩
      · exact absurd (show S 49 t + 1 ≤ 0 by rw [q]; decide) c2
      · obtain ⟨k1, -⟩ := g_fire hR hI he ht
        have w := k1 q
        have ee : ix (L 4 (8 * t + 2)) - 1 = e := by
          rw [t2, q, nI_1]
          have : ix (nI (e + 1)) = e + 1 := nI_clamp (by omega)
          rw [this]; omega
        have ev : L 4 (8 * t + 2) - 1 = nI e := by rw [t2, add1_sub, q]
        unfold bL_wages_285_v5 jL_wages_285_v3
        unfold bL_wages_285_v2 jL_wages_285 at w
        rw [ee, ev]
        exact w
theorem g_award {M : Nat} {S L : St} (hR : REL M S L) (hI : Inv S) (hM : M ≤ 9000000) {f t : Nat} (hf : f < 3) (ht : t < 5) : GOOD M S (if (L 10 (4 * (5 * f + t) + 3)) = 1 then (bL_wages_439_v2 L f t (jL_wages_439 L f t)) else (bL_wages_439 L f t (jL_wages_439 L f t))) := by
  have hF : okI (nI f) 6 := okI_nI (by decide) (show f < 6 by omega) (by decide)
  have hT : okI (nI t) 8 := okI_nI (by decide) (show t < 8 by omega) (by decide)
  have et : ix (nI t) = t := nI_clamp (by omega)
  have ef : ix (nI f) = f := nI_clamp (by omega)
  have ep : ix (fX8_place (nI f) (nI t)) = 8 * f + t := place_ix (by omega) (by omega)
  obtain ⟨T, hT3, eT⟩ := hI.td
  obtain ⟨-, y1, y2⟩ := hR.r f hf t ht
  have start : ∀ A B C : Int32 × Int32 × St, (if fX8_isFirm (nI f) = 0 then A else (if fX8_isTeller (nI t) = 0 then B else C)) = C := fun A B C => by rw [if_neg ((firm_I _).mpr hF), if_neg ((teller_I _).mpr hT)]
  rw [y1]
  rcases hI.m.z54 (8 * f + t) with c | c
  · rw [if_neg (by rw [c]; decide)]
    have e8 : xq8 S 11 (nI f) (nI t) 0 = (0, 2, S) := by
      show fX8_award S (nI f) (nI t) = _
      unfold fX8_award
      rw [start, ep, if_pos c]
    have hone := (xq_one hI 11 (nI f) (nI t) 0).1
    rw [e8] at hone
    unfold bL_wages_439 bL_wages_466
    exact good_t (by decide) e8 (mp13_2 hone.symm (c7_award S (nI f) (nI t)).1) (fun r hr => k65 S 11 (by decide) (by decide) _ _ _ r hr) hR
  · have c0 : ¬ S 54 (8 * f + t) = 0 := by rw [c]; decide
    obtain ⟨w1, w2, ⟨w, hw, e53⟩, w4⟩ := y2 c0
    obtain ⟨D, hD3, e52⟩ := (hI.a (8 * f + t) (by omega)).2 c0
    obtain ⟨x0, x1, x2, x3, n, hn, en⟩ := hR.m.1 f hf
    have hDT : D ≤ T := by
      rw [eT, e52, nI_ltI (by omega) (by omega)] at w4
      omega
    rw [if_pos c]
    have hy : ∃ Y, Y ≤ n ∧ jL_wages_466 L f t (jL_wages_439 L f t) = nI Y ∧ fX8_award S (nI f) (nI t) = bX8_award_131 S (nI f) (nI t) (nI Y) := by
      unfold jL_wages_466 jL_wages_439 fX8_award jX8_award_131 jX8_award_131_v2
      rw [start, ep, if_neg c0, x0, w1, w2, hR.q.1, eT, e52, e53, ef, en, pk_sub hDT]
      by_cases c4 : T - D < 400
      · have q1 : ¬ (400 : Int32) ≤ nI (T - D) := by
          rw [show (400 : Int32) = nI 400 by decide, nI_leI (by decide) (by omega)]; omega
        have q2 : nI (T - D) ≤ (400 : Int32) := by
          rw [show (400 : Int32) = nI 400 by decide, nI_leI (by omega) (by decide)]; omega
        rw [if_neg q1, if_pos q2]
        have hb : 2 * w * (T - D) ≤ 2000 * 400 := Nat.mul_le_mul (by omega) (by omega)
        rw [show (2 : Int32) = nI 2 by decide, pk_mul, pk_mul]
        by_cases c5 : nI n ≤ nI (2 * w * (T - D))
        · rw [if_pos c5]; exact ⟨n, Nat.le_refl _, rfl, rfl⟩
        · rw [if_neg c5]
          rw [nI_leI (by omega) (by omega)] at c5
          exact ⟨2 * w * (T - D), by omega, rfl, rfl⟩
      · have q1 : (400 : Int32) ≤ nI (T - D) := by
          rw [show (400 : Int32) = nI 400 by decide, nI_leI (by decide) (by omega)]; omega
        rw [if_pos q1]
        have hb : 2 * w * 400 ≤ 2000 * 400 := Nat.mul_le_mul (by omega) (by omega)
        rw [show (2 : Int32) = nI 2 by decide, show (400 : Int32) = nI 400 by decide]
        by_cases q2 : nI (T - D) ≤ nI 400
        · have h400 : T - D = 400 := by rw [nI_leI (by omega) (by decide)] at q2; omega
          rw [if_pos q2, h400, pk_mul, pk_mul]
          by_cases c5 : nI n ≤ nI (2 * w * 400)
          · rw [if_pos c5]; exact ⟨n, Nat.le_refl _, rfl, rfl⟩
          · rw [if_neg c5]
            rw [nI_leI (by omega) (by omega)] at c5
            exact ⟨2 * w * 400, by omega, rfl, rfl⟩
        · rw [if_neg q2, pk_mul, pk_mul]
          by_cases c5 : nI n ≤ nI (2 * w * 400)
          · rw [if_pos c5]; exact ⟨n, Nat.le_refl _, rfl, rfl⟩
          · rw [if_neg c5]
            rw [nI_leI (by omega) (by omega)] at c5
            exact ⟨2 * w * 400, by omega, rfl, rfl⟩
    obtain ⟨Y, hY, eY, e8a⟩ := hy
    unfold bL_wages_439_v2 bL_wages_466_v2
    rw [eY]
    have e8 : xq8 S 11 (nI f) (nI t) 0 = (nI Y, 0, up (up (up (up S 54 (8 * f + t) 0) 2 f (S 2 f - nI Y)) 5 f (S 5 f + nI Y)) 48 t (S 48 t + nI Y)) := by
      show fX8_award S (nI f) (nI t) = _
      rw [e8a]
      unfold bX8_award_131
      rw [ep, ef, et]
    have hs : SU [2, 5, 48, 54] S (up (up (up (up S 54 (8 * f + t) 0) 2 f (S 2 f - nI Y)) 5 f (S 5 f + nI Y)) 48 t (S 48 t + nI Y)) := fun r _ hn => by repeat rw [up_nm (by decide) hn]
    have hl : LU [4, 9, 10] L ((up (up (up (up L 10 (4 * (5 * f + t) + 3) 0) 9 (4 * f) ((L 9 (4 * f)) - nI Y)) 9 (4 * f + 3) (((up (up L 10 (4 * (5 * f + t) + 3) 0) 9 (4 * f) ((L 9 (4 * f)) - nI Y)) 9 (4 * f + 3)) + nI Y)) 4 (8 * t + 6) ((L 4 (8 * t + 6)) + nI Y))) := fun r hn => by repeat rw [up_nm (by decide) hn]
    refine good_8 hI e8 (fun r hr => by rw [up_ne (by omega), up_ne (by omega), up_ne (by omega), up_ne (by omega)]) ?_
    have l9 : (up (up (up (up L 10 (4 * (5 * f + t) + 3) 0) 9 (4 * f) ((L 9 (4 * f)) - nI Y)) 9 (4 * f + 3) (((up (up L 10 (4 * (5 * f + t) + 3) 0) 9 (4 * f) ((L 9 (4 * f)) - nI Y)) 9 (4 * f + 3)) + nI Y)) 4 (8 * t + 6) ((L 4 (8 * t + 6)) + nI Y)) 9 = upd (upd (L 9) (4 * f) (S 2 f - nI Y)) (4 * f + 3) (S 5 f + nI Y) := by
      rw [up_off (k := 9) (by omega), up_ne (k := 10) (by omega), x0, x3]; rfl
    generalize hS' : up (up (up (up S 54 (8 * f + t) 0) 2 f (S 2 f - nI Y)) 5 f (S 5 f + nI Y)) 48 t (S 48 t + nI Y) = S' at hs ⊢
    generalize hL' : (up (up (up (up L 10 (4 * (5 * f + t) + 3) 0) 9 (4 * f) ((L 9 (4 * f)) - nI Y)) 9 (4 * f + 3) (((up (up L 10 (4 * (5 * f + t) + 3) 0) 9 (4 * f) ((L 9 (4 * f)) - nI Y)) 9 (4 * f + 3)) + nI Y)) 4 (8 * t + 6) ((L 4 (8 * t + 6)) + nI Y)) = L' at hl l9 ⊢
    have s2 : S' 2 = upd (S 2) f (S 2 f - nI Y) := by rw [← hS']; rfl
    have s5 : S' 5 = upd (S 5) f (S 5 f + nI Y) := by rw [← hS']; rfl
    have s48 : S' 48 = upd (S 48) t (S 48 t + nI Y) := by rw [← hS']; rfl
    have s54 : S' 54 = upd (S 54) (8 * f + t) 0 := by rw [← hS']; rfl
    have l4 : L' 4 = upd (L 4) (8 * t + 6) (L 4 (8 * t + 6) + nI Y) := by rw [← hL']; rfl
    have l10 : L' 10 = upd (L 10) (4 * (5 * f + t) + 3) 0 := by rw [← hL']; rfl
    refine ⟨hR.q.cg hs hl, hR.h.cg hs hl, hR.hr.cg hs, hR.c.cg hs hl, hR.b.cg hs hl, fun t' ht' => ?_, hR.d.cg hs hl, hR.u.cg hs hl, hR.ur.cg hs, ?_, fun f' hf' t' ht' => ?_, hR.e.cg hs hl⟩
    · obtain ⟨y0, y1, y2, y3, y4, y5, y6, y7, y8, y9⟩ := hR.t t' ht'
      rw [s48, l4, hs 21 (by decide) (by decide), hs 22 (by decide) (by decide), hs 46 (by decide) (by decide), hs 47 (by decide) (by decide), hs 49 (by decide) (by decide), hs 50 (by decide) (by decide)]
      refine ⟨by rw [upd_off (by omega)]; exact y0, by rw [upd_off (by omega)]; exact y1, by rw [upd_off (by omega)]; exact y2, by rw [upd_off (by omega)]; exact y3, by rw [upd_off (by omega)]; exact y4, by rw [upd_off (by omega)]; exact y5, ?_, y7, y8, y9⟩
      by_cases e : t' = t
      · subst e; rw [upd_at, upd_at, y6]
      · rw [upd_off (by omega), upd_off e]; exact y6
    · obtain ⟨z1, z2, z3, z4, z5⟩ := hR.m
      have t3 : S' 3 = S 3 := hs 3 (by decide) (by decide)
      have t4 : S' 4 = S 4 := hs 4 (by decide) (by decide)
      unfold RM
      rw [s2, s5, t3, t4, l9]
      refine ⟨fun f' hf' => ?_, by rw [upd_off (by omega)]; exact z2, z3, z4, by rw [upd_off (by omega)]; exact z5⟩
      obtain ⟨v0, v1, v2, v3, n', hn', en'⟩ := z1 f' hf'
      by_cases e : f' = f
      · subst e
        rw [upd_at, upd_at]
        exact ⟨by rw [upd_off (by omega), upd_at], by rw [upd_off (by omega), upd_off (by omega)]; exact v1, by rw [upd_off (by omega), upd_off (by omega)]; exact v2, by rw [upd_at], n - Y, by omega, by rw [en, pk_sub hY]⟩
      · rw [upd_off e, upd_off e]
        exact ⟨by rw [upd_off (by omega), upd_off (by omega)]; exact v0, by rw [upd_off (by omega), upd_off (by omega)]; exact v1, by rw [upd_off (by omega), upd_off (by omega)]; exact v2, by rw [upd_off (by omega), upd_off (by omega)]; exact v3, n', hn', en'⟩
    · obtain ⟨v0, v1, v2⟩ := hR.r f' hf' t' ht'
      rw [s54, l10, hs 51 (by decide) (by decide), hs 52 (by decide) (by decide), hs 53 (by decide) (by decide), hs 1 (by decide) (by decide)]
      by_cases e : 5 * f' + t' = 5 * f + t
      · have e1 : f' = f := by omega
        have e2 : t' = t := by omega
        subst e1 e2
        exact ⟨by rw [upd_off (by omega)]; exact v0, by rw [upd_at, upd_at], fun q => absurd (upd_at _ _ _) q⟩
      · rw [upd_off (show 8 * f' + t' ≠ 8 * f + t by omega)]
        exact ⟨by rw [upd_off (by omega)]; exact v0, by rw [upd_off (by omega)]; exact v1, fun q => by rw [upd_off (by omega), upd_off (by omega)]; exact v2 q⟩
theorem g_pass {M : Nat} {S L : St} (hR : REL M S L) (hI : Inv S) {T n : Nat} (eT : S 1 0 = nI T) (h0 : 0 < n) (hn : n ≤ 300) (hT : T + n ≤ 3000) : GOOD M S ((up L 11 0 (nI (T + n))), (21, nI n, 0, 0), nI (T + n)) := by
  have h1 : okR (nI n) 1 300 := okR_nI (lo := 1) (hi := 300) (by decide) (by decide) h0 hn (by decide)
  have hle : S 1 0 + nI n ≤ 3000 := by
    rw [eT, nI_add, show (3000 : Int32) = nI 3000 by decide, nI_leI (by omega) (by decide)]
    exact hT
  have hs : SU [1] S (up S 1 0 (nI (T + n))) := fun r _ hn => by repeat rw [up_nm (by decide) hn]
  have hl : LU [11] L (up L 11 0 (nI (T + n))) := fun r hn => by repeat rw [up_nm (by decide) hn]
  have later : ∀ x, ¬ S 1 0 < x → ¬ nI (T + n) < x := by
    intro x hx q
    refine hx ?_
    rw [eT]
    refine Int32.lt_of_le_of_lt ?_ q
    rw [nI_leI (by omega) (by omega)]
    omega
  have r1 : up S 1 0 (nI (T + n)) 1 0 = nI (T + n) := by rw [up_at]
  refine good_8 hI (A := up S 1 0 (nI (T + n))) ?_ (fun r hr => up_ne (by omega)) ⟨?_, hR.h.cg hs hl, hR.hr.cg hs, hR.c.cg hs hl, ?_, hR.t.cg hs hl, hR.d.cg hs hl, hR.u.cg hs hl, hR.ur.cg hs, hR.m.cg (Nat.le_refl _) hs hl, ?_, ?_⟩
  · show fX8_pass S (nI n) = _
    unfold fX8_pass
    rw [if_neg ((in_R _ _ _).mpr h1), if_pos hle, eT, nI_add]
  · obtain ⟨x0, x1, x2, x3, x4, x5, x6⟩ := hR.q
    unfold RQ
    rw [hs 7 (by decide) (by decide), hs 15 (by decide) (by decide), hs 23 (by decide) (by decide), hs 28 (by decide) (by decide), hs 42 (by decide) (by decide), hs 6 (by decide) (by decide), r1, up_row]
    exact ⟨upd_at _ _ _, by rw [upd_off (by omega)]; exact x1, by rw [upd_off (by omega)]; exact x2, by rw [upd_off (by omega)]; exact x3, by rw [upd_off (by omega)]; exact x4, by rw [upd_off (by omega)]; exact x5, by rw [upd_off (by omega)]; exact x6⟩
  · obtain ⟨b1, b2, b3⟩ := hR.b
    unfold RPB
    rw [hs 20 (by decide) (by decide), r1, hl 3 (by decide)]
    exact ⟨b1, b2, fun b hb => (b3 b hb).imp id (later _)⟩
  · intro f hf t ht
    obtain ⟨y0, y1, y2⟩ := hR.r f hf t ht
    rw [hs 51 (by decide) (by decide), hs 52 (by decide) (by decide), hs 53 (by decide) (by decide), hs 54 (by decide) (by decide), hl 10 (by decide), r1]
    exact ⟨y0, y1, fun q => ⟨(y2 q).1, (y2 q).2.1, (y2 q).2.2.1, later _ (y2 q).2.2.2⟩⟩
  · intro k hk
    have t28 : up S 1 0 (nI (T + n)) 28 = S 28 := hs 28 (by decide) (by decide)
    have hk2 : k < nsu S := by unfold nsu at hk ⊢; rw [t28] at hk; exact hk
    obtain ⟨pf, pd, ⟨p1, p2, p3, p4, p5, p6, T2, p7, p8, p9⟩, hE⟩ := hR.e k hk2
    refine ⟨pf, pd, ?_, ?_⟩
    · unfold PPs npp
      rw [hs 67 (by decide) (by decide), hs 65 (by decide) (by decide), hs 66 (by decide) (by decide), hs 31 (by decide) (by decide), hs 33 (by decide) (by decide), hs 32 (by decide) (by decide), r1]
      have : T2 = T := (nI_eq (by omega) (by omega)).mp (p7.symm.trans eT)
      exact ⟨p1, p2, p3, p4, p5, p6, T + n, rfl, by omega, by unfold npp at p9; omega⟩
    · unfold npp
      rw [hs 67 (by decide) (by decide), hl 7 (by decide)]
      exact hE
