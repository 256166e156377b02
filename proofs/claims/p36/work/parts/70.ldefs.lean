/-! the law's readers as functions of its rows, printed by program out of its bytecode -/
/-- the ones of a set: rounds left, what is left, the count -/
def oF : Nat → Int32 → Int32 → Int32
  | 0, _, c => c
  | n + 1, x, c => if x ≤ 0 then c else oF n (x &&& (x - 1)) (c + 1)
def fL_ones (set : Int32) : Int32 := oF (ix set) set 0
theorem oF_le {x : Int32} (h : x ≤ 0) (n : Nat) (c : Int32) : oF n x c = c := by
  cases n with
  | zero => rfl
  | succ n => exact if_pos h
theorem pos_nI {x : Int32} (h : ¬ x ≤ 0) : ∃ n, x = nI (n + 1) ∧ n + 1 < 2 ^ 31 := by
  have h1 : 0 < x.toInt := by
    rw [Int32.le_iff_toInt_le] at h
    have e : (0 : Int32).toInt = 0 := by decide
    omega
  have h2 : x.toInt < 2 ^ 31 := by have := x.toInt_lt; omega
  obtain ⟨j, hj⟩ := Int.eq_ofNat_of_zero_le (Int.le_of_lt h1)
  obtain ⟨n, rfl⟩ : ∃ n, j = n + 1 := ⟨j - 1, by omega⟩
  exact ⟨n, w_swi x (n + 1) (by omega) hj, by omega⟩
theorem ones_next {x : Int32} {n : Nat} (h : ix x ≤ n + 1) (h0 : ¬ x ≤ 0) : (x &&& (x - 1)) ≤ 0 ∨ ix (x &&& (x - 1)) ≤ n := by
  obtain ⟨k, rfl, hk⟩ := pos_nI h0
  have e1 : nI (k + 1) - 1 = nI k := nI_pred k
  rw [show ix (nI (k + 1)) = k + 1 from nI_clamp hk] at h
  refine Or.inr ?_
  rw [e1, nI_and, show ix (nI ((k + 1) &&& k)) = (k + 1) &&& k from nI_clamp (Nat.lt_of_le_of_lt Nat.and_le_right (by omega))]
  exact Nat.le_trans Nat.and_le_right (by omega)
section ONES
variable {p : Program} {l : Launch} {e : Env} {R : Room} {s : State} {m : MethodId} {args : Array Value} {below : List Frame} {meth : Method} {c : Code} {H : Heap} {locs : List Loc} {cells slots : Nat} {Q : State → Prop}
theorem ones_rounds (hx : p.tables.exec = Jvm.exec) (hb : c.code = cL_ones) (res : Int32) (kk : ∀ (ls : Array Slot) (x : Int32), lv_has ls 3 [(2, .int x), (1, .int res)] → W p l e R s m args below meth c H locs cells slots Q (F0 m 20 ls [])) : ∀ (n : Nat) (x v : Int32) (ls : Array Slot), (x ≤ 0 ∨ ix x ≤ n) → oF n x v = res → lv_has ls 3 [(2, .int x), (1, .int v)] → W p l e R s m args below meth c H locs cells slots Q (F0 m 4 ls []) := by
  intro n
  induction n with
  | zero =>
    intro x v ls h e hl
    refine lv_iload_n hx hb dL_ones_4 rfl (lv_at hl 0 rfl) ?_
    refine lv_if_le (tgt := 20) hx hb dL_ones_5 (by decide) (fun _ => ?_) (fun q => ?_)
    · rw [← e] at kk
      exact kk ls x hl
    · rcases h with h | h
      · exact absurd h q
      · obtain ⟨k, rfl, hk⟩ := pos_nI q
        rw [show ix (nI (k + 1)) = k + 1 from nI_clamp hk] at h
        omega
  | succ n ih =>
    intro x v ls h e hl
    refine lv_iload_n hx hb dL_ones_4 rfl (lv_at hl 0 rfl) ?_
    refine lv_if_le (tgt := 20) hx hb dL_ones_5 (by decide) (fun q => ?_) (fun q => ?_)
    · rw [oF_le q] at e
      rw [← e] at kk
      exact kk ls x hl
    · have e2 : oF n (x &&& (x - 1)) (v + 1) = res := by rw [← e]; exact (if_neg q).symm
      refine lv_iinc (v := v + 1) (lv' := [(1, .int (v + 1)), (2, .int x)]) hx hb dL_ones_8 hl (k := 1) rfl rfl (by decide) rfl (fun ls hl => ?_)
      refine lv_iload_n hx hb dL_ones_11 rfl (lv_at hl 1 rfl) ?_
      refine lv_iload_n hx hb dL_ones_12 rfl (lv_at hl 1 rfl) ?_
      refine lv_iconst (v := 1) hx hb dL_ones_13 (by decide) ?_
      refine lv_isub hx hb dL_ones_14 ?_
      refine lv_iand hx hb dL_ones_15 ?_
      refine lv_istore_n (lv' := [(2, .int (x &&& (x - 1))), (1, .int (v + 1))]) hx hb dL_ones_16 rfl hl (by decide) rfl (fun ls hl => ?_)
      refine lv_goto (tgt := 4) hx hb dL_ones_17 (by decide) ?_
      exact ih _ _ ls (ones_next (h.resolve_left q) q) e2 hl
end ONES
set_option maxHeartbeats 4000000 in
set_option maxRecDepth 100000 in
theorem qL_ones (l : Launch) (set : Int32) : SPure l yL_ones wsL_ones ({ frames := 0, cells := 0, slots := 0, locals := 0 } : Room) [.int set] (fL_ones set) := by
  refine Met.ofW (cc := cL_ones) (maxL := 3) (ret := (some .int)) (by decide) rfl ?_
  intro p e s m args below meth c s₁ B hml hv
  obtain ⟨rfl, -⟩ := hv
  have hx := B.exec
  have hb := B.bytes
  have hr := B.returns
  have hlocks := B.notSynchronized
  have hI : va_S (fun _ => False) s.heap s.heap [] := va_S.rf
  have hl := lv_entry ([.int set]) (n := 3) (Nat.le_of_ble_eq_true rfl)
  rw [lg_entry_eq]
  generalize (lg_sl ([.int set]) ++ List.replicate (3 - (lg_sl ([.int set])).length) Slot.unset).toArray = ls at hl ⊢
  have hl : lv_has ls 3 [(0, .int set)] := hl
  refine lv_iconst (v := 0) hx hb dL_ones_0 (by decide) ?_
  refine lv_istore_n (lv' := [(1, .int 0), (0, .int set)]) hx hb dL_ones_1 rfl hl (by decide) rfl (fun ls hl => ?_)
  refine lv_iload_n hx hb dL_ones_2 rfl (lv_at hl 1 rfl) ?_
  refine lv_istore_n (lv' := [(2, .int set), (1, .int 0), (0, .int set)]) hx hb dL_ones_3 rfl hl (by decide) rfl (fun ls hl => ?_)
  refine ones_rounds hx hb (fL_ones set) (fun ls x hl => ?_) (ix set) set 0 ls (Or.inr (Nat.le_refl _)) rfl (lv_sub hl [0, 1] rfl)
  refine lv_iload_n hx hb dL_ones_20 rfl (lv_at hl 1 rfl) ?_
  exact W.iret (v := fL_ones set) hx hb hr (fun t9 ht9 hW9 => ⟨⟨fL_ones set, (), rfl, rfl, trivial⟩, hI.F ht9⟩) hI.2.2 dL_ones_21
def fL_low (v : Int32) (n : Int32) : Int32 := ((v &&& 2147483647) - (v &&& 2147483647) / n * n)
def fL_yes (is_ : Int32) : Int32 := (if is_ = 0 then 0 else 1)
def iL_had_5 (L : St) (k : Nat) (day : Int32) (i5 : Nat) (x5_3 : Int32) : Int32 := (if (L 7 (8 * k + i5)) ≤ 0 then (x5_3 ||| 0) else (if day < (((L 7 (8 * k + i5)) - (L 7 (8 * k + i5)) / 4096 * 4096) - 1) then (x5_3 ||| 0) else (x5_3 ||| (1 <<< ((nI i5) &&& 31)))))
def lL_had_5 (L : St) (k : Nat) (day : Int32) : Nat → Int32
  | 0 => 0
  | n + 1 => iL_had_5 L k day n (lL_had_5 L k day n)
def fL_had (L : St) (k : Nat) (day : Int32) : Int32 := (lL_had_5 L k day 8)
def rL_day_62 (L : St) (k : Nat) (s_ : Nat) : Nat → Nat → Int32 → Int32
  | 0, i62, x62_6 => x62_6
  | r + 1, i62, x62_6 => (if (((L 0 (8 * s_ + 1)) >>> ((nI i62) &&& 31)) &&& 1) = 1 then (if (L 7 (8 * k + i62)) ≤ 4096 then (if (((L 7 (8 * k + i62)) - (L 7 (8 * k + i62)) / 4096 * 4096) - 1) < 0 then (rL_day_62 L k s_ r (i62 + 1) x62_6) else (if x62_6 ≤ (((L 7 (8 * k + i62)) - (L 7 (8 * k + i62)) / 4096 * 4096) - 1) then (rL_day_62 L k s_ r (i62 + 1) x62_6) else (if (2 * (fL_ones ((fL_had L k (((L 7 (8 * k + i62)) - (L 7 (8 * k + i62)) / 4096 * 4096) - 1)) &&& (L 0 (8 * s_ + 1))))) < (fL_ones (L 0 (8 * s_ + 1))) then (rL_day_62 L k s_ r (i62 + 1) x62_6) else (rL_day_62 L k s_ r (i62 + 1) (((L 7 (8 * k + i62)) - (L 7 (8 * k + i62)) / 4096 * 4096) - 1))))) else L 6 (8 * k + 2)) else (if (((L 7 (8 * k + i62)) - (L 7 (8 * k + i62)) / 4096 * 4096) - 1) < 0 then (rL_day_62 L k s_ r (i62 + 1) x62_6) else (if x62_6 ≤ (((L 7 (8 * k + i62)) - (L 7 (8 * k + i62)) / 4096 * 4096) - 1) then (rL_day_62 L k s_ r (i62 + 1) x62_6) else (if (2 * (fL_ones ((fL_had L k (((L 7 (8 * k + i62)) - (L 7 (8 * k + i62)) / 4096 * 4096) - 1)) &&& (L 0 (8 * s_ + 1))))) < (fL_ones (L 0 (8 * s_ + 1))) then (rL_day_62 L k s_ r (i62 + 1) x62_6) else (rL_day_62 L k s_ r (i62 + 1) (((L 7 (8 * k + i62)) - (L 7 (8 * k + i62)) / 4096 * 4096) - 1))))))
theorem rL_day_62_0 (L : St) (k : Nat) (s_ : Nat) (i62 : Nat) (x62_6 : Int32) : rL_day_62 L k s_ 0 i62 x62_6 = x62_6 := rfl
theorem rL_day_62_s (L : St) (k : Nat) (s_ : Nat) (i62 : Nat) (x62_6 : Int32) (r : Nat) : rL_day_62 L k s_ (r + 1) i62 x62_6 = (if (((L 0 (8 * s_ + 1)) >>> ((nI i62) &&& 31)) &&& 1) = 1 then (if (L 7 (8 * k + i62)) ≤ 4096 then (if (((L 7 (8 * k + i62)) - (L 7 (8 * k + i62)) / 4096 * 4096) - 1) < 0 then (rL_day_62 L k s_ r (i62 + 1) x62_6) else (if x62_6 ≤ (((L 7 (8 * k + i62)) - (L 7 (8 * k + i62)) / 4096 * 4096) - 1) then (rL_day_62 L k s_ r (i62 + 1) x62_6) else (if (2 * (fL_ones ((fL_had L k (((L 7 (8 * k + i62)) - (L 7 (8 * k + i62)) / 4096 * 4096) - 1)) &&& (L 0 (8 * s_ + 1))))) < (fL_ones (L 0 (8 * s_ + 1))) then (rL_day_62 L k s_ r (i62 + 1) x62_6) else (rL_day_62 L k s_ r (i62 + 1) (((L 7 (8 * k + i62)) - (L 7 (8 * k + i62)) / 4096 * 4096) - 1))))) else L 6 (8 * k + 2)) else (if (((L 7 (8 * k + i62)) - (L 7 (8 * k + i62)) / 4096 * 4096) - 1) < 0 then (rL_day_62 L k s_ r (i62 + 1) x62_6) else (if x62_6 ≤ (((L 7 (8 * k + i62)) - (L 7 (8 * k + i62)) / 4096 * 4096) - 1) then (rL_day_62 L k s_ r (i62 + 1) x62_6) else (if (2 * (fL_ones ((fL_had L k (((L 7 (8 * k + i62)) - (L 7 (8 * k + i62)) / 4096 * 4096) - 1)) &&& (L 0 (8 * s_ + 1))))) < (fL_ones (L 0 (8 * s_ + 1))) then (rL_day_62 L k s_ r (i62 + 1) x62_6) else (rL_day_62 L k s_ r (i62 + 1) (((L 7 (8 * k + i62)) - (L 7 (8 * k + i62)) / 4096 * 4096) - 1)))))) := rfl
def fL_day (L : St) (k : Nat) (s_ : Nat) : Int32 := (if (L 0 (8 * s_)) = (L 6 (8 * k + 1)) then (if (fL_ones (L 0 (8 * s_ + 1))) ≤ (2 * (fL_ones ((fL_had L k 3000) &&& (L 0 (8 * s_ + 1))))) then (rL_day_62 L k s_ 8 0 3001) else (-1)) else (-1))
def iL_first_7 (L : St) (s_ : Nat) (i7 : Nat) (x7_5 : Int32) : Int32 := (if (L 6 (8 * i7 + 3)) = 3 then x7_5 else (if (fL_day L i7 s_) < 0 then x7_5 else (if x7_5 ≤ ((16 * (fL_day L i7 s_)) + (nI i7)) then x7_5 else ((16 * (fL_day L i7 s_)) + (nI i7)))))
def lL_first_7 (L : St) (s_ : Nat) : Nat → Int32
  | 0 => 2147483647
  | n + 1 => iL_first_7 L s_ n (lL_first_7 L s_ n)
def fL_first (L : St) (s_ : Nat) : Int32 := (if (lL_first_7 L s_ (q4 L)) = 2147483647 then (-1) else ((lL_first_7 L s_ (q4 L)) - (lL_first_7 L s_ (q4 L)) / 16 * 16))
def iL_bar_52 (L : St) (k : Nat) (s_ : Nat) (i52 : Nat) (x52_9 : Int32) (x52_8 : Int32) : Int32 × Int32 := (if (((L 0 (8 * s_ + 1)) >>> ((nI i52) &&& 31)) &&& 1) = 1 then (if (L 3 i52) ≤ 0 then (if (L 7 (8 * k + i52)) ≤ 0 then ((x52_9 + 0), (x52_8 + 0)) else ((x52_9 + 1), (x52_8 + 0))) else (if (fL_day L k s_) < ((L 3 i52) - 1) then (if (L 7 (8 * k + i52)) ≤ 0 then ((x52_9 + 0), (x52_8 + 0)) else ((x52_9 + 1), (x52_8 + 0))) else ((x52_9 + 0), (x52_8 + 1)))) else (if (L 3 i52) ≤ 0 then ((x52_9 + 0), (x52_8 + 0)) else (if (fL_day L k s_) < ((L 3 i52) - 1) then ((x52_9 + 0), (x52_8 + 0)) else ((x52_9 + 0), (x52_8 + 0)))))
def lL_bar_52 (L : St) (k : Nat) (s_ : Nat) : Nat → Int32 × Int32
  | 0 => (0, 0)
  | n + 1 => iL_bar_52 L k s_ n (lL_bar_52 L k s_ n).1 (lL_bar_52 L k s_ n).2
def fL_bar (L : St) (k : Nat) (s_ : Nat) : Int32 := (if (fL_day L k s_) < 0 then (if 0 ≤ (fL_day L k s_) then 2 else 1) else (if (fL_first L s_) = (nI k) then (if (2 * ((lL_bar_52 L k s_ 8).2)) < (fL_ones (L 0 (8 * s_ + 1))) then 0 else (if ((lL_bar_52 L k s_ 8).1) = 0 then (if ((L 6 (8 * k + 5)) - (L 6 (8 * k + 5)) / 2 * 2) = 0 then 3 else 0) else 0)) else (if 0 ≤ (fL_day L k s_) then 2 else 1)))
def fL_counts (L : St) (c_ : Nat) (k : Nat) : Int32 := (if (L 2 c_) = 0 then (if (L 0 (8 * (ix (L 1 c_ - L 1 c_ / 8 * 8)) + 5)) = 0 then (if (fL_bar L k (ix (L 1 c_ - L 1 c_ / 8 * 8))) = 0 then (if (((L 1 c_) / 131072) + 600) < (fL_day L k (ix (L 1 c_ - L 1 c_ / 8 * 8))) then 0 else 1) else 0) else (if ((L 0 (8 * (ix (L 1 c_ - L 1 c_ / 8 * 8)) + 5)) - 1) ≤ ((L 1 c_) / 131072) then 0 else (if (fL_bar L k (ix (L 1 c_ - L 1 c_ / 8 * 8))) = 0 then (if (((L 1 c_) / 131072) + 600) < (fL_day L k (ix (L 1 c_ - L 1 c_ / 8 * 8))) then 0 else 1) else 0))) else 0)
def iL_due_124 (L : St) (i124 : Nat) (x124_10 : Int32) : Int32 := (if (L 0 (8 * i124 + 2)) = 2 then (x124_10 + (((3 - (L 0 (8 * i124 + 6))) * ((((fun (_ : Nat) => (0 : Int32)) i124) * (L 0 (8 * i124 + 4))) / (L 0 (8 * i124 + 3)))) + (20 * ((((fun (_ : Nat) => (0 : Int32)) i124) * (L 0 (8 * i124 + 4))) / (L 0 (8 * i124 + 3)))))) else (x124_10 + (((3 - (L 0 (8 * i124 + 6))) * ((((fun (_ : Nat) => (0 : Int32)) i124) * (L 0 (8 * i124 + 4))) / (L 0 (8 * i124 + 3)))) + (((100 : Int32) >>> ((L 0 (8 * i124 + 2)) &&& 31)) * ((((fun (_ : Nat) => (0 : Int32)) i124) * (L 0 (8 * i124 + 4))) / (L 0 (8 * i124 + 3)))))))
def lL_due_124 (L : St) : Nat → Int32
  | 0 => 0
  | n + 1 => iL_due_124 L n (lL_due_124 L n)
def iL_due_124_v2 (L : St) (w18_12 : Nat → Int32) (w18_13 : Nat → Int32) (i124 : Nat) (x124_10 : Int32) : Int32 := (if (L 0 (8 * i124 + 2)) = 2 then (x124_10 + (((3 - (L 0 (8 * i124 + 6))) * (((w18_12 i124) * (L 0 (8 * i124 + 4))) / (L 0 (8 * i124 + 3)))) + (20 * (((w18_13 i124) * (L 0 (8 * i124 + 4))) / (L 0 (8 * i124 + 3)))))) else (x124_10 + (((3 - (L 0 (8 * i124 + 6))) * (((w18_12 i124) * (L 0 (8 * i124 + 4))) / (L 0 (8 * i124 + 3)))) + (((100 : Int32) >>> ((L 0 (8 * i124 + 2)) &&& 31)) * (((w18_13 i124) * (L 0 (8 * i124 + 4))) / (L 0 (8 * i124 + 3)))))))
def lL_due_124_v2 (L : St) (w18_12 : Nat → Int32) (w18_13 : Nat → Int32) : Nat → Int32
  | 0 => 0
  | n + 1 => iL_due_124_v2 L w18_12 w18_13 n (lL_due_124_v2 L w18_12 w18_13 n)
def iL_due_18 (L : St) (k : Nat) (i18 : Nat) (w18_12 : Nat → Int32) (w18_13 : Nat → Int32) : (Nat → Int32) × (Nat → Int32) := (if (fL_counts L i18 k) = 0 then ((upd w18_12 (ix (L 1 i18 - L 1 i18 / 8 * 8)) ((w18_12 (ix (L 1 i18 - L 1 i18 / 8 * 8))) + 0)), (upd w18_13 (ix (L 1 i18 - L 1 i18 / 8 * 8)) ((w18_13 (ix (L 1 i18 - L 1 i18 / 8 * 8))) + 0))) else ((upd w18_12 (ix (L 1 i18 - L 1 i18 / 8 * 8)) ((w18_12 (ix (L 1 i18 - L 1 i18 / 8 * 8))) + (((L 1 i18) / 8) - ((L 1 i18) / 8) / 16384 * 16384))), (upd w18_13 (ix (L 1 i18 - L 1 i18 / 8 * 8)) ((w18_13 (ix (L 1 i18 - L 1 i18 / 8 * 8))) + 1))))
def lL_due_18 (L : St) (k : Nat) : Nat → (Nat → Int32) × (Nat → Int32)
  | 0 => ((fun (_ : Nat) => (0 : Int32)), (fun (_ : Nat) => (0 : Int32)))
  | n + 1 => iL_due_18 L k n (lL_due_18 L k n).1 (lL_due_18 L k n).2
def iL_due_124_v3 (L : St) (k : Nat) (i124 : Nat) (x124_10 : Int32) : Int32 := (if (L 0 (8 * i124 + 2)) = 2 then (x124_10 + (((3 - (L 0 (8 * i124 + 6))) * (((((lL_due_18 L k (q2 L)).1) i124) * (L 0 (8 * i124 + 4))) / (L 0 (8 * i124 + 3)))) + (20 * (((((lL_due_18 L k (q2 L)).2) i124) * (L 0 (8 * i124 + 4))) / (L 0 (8 * i124 + 3)))))) else (x124_10 + (((3 - (L 0 (8 * i124 + 6))) * (((((lL_due_18 L k (q2 L)).1) i124) * (L 0 (8 * i124 + 4))) / (L 0 (8 * i124 + 3)))) + (((100 : Int32) >>> ((L 0 (8 * i124 + 2)) &&& 31)) * (((((lL_due_18 L k (q2 L)).2) i124) * (L 0 (8 * i124 + 4))) / (L 0 (8 * i124 + 3)))))))
def lL_due_124_v3 (L : St) (k : Nat) : Nat → Int32
  | 0 => 0
  | n + 1 => iL_due_124_v3 L k n (lL_due_124_v3 L k n)
def fL_due (L : St) (k : Nat) : Int32 := (if 3 ≤ (L 6 (8 * k + 3)) then (if (L 11 2) ≤ 0 then (lL_due_124 L (q1 L)) else (lL_due_124 L (q1 L))) else (lL_due_124_v3 L k (q1 L)))
def iL_hundredths_89 (L : St) (k : Nat) (i89 : Nat) (x89_9 : Int32) : Int32 := (if x89_9 = 0 then (if (fL_bar L k i89) = 0 then (if (((L 4 (8 * (ix (L 6 (8 * k))) + 1)) >>> ((nI i89) &&& 31)) &&& 1) = 1 then 1 else 0) else 0) else 1)
def lL_hundredths_89 (L : St) (k : Nat) : Nat → Int32
  | 0 => 0
  | n + 1 => iL_hundredths_89 L k n (lL_hundredths_89 L k n)
def fL_hundredths (L : St) (k : Nat) : Int32 := (if (L 6 (8 * k + 3)) = 1 then (if (lL_hundredths_89 L k (q1 L)) = 0 then (15 + (L 6 (8 * k + 6))) else ((15 + (L 6 (8 * k + 6))) / 2)) else (if (L 6 (8 * k + 3)) = 2 then (if (lL_hundredths_89 L k (q1 L)) = 0 then ((50 + (L 6 (8 * k + 6))) / 2) else (((50 + (L 6 (8 * k + 6))) / 2) / 2)) else (if (L 6 (8 * k + 3)) = 4 then L 6 (8 * k + 7) else 0)))
def iL_wins_300 (L : St) (k : Nat) (much : Int32) (x114_17 : Int32) (w114_4 : Nat → Int32) (x251_18 : Int32) (i300 : Nat) (w300_2 : Nat → Int32) : (Nat → Int32) := (if ((x251_18 >>> (((L 1 i300) - (L 1 i300) / 8 * 8) &&& 31)) &&& 1) = 1 then (if (fL_counts (upr (up (upr (up (up (up (up (up L 9 (4 * (ix (L 6 (8 * k + 1)))) ((L 9 (4 * (ix (L 6 (8 * k + 1))))) - much)) 9 (4 * (ix (L 6 (8 * k + 1))) + 2) (((up L 9 (4 * (ix (L 6 (8 * k + 1)))) ((L 9 (4 * (ix (L 6 (8 * k + 1))))) - much)) 9 (4 * (ix (L 6 (8 * k + 1))) + 2)) + much)) 8 k much) 8 (8 + k) (((much / 100) * (fL_hundredths L k)) + (((much - much / 100 * 100) * (fL_hundredths L k)) / 100))) 11 6 ((L 11 6) + (much - (((much / 100) * (fL_hundredths L k)) + (((much - much / 100 * 100) * (fL_hundredths L k)) / 100))))) 4 w114_4) 4 (8 * (ix (L 6 (8 * k))) + 4) ((w114_4 (8 * (ix (L 6 (8 * k))) + 4)) + x114_17)) 2 w300_2) i300 k) = 0 then (upd w300_2 i300 (w300_2 i300)) else (upd w300_2 i300 ((nI k) + 1))) else (upd w300_2 i300 (w300_2 i300)))
def lL_wins_300 (L : St) (k : Nat) (much : Int32) (x114_17 : Int32) (w114_4 : Nat → Int32) (x251_18 : Int32) : Nat → (Nat → Int32)
  | 0 => (L 2)
  | n + 1 => iL_wins_300 L k much x114_17 w114_4 x251_18 n (lL_wins_300 L k much x114_17 w114_4 x251_18 n)
def iL_wins_251 (L : St) (k : Nat) (much : Int32) (x114_17 : Int32) (w114_4 : Nat → Int32) (i251 : Nat) (x251_18 : Int32) : Int32 := (if (fL_bar (up (upr (up (up (up (up (up L 9 (4 * (ix (L 6 (8 * k + 1)))) ((L 9 (4 * (ix (L 6 (8 * k + 1))))) - much)) 9 (4 * (ix (L 6 (8 * k + 1))) + 2) (((up L 9 (4 * (ix (L 6 (8 * k + 1)))) ((L 9 (4 * (ix (L 6 (8 * k + 1))))) - much)) 9 (4 * (ix (L 6 (8 * k + 1))) + 2)) + much)) 8 k much) 8 (8 + k) (((much / 100) * (fL_hundredths L k)) + (((much - much / 100 * 100) * (fL_hundredths L k)) / 100))) 11 6 ((L 11 6) + (much - (((much / 100) * (fL_hundredths L k)) + (((much - much / 100 * 100) * (fL_hundredths L k)) / 100))))) 4 w114_4) 4 (8 * (ix (L 6 (8 * k))) + 4) ((w114_4 (8 * (ix (L 6 (8 * k))) + 4)) + x114_17)) k i251) = 0 then (x251_18 ||| (1 <<< ((nI i251) &&& 31))) else (x251_18 ||| 0))
def lL_wins_251 (L : St) (k : Nat) (much : Int32) (x114_17 : Int32) (w114_4 : Nat → Int32) : Nat → Int32
  | 0 => 0
  | n + 1 => iL_wins_251 L k much x114_17 w114_4 n (lL_wins_251 L k much x114_17 w114_4 n)
def iL_wins_300_v2 (L : St) (k : Nat) (much : Int32) (x114_17 : Int32) (w114_4 : Nat → Int32) (i300 : Nat) (w300_2 : Nat → Int32) : (Nat → Int32) := (if (((lL_wins_251 L k much x114_17 w114_4 (q1 L)) >>> (((L 1 i300) - (L 1 i300) / 8 * 8) &&& 31)) &&& 1) = 1 then (if (fL_counts (upr (up (upr (up (up (up (up (up L 9 (4 * (ix (L 6 (8 * k + 1)))) ((L 9 (4 * (ix (L 6 (8 * k + 1))))) - much)) 9 (4 * (ix (L 6 (8 * k + 1))) + 2) (((up L 9 (4 * (ix (L 6 (8 * k + 1)))) ((L 9 (4 * (ix (L 6 (8 * k + 1))))) - much)) 9 (4 * (ix (L 6 (8 * k + 1))) + 2)) + much)) 8 k much) 8 (8 + k) (((much / 100) * (fL_hundredths L k)) + (((much - much / 100 * 100) * (fL_hundredths L k)) / 100))) 11 6 ((L 11 6) + (much - (((much / 100) * (fL_hundredths L k)) + (((much - much / 100 * 100) * (fL_hundredths L k)) / 100))))) 4 w114_4) 4 (8 * (ix (L 6 (8 * k))) + 4) ((w114_4 (8 * (ix (L 6 (8 * k))) + 4)) + x114_17)) 2 w300_2) i300 k) = 0 then (upd w300_2 i300 (w300_2 i300)) else (upd w300_2 i300 ((nI k) + 1))) else (upd w300_2 i300 (w300_2 i300)))
def lL_wins_300_v2 (L : St) (k : Nat) (much : Int32) (x114_17 : Int32) (w114_4 : Nat → Int32) : Nat → (Nat → Int32)
  | 0 => (L 2)
  | n + 1 => iL_wins_300_v2 L k much x114_17 w114_4 n (lL_wins_300_v2 L k much x114_17 w114_4 n)
def iL_wins_114 (L : St) (k : Nat) (much : Int32) (i114 : Nat) (x114_17 : Int32) (w114_4 : Nat → Int32) : Int32 × (Nat → Int32) := (if ((L 5 i114) - (L 5 i114) / 8 * 8) = (L 6 (8 * k)) then (if (L 6 (8 * k + 2)) ≤ ((L 5 i114) / 8192) then (x114_17, w114_4) else ((x114_17 - ((((((much / 100) * (fL_hundredths L k)) + (((much - much / 100 * 100) * (fL_hundredths L k)) / 100)) / 100) * (((L 5 i114) / 64) - ((L 5 i114) / 64) / 128 * 128)) + ((((((much / 100) * (fL_hundredths L k)) + (((much - much / 100 * 100) * (fL_hundredths L k)) / 100)) - (((much / 100) * (fL_hundredths L k)) + (((much - much / 100 * 100) * (fL_hundredths L k)) / 100)) / 100 * 100) * (((L 5 i114) / 64) - ((L 5 i114) / 64) / 128 * 128)) / 100))), (upd w114_4 (8 * (ix (L 5 i114 / 8 - L 5 i114 / 8 / 8 * 8)) + 5) ((w114_4 (8 * (ix (L 5 i114 / 8 - L 5 i114 / 8 / 8 * 8)) + 5)) + ((((((much / 100) * (fL_hundredths L k)) + (((much - much / 100 * 100) * (fL_hundredths L k)) / 100)) / 100) * (((L 5 i114) / 64) - ((L 5 i114) / 64) / 128 * 128)) + ((((((much / 100) * (fL_hundredths L k)) + (((much - much / 100 * 100) * (fL_hundredths L k)) / 100)) - (((much / 100) * (fL_hundredths L k)) + (((much - much / 100 * 100) * (fL_hundredths L k)) / 100)) / 100 * 100) * (((L 5 i114) / 64) - ((L 5 i114) / 64) / 128 * 128)) / 100)))))) else (x114_17, w114_4))
def lL_wins_114 (L : St) (k : Nat) (much : Int32) : Nat → Int32 × (Nat → Int32)
  | 0 => ((((much / 100) * (fL_hundredths L k)) + (((much - much / 100 * 100) * (fL_hundredths L k)) / 100)), (L 4))
  | n + 1 => iL_wins_114 L k much n (lL_wins_114 L k much n).1 (lL_wins_114 L k much n).2
def iL_wins_300_v3 (L : St) (k : Nat) (much : Int32) (x251_18 : Int32) (i300 : Nat) (w300_2 : Nat → Int32) : (Nat → Int32) := (if ((x251_18 >>> (((L 1 i300) - (L 1 i300) / 8 * 8) &&& 31)) &&& 1) = 1 then (if (fL_counts (upr (up (upr (up (up (up (up (up L 9 (4 * (ix (L 6 (8 * k + 1)))) ((L 9 (4 * (ix (L 6 (8 * k + 1))))) - much)) 9 (4 * (ix (L 6 (8 * k + 1))) + 2) (((up L 9 (4 * (ix (L 6 (8 * k + 1)))) ((L 9 (4 * (ix (L 6 (8 * k + 1))))) - much)) 9 (4 * (ix (L 6 (8 * k + 1))) + 2)) + much)) 8 k much) 8 (8 + k) (((much / 100) * (fL_hundredths L k)) + (((much - much / 100 * 100) * (fL_hundredths L k)) / 100))) 11 6 ((L 11 6) + (much - (((much / 100) * (fL_hundredths L k)) + (((much - much / 100 * 100) * (fL_hundredths L k)) / 100))))) 4 ((lL_wins_114 L k much (q3 L)).2)) 4 (8 * (ix (L 6 (8 * k))) + 4) ((((lL_wins_114 L k much (q3 L)).2) (8 * (ix (L 6 (8 * k))) + 4)) + ((lL_wins_114 L k much (q3 L)).1))) 2 w300_2) i300 k) = 0 then (upd w300_2 i300 (w300_2 i300)) else (upd w300_2 i300 ((nI k) + 1))) else (upd w300_2 i300 (w300_2 i300)))
def lL_wins_300_v3 (L : St) (k : Nat) (much : Int32) (x251_18 : Int32) : Nat → (Nat → Int32)
  | 0 => (L 2)
  | n + 1 => iL_wins_300_v3 L k much x251_18 n (lL_wins_300_v3 L k much x251_18 n)
def iL_wins_251_v2 (L : St) (k : Nat) (much : Int32) (i251 : Nat) (x251_18 : Int32) : Int32 := (if (fL_bar (up (upr (up (up (up (up (up L 9 (4 * (ix (L 6 (8 * k + 1)))) ((L 9 (4 * (ix (L 6 (8 * k + 1))))) - much)) 9 (4 * (ix (L 6 (8 * k + 1))) + 2) (((up L 9 (4 * (ix (L 6 (8 * k + 1)))) ((L 9 (4 * (ix (L 6 (8 * k + 1))))) - much)) 9 (4 * (ix (L 6 (8 * k + 1))) + 2)) + much)) 8 k much) 8 (8 + k) (((much / 100) * (fL_hundredths L k)) + (((much - much / 100 * 100) * (fL_hundredths L k)) / 100))) 11 6 ((L 11 6) + (much - (((much / 100) * (fL_hundredths L k)) + (((much - much / 100 * 100) * (fL_hundredths L k)) / 100))))) 4 ((lL_wins_114 L k much (q3 L)).2)) 4 (8 * (ix (L 6 (8 * k))) + 4) ((((lL_wins_114 L k much (q3 L)).2) (8 * (ix (L 6 (8 * k))) + 4)) + ((lL_wins_114 L k much (q3 L)).1))) k i251) = 0 then (x251_18 ||| (1 <<< ((nI i251) &&& 31))) else (x251_18 ||| 0))
def lL_wins_251_v2 (L : St) (k : Nat) (much : Int32) : Nat → Int32
  | 0 => 0
  | n + 1 => iL_wins_251_v2 L k much n (lL_wins_251_v2 L k much n)
def iL_wins_300_v4 (L : St) (k : Nat) (much : Int32) (i300 : Nat) (w300_2 : Nat → Int32) : (Nat → Int32) := (if (((lL_wins_251_v2 L k much (q1 L)) >>> (((L 1 i300) - (L 1 i300) / 8 * 8) &&& 31)) &&& 1) = 1 then (if (fL_counts (upr (up (upr (up (up (up (up (up L 9 (4 * (ix (L 6 (8 * k + 1)))) ((L 9 (4 * (ix (L 6 (8 * k + 1))))) - much)) 9 (4 * (ix (L 6 (8 * k + 1))) + 2) (((up L 9 (4 * (ix (L 6 (8 * k + 1)))) ((L 9 (4 * (ix (L 6 (8 * k + 1))))) - much)) 9 (4 * (ix (L 6 (8 * k + 1))) + 2)) + much)) 8 k much) 8 (8 + k) (((much / 100) * (fL_hundredths L k)) + (((much - much / 100 * 100) * (fL_hundredths L k)) / 100))) 11 6 ((L 11 6) + (much - (((much / 100) * (fL_hundredths L k)) + (((much - much / 100 * 100) * (fL_hundredths L k)) / 100))))) 4 ((lL_wins_114 L k much (q3 L)).2)) 4 (8 * (ix (L 6 (8 * k))) + 4) ((((lL_wins_114 L k much (q3 L)).2) (8 * (ix (L 6 (8 * k))) + 4)) + ((lL_wins_114 L k much (q3 L)).1))) 2 w300_2) i300 k) = 0 then (upd w300_2 i300 (w300_2 i300)) else (upd w300_2 i300 ((nI k) + 1))) else (upd w300_2 i300 (w300_2 i300)))
def lL_wins_300_v4 (L : St) (k : Nat) (much : Int32) : Nat → (Nat → Int32)
  | 0 => (L 2)
  | n + 1 => iL_wins_300_v4 L k much n (lL_wins_300_v4 L k much n)
def fL_wins (L : St) (k : Nat) (much : Int32) : St := (up (up (upr (up (upr (up (up (up (up (up L 9 (4 * (ix (L 6 (8 * k + 1)))) ((L 9 (4 * (ix (L 6 (8 * k + 1))))) - much)) 9 (4 * (ix (L 6 (8 * k + 1))) + 2) (((up L 9 (4 * (ix (L 6 (8 * k + 1)))) ((L 9 (4 * (ix (L 6 (8 * k + 1))))) - much)) 9 (4 * (ix (L 6 (8 * k + 1))) + 2)) + much)) 8 k much) 8 (8 + k) (((much / 100) * (fL_hundredths L k)) + (((much - much / 100 * 100) * (fL_hundredths L k)) / 100))) 11 6 ((L 11 6) + (much - (((much / 100) * (fL_hundredths L k)) + (((much - much / 100 * 100) * (fL_hundredths L k)) / 100))))) 4 ((lL_wins_114 L k much (q3 L)).2)) 4 (8 * (ix (L 6 (8 * k))) + 4) ((((lL_wins_114 L k much (q3 L)).2) (8 * (ix (L 6 (8 * k))) + 4)) + ((lL_wins_114 L k much (q3 L)).1))) 2 (lL_wins_300_v4 L k much (q2 L))) 6 (8 * k + 7) (fL_hundredths L k)) 6 (8 * k + 3) 4)
def iL_knows_34 (L : St) (f : Nat) (t : Nat) (i34 : Nat) (x34_5 : Int32) : Int32 := (if (L 6 (8 * i34)) = (nI t) then (if (L 6 (8 * i34 + 1)) = (nI f) then (if x34_5 ≤ (L 6 (8 * i34 + 4)) then x34_5 else L 6 (8 * i34 + 4)) else x34_5) else x34_5)
def lL_knows_34 (L : St) (f : Nat) (t : Nat) (y29_0 : Int32) : Nat → Int32
  | 0 => y29_0
  | n + 1 => iL_knows_34 L f t n (lL_knows_34 L f t y29_0 n)
def jL_knows_29 (L : St) (f : Nat) (t : Nat) : Int32 := (if (L 10 (4 * (5 * f + t))) ≤ 0 then 9999 else ((L 10 (4 * (5 * f + t))) - 1))
def bL_knows_29 (L : St) (f : Nat) (t : Nat) (y29_0 : Int32) : Int32 := (lL_knows_34 L f t y29_0 (q4 L))
def fL_knows (L : St) (f : Nat) (t : Nat) : Int32 := (bL_knows_29 L f t (jL_knows_29 L f t))
