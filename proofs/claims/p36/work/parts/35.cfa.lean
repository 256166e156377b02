/-! the face's calls that make objects -/
/-- rows that are not in use yet -/
def ZR (S : St) : Prop := (∀ i, nsc S ≤ i → S 12 i = 0 ∧ S 13 i = -1 ∧ S 14 i = 0 ∧ S 61 i = 0) ∧ (∀ i, nsu S ≤ i → S 34 i = 0 ∧ S 35 i = 0 ∧ S 37 i = 0 ∧ S 38 i = 0 ∧ S 39 i = 0 ∧ S 40 i = 0 ∧ S 41 i = 0)
section SZK
variable {p : Program} {l : Launch} {e : Env} {R : Room} {s : State} {m : MethodId} {args : Array Value} {below : List Frame} {meth : Method} {c : Code} {H : Heap} {locs : List Loc} {cells slots : Nat} {Q : State → Prop}
variable {cc : ByteArray} {pc nL : Nat} {ls : Array Slot} {rest : List Value} {D : va_G} {cy : Nat → ClassId} {g : CWt} {S : St} {A : Nat → Prop} {Ts : List Cond} {own : String} {bytes : ByteArray} {maxL index : Nat} {rm : Room} {ret : Option FieldType}
theorem cr_sizeK (hC : CC p s m args c cc nL own D cy Ts) (hI : CI A D cy g s S H locs) (k i : Nat) (hv : cval g k i) {md sz : Int32} {ea : Nat} (he : ccell cy g S k i = alC md ea sz) (cw : CallW R s args own RJx4a65c index yJx4a65c_size_8abf5 bytes maxL ret wsJx4a65c_size_8abf5 rm 0 0 0) (hM : PInt l (fun U => va_P D vwCl [(ga g k i, alC md ea sz)] U.heap ∧ KK D cy U) yJx4a65c_size_8abf5 wsJx4a65c_size_8abf5 rm [.ref (ga g k i)] sz) (hsize : ls.size = nL) (hr : (rest.map fun v => v.category).sum ≤ 8) (hdg : decode cc pc = .ok (.invokevirtual index, 3)) (hf : cells ≤ R.cells ∧ slots ≤ R.slots) {w : Int32} (hw : sz = w)
    (kk : ∀ (H1 : Heap) (locs1 : List Loc), (∀ q : Nat, q < H.size → H1[q]? = H[q]?) → CI A D cy g s S H1 locs1 → W p l e R s m args below meth c H1 locs1 cells slots Q (F0 m (pc + 3) ls (.int w :: rest))) : W p l e R s m args below meth c H locs cells slots Q (F0 m pc ls (.ref (ga g k i) :: rest)) := by
  subst hw
  have h := he ▸ hI.1 k i hv
  refine pr_calli (As := []) (rest := rest) hC.1 hI.2 hM cw ⟨fun x U g mk q => ⟨q.1, q.2.1, va_K.moved (u := U) (U := U.calling g mk x) (Vm.Alike.refl U.vm) q.2.2⟩, va_recv hC.2 (p1 h) (ci := 0) (q0 := 0) rfl rfl, fun U hU hW => ⟨rfl, by rw [hU]; exact p1 h, va_K.moved hW.alike hC.2⟩⟩ rfl hsize rfl hr hdg hf (fun H1 locs1 hk hz hS => kk H1 locs1 hk ⟨hI.1.keep hk, hS⟩)
end SZK
theorem cid_ne2 {j i : Nat} (hi : i < 4) (h : i ≠ j) (hj : j < 4) : cid i ≠ cid j := by
  match i, j, hi, hj, h with
  | 0, 0, _, _, h => exact absurd rfl h
  | 0, 1, _, _, _ => decide
  | 0, 2, _, _, _ => decide
  | 0, 3, _, _, _ => decide
  | 1, 0, _, _, _ => decide
  | 1, 1, _, _, h => exact absurd rfl h
  | 1, 2, _, _, _ => decide
  | 1, 3, _, _, _ => decide
  | 2, 0, _, _, _ => decide
  | 2, 1, _, _, _ => decide
  | 2, 2, _, _, h => exact absurd rfl h
  | 2, 3, _, _, _ => decide
  | 3, 0, _, _, _ => decide
  | 3, 1, _, _, _ => decide
  | 3, 2, _, _, _ => decide
  | 3, 3, _, _, h => exact absurd rfl h
  | x + 4, _, hi, _, _ => omega
  | _, x + 4, _, hj, _ => omega

theorem ss_scheme {cy : Nat → ClassId} {g : CWt} {S : St} (hT : CT g S) (f : Int32) (set : Int32) (by_ : Int32) : ∀ k i, cval g k i → ¬ (k = 12 ∧ i = 0) → ccell cy g (up (up (up (up (up S 8 (nsc S) f) 9 (nsc S) set) 10 (nsc S) by_) 11 (nsc S) 1) 7 0 (S 7 0 + 1)) k i = ccell cy g S k i := by
  intro k i hv hx
  match k, hv, hx with
  | 0, _, _ => rfl
  | 1, _, _ => rfl
  | 2, _, _ => rfl
  | 3, _, _ => rfl
  | 4, _, _ => rfl
  | 5, hv, _ =>
    have hi : i ≠ nsc S := Nat.ne_of_lt (hT.1.1 ▸ (show i < gc g 12 0 from hv))
    have hi2 : ¬ i = ix (S 7 0) := hi
    simp [ccell, up_app, hi, hi2]
  | 6, _, _ => rfl
  | 7, _, _ => rfl
  | 8, _, _ => rfl
  | 9, _, _ => rfl
  | 10, _, _ => rfl
  | 11, _, _ => rfl
  | 12, hv, hx =>
    have hj : cid i ≠ cid 0 := cid_ne2 hv (fun h => hx ⟨rfl, h⟩) (by decide)
    have e : (up (up (up (up (up S 8 (nsc S) f) 9 (nsc S) set) 10 (nsc S) by_) 11 (nsc S) 1) 7 0 (S 7 0 + 1)) (cid i) = S (cid i) := by
      rw [up_ne (by rw [show (7 : Nat) = cid 0 from rfl]; exact hj), up_ne (cid_ne (by decide)), up_ne (cid_ne (by decide)), up_ne (cid_ne (by decide)), up_ne (cid_ne (by decide))]
    show alC _ _ ((up (up (up (up (up S 8 (nsc S) f) 9 (nsc S) set) 10 (nsc S) by_) 11 (nsc S) 1) 7 0 (S 7 0 + 1)) (cid i) 0) = alC _ _ (S (cid i) 0)
    rw [e]
  | 13, _, _ => rfl
  | 14, _, _ => rfl
  | 15, _, _ => rfl
  | 16, _, _ => rfl
  | 17, _, _ => rfl
  | 18, _, _ => rfl
  | x + 19, hv, _ => exact hv.elim
theorem new_scheme {cy : Nat → ClassId} {g : CWt} {S : St} (hN : MInv S) (hZ : ZR S) (f : Int32) (set : Int32) (by_ : Int32) : ccell cy g (up (up (up (up (up S 8 (nsc S) f) 9 (nsc S) set) 10 (nsc S) by_) 11 (nsc S) 1) 7 0 (S 7 0 + 1)) 5 (nsc S) = .inr (5, [.int (S 7 0), .int f, .int set, .int by_, .int 1, .int 0, .int (-1), .int 0, .int 0]) := by
  obtain ⟨z1, z2, z3, z4⟩ := hZ.1 (nsc S) (Nat.le_refl _)
  have e := hN.n7
  simp [ccell, up_app, z1, z2, z3, z4, ← e]
theorem ss_claim {cy : Nat → ClassId} {g : CWt} {S : St} (hT : CT g S) (s_ : Int32) (much : Int32) : ∀ k i, cval g k i → ¬ (k = 12 ∧ i = 1) → ccell cy g (up (up (up (up (up S 16 (ncl S) s_) 17 (ncl S) much) 18 (ncl S) (S 1 0)) 19 (ncl S) (-1)) 15 0 (S 15 0 + 1)) k i = ccell cy g S k i := by
  intro k i hv hx
  match k, hv, hx with
  | 0, _, _ => rfl
  | 1, _, _ => rfl
  | 2, _, _ => rfl
  | 3, _, _ => rfl
  | 4, _, _ => rfl
  | 5, _, _ => rfl
  | 6, hv, _ =>
    have hi : i ≠ ncl S := Nat.ne_of_lt (hT.1.2.1 ▸ (show i < gc g 12 1 from hv))
    have hi2 : ¬ i = ix (S 15 0) := hi
    simp [ccell, up_app, hi, hi2]
  | 7, _, _ => rfl
  | 8, _, _ => rfl
  | 9, _, _ => rfl
  | 10, _, _ => rfl
  | 11, _, _ => rfl
  | 12, hv, hx =>
    have hj : cid i ≠ cid 1 := cid_ne2 hv (fun h => hx ⟨rfl, h⟩) (by decide)
    have e : (up (up (up (up (up S 16 (ncl S) s_) 17 (ncl S) much) 18 (ncl S) (S 1 0)) 19 (ncl S) (-1)) 15 0 (S 15 0 + 1)) (cid i) = S (cid i) := by
      rw [up_ne (by rw [show (15 : Nat) = cid 1 from rfl]; exact hj), up_ne (cid_ne (by decide)), up_ne (cid_ne (by decide)), up_ne (cid_ne (by decide)), up_ne (cid_ne (by decide))]
    show alC _ _ ((up (up (up (up (up S 16 (ncl S) s_) 17 (ncl S) much) 18 (ncl S) (S 1 0)) 19 (ncl S) (-1)) 15 0 (S 15 0 + 1)) (cid i) 0) = alC _ _ (S (cid i) 0)
    rw [e]
  | 13, _, _ => rfl
  | 14, _, _ => rfl
  | 15, _, _ => rfl
  | 16, _, _ => rfl
  | 17, _, _ => rfl
  | 18, _, _ => rfl
  | x + 19, hv, _ => exact hv.elim
theorem new_claim {cy : Nat → ClassId} {g : CWt} {S : St} (hN : MInv S) (hZ : ZR S) (s_ : Int32) (much : Int32) : ccell cy g (up (up (up (up (up S 16 (ncl S) s_) 17 (ncl S) much) 18 (ncl S) (S 1 0)) 19 (ncl S) (-1)) 15 0 (S 15 0 + 1)) 6 (ncl S) = .inr (1, [.int s_, .int much, .int (S 1 0), .int (-1)]) := by
  simp [ccell, up_app]
theorem ss_deal {cy : Nat → ClassId} {g : CWt} {S : St} (hT : CT g S) (t : Int32) (o_ : Int32) (much : Int32) : ∀ k i, cval g k i → ¬ (k = 12 ∧ i = 2) → ccell cy g (up (up (up (up (up S 24 (ndl S) t) 25 (ndl S) o_) 26 (ndl S) much) 27 (ndl S) (S 1 0)) 23 0 (S 23 0 + 1)) k i = ccell cy g S k i := by
  intro k i hv hx
  match k, hv, hx with
  | 0, _, _ => rfl
  | 1, _, _ => rfl
  | 2, _, _ => rfl
  | 3, _, _ => rfl
  | 4, _, _ => rfl
  | 5, _, _ => rfl
  | 6, _, _ => rfl
  | 7, hv, _ =>
    have hi : i ≠ ndl S := Nat.ne_of_lt (hT.1.2.2.1 ▸ (show i < gc g 12 2 from hv))
    have hi2 : ¬ i = ix (S 23 0) := hi
    simp [ccell, up_app, hi, hi2]
  | 8, _, _ => rfl
  | 9, _, _ => rfl
  | 10, _, _ => rfl
  | 11, _, _ => rfl
  | 12, hv, hx =>
    have hj : cid i ≠ cid 2 := cid_ne2 hv (fun h => hx ⟨rfl, h⟩) (by decide)
    have e : (up (up (up (up (up S 24 (ndl S) t) 25 (ndl S) o_) 26 (ndl S) much) 27 (ndl S) (S 1 0)) 23 0 (S 23 0 + 1)) (cid i) = S (cid i) := by
      rw [up_ne (by rw [show (23 : Nat) = cid 2 from rfl]; exact hj), up_ne (cid_ne (by decide)), up_ne (cid_ne (by decide)), up_ne (cid_ne (by decide)), up_ne (cid_ne (by decide))]
    show alC _ _ ((up (up (up (up (up S 24 (ndl S) t) 25 (ndl S) o_) 26 (ndl S) much) 27 (ndl S) (S 1 0)) 23 0 (S 23 0 + 1)) (cid i) 0) = alC _ _ (S (cid i) 0)
    rw [e]
  | 13, _, _ => rfl
  | 14, _, _ => rfl
  | 15, _, _ => rfl
  | 16, _, _ => rfl
  | 17, _, _ => rfl
  | 18, _, _ => rfl
  | x + 19, hv, _ => exact hv.elim
theorem new_deal {cy : Nat → ClassId} {g : CWt} {S : St} (hN : MInv S) (hZ : ZR S) (t : Int32) (o_ : Int32) (much : Int32) : ccell cy g (up (up (up (up (up S 24 (ndl S) t) 25 (ndl S) o_) 26 (ndl S) much) 27 (ndl S) (S 1 0)) 23 0 (S 23 0 + 1)) 7 (ndl S) = .inr (2, [.int t, .int o_, .int much, .int (S 1 0)]) := by
  simp [ccell, up_app]
def fX7_scheme (S : St) (f : Int32) (set : Int32) (by_ : Int32) : Int32 × Int32 × St := (if okI f 6 then (if okR set 1 65535 then (if okR by_ 0 2 then (if 8 ≤ (S 7 0) then (0, 3, S) else ((((S 7 0) + 1) - 1), 0, (up (up (up (up (up S 8 (nsc S) f) 9 (nsc S) set) 10 (nsc S) by_) 11 (nsc S) 1) 7 0 ((S 7 0) + 1)))) else (0, 2, S)) else (0, 2, S)) else (0, 1, S))
def fX7_claim (S : St) (s_ : Int32) (much : Int32) : Int32 × Int32 × St := (if okI s_ (S 7 0) then (if okR much 1 9999 then (if 40 ≤ (S 15 0) then (0, 3, S) else ((((S 15 0) + 1) - 1), 0, (up (up (up (up (up S 16 (ncl S) s_) 17 (ncl S) much) 18 (ncl S) (S 1 0)) 19 (ncl S) (-1)) 15 0 ((S 15 0) + 1)))) else (0, 2, S)) else (0, 1, S))
def fX7_deal (S : St) (t : Int32) (o_ : Int32) (much : Int32) : Int32 × Int32 × St := (if okI t 8 then (if okI o_ 8 then (if t = o_ then (0, 2, S) else (if okR much 1 100 then (if 20 ≤ (S 23 0) then (0, 3, S) else (if 100 < ((S 60 (ix t)) + much) then (0, 3, S) else (((S 60 (ix t)) + much), 0, (up (up (up (up (up (up S 24 (ndl S) t) 25 (ndl S) o_) 26 (ndl S) much) 27 (ndl S) (S 1 0)) 23 0 ((S 23 0) + 1)) 60 (ix t) ((S 60 (ix t)) + much))))) else (0, 2, S))) else (0, 1, S)) else (0, 1, S))
set_option maxHeartbeats 4000000 in
set_option maxRecDepth 100000 in
theorem qX7_scheme (l : Launch) (hfl : l.stackTraces = false) (A : Nat → Prop) (D : va_G) (cy : Nat → ClassId) (g : CWt) (hL : CL A g) (S : St) (e0 mi n0 : Nat) (hA : ∀ q, n0 ≤ q → A q) (hV : CV e0 g S) (hZ : ZR S) (f : Int32) (set : Int32) (by_ : Int32) : vx_Met l yX7_scheme wsX7_scheme ({ frames := 8, cells := 3, slots := 165, locals := 171 } : Room) (va_Pc [.ref (ga g 18 0), .int f, .int set, .int by_] (fun U => (CP D cy g S U ∧ JT A U U.heap) ∧ JX A D cy e0 mi U U.heap ∧ JO U ∧ n0 ≤ U.heap.size)) (va_Qi (fun (r : Int32) (g1 : CWt) => (fX7_scheme S f set by_).2.1 = 0 ∧ r = (fX7_scheme S f set by_).1 ∧ CL A g1 ∧ CG e0 g1 ∧ CT g1 (fX7_scheme S f set by_).2.2 ∧ ga g1 18 0 = ga g 18 0) (fun g1 t9 => CH D cy g1 (fX7_scheme S f set by_).2.2 t9.heap) A) (XF A D cy g S (fX7_scheme S f set by_).2.1) 3 165 A := by
  refine vx_ofW (cc := cX7_scheme) (maxL := 4) (ret := (some .int)) (by decide) rfl ?_
  intro p e s m args below meth c s₁ B hml hno hv
  obtain ⟨rfl, ⟨⟨hM, hK⟩, hJ⟩, hJX, hW, hn0⟩ := hv
  have hx := B.exec
  have hb := B.bytes
  have hr := B.returns
  have hts := atoms_spec (ws := wsX7_scheme) B.pre
  have hown : s.vm.findClass RX7 = some m.cls := findClass_of_methodNamed B.named
  have hlocks := B.notSynchronized
  have hC : CC p s m _ c cX7_scheme 4 RX7 D cy wsX7_scheme := ⟨⟨hx, hb, hml, hown, hts⟩, hK⟩
  have hI : CI A D cy g s S s.heap [] := ⟨hM, va_S.rf⟩
  have hT := hV.2.1
  have hN := hV.2.2.1
  have hQ := hV.2.2.2
  have hb7 := hN.b7
  have hb15 := hN.b15
  have hb23 := hN.b23
  have hb28 := hN.b28
  have hb42 := hN.b42
  have hb64 := hQ.b64
  have k_89 := hts (.constant RX7 89 (65535)) (List.mem_cons_of_mem _ (List.mem_append_left _ (List.mem_append_left _ (List.mem_append_left _ (List.mem_append_left _ (List.mem_append_left _ (List.mem_append_left _ (List.mem_append_left _ (List.mem_of_getElem? (i := 0) rfl)))))))))
  have k_28 := hts (.fieldLink RX7 28 "RelatorsBench" "schemes" "Ljava/util/ArrayList;") (List.mem_cons_of_mem _ (List.mem_append_left _ (List.mem_append_left _ (List.mem_append_left _ (List.mem_append_left _ (List.mem_append_left _ (List.mem_append_left _ (List.mem_append_left _ (List.mem_of_getElem? (i := 1) rfl)))))))))
  have hinX7 : ∀ w ∈ wsX70, w ∈ wsX7_scheme := fun _ h => List.mem_cons_of_mem _ (List.mem_append_left _ (List.mem_append_left _ (List.mem_append_left _ (List.mem_append_left _ (List.mem_append_left _ (List.mem_append_right _ (h)))))))
  have hinX4 : ∀ w ∈ wsX40, w ∈ wsX7_scheme := fun _ h => List.mem_cons_of_mem _ (List.mem_append_left _ (List.mem_append_left _ (List.mem_append_left _ (List.mem_append_left _ (List.mem_append_right _ (h))))))
  have hl := lv_entry ([.ref (ga g 18 0), .int f, .int set, .int by_]) (n := 4) (Nat.le_of_ble_eq_true rfl)
  rw [lg_entry_eq]
  generalize (lg_sl ([.ref (ga g 18 0), .int f, .int set, .int by_]) ++ List.replicate (4 - (lg_sl ([.ref (ga g 18 0), .int f, .int set, .int by_])).length) Slot.unset).toArray = ls at hl ⊢
  have hl : lv_has ls 4 [(0, .ref (ga g 18 0)), (1, .int f), (2, .int set), (3, .int by_)] := hl
  have hG : fX7_scheme S f set by_ = fX7_scheme S f set by_ := rfl
  refine lv_iload_n hx hb dX7_scheme_0 rfl (lv_at hl 1 rfl) ?_
  refine lv_bipush (v := 6) hx hb dX7_scheme_1 (by decide) ?_
  by_cases c_1 : okI f 6
  · have hG := hG.trans (if_pos c_1)
    refine cr_pass (As := [.int f, .int 6]) (rest := []) hC hI (qX7_checkIndex l f 6 c_1) (va_cwS 2 hts gX7_scheme_X7_checkIndex rfl rfl rfl (by decide +kernel) ⟨Nat.le_of_ble_eq_true rfl, Nat.le_of_ble_eq_true rfl⟩) rfl hl.1 rfl (Nat.le_of_ble_eq_true rfl) dX7_scheme_3 ⟨Nat.le_of_ble_eq_true rfl, Nat.le_of_ble_eq_true rfl⟩ (fun H locs hI => ?_)
    refine lv_iload_n hx hb dX7_scheme_6 rfl (lv_at hl 2 rfl) ?_
    refine lv_iconst (v := 1) hx hb dX7_scheme_7 (by decide) ?_
    refine lv_ldc hx hb hown k_89 dX7_scheme_8 ?_
    by_cases c_2 : okR set 1 65535
    · have hG := hG.trans (if_pos c_2)
      refine cr_pass (As := [.int set, .int 1, .int 65535]) (rest := []) hC hI (qX7_checkRange l set 1 65535 c_2) (va_cwS 3 hts gX7_scheme_X7_checkRange rfl rfl rfl (by decide +kernel) ⟨Nat.le_of_ble_eq_true rfl, Nat.le_of_ble_eq_true rfl⟩) rfl hl.1 rfl (Nat.le_of_ble_eq_true rfl) dX7_scheme_10 ⟨Nat.le_of_ble_eq_true rfl, Nat.le_of_ble_eq_true rfl⟩ (fun H locs hI => ?_)
      refine lv_iload_n hx hb dX7_scheme_13 rfl (lv_at hl 3 rfl) ?_
      refine lv_iconst (v := 0) hx hb dX7_scheme_14 (by decide) ?_
      refine lv_iconst (v := 2) hx hb dX7_scheme_15 (by decide) ?_
      by_cases c_3 : okR by_ 0 2
      · have hG := hG.trans (if_pos c_3)
        refine cr_pass (As := [.int by_, .int 0, .int 2]) (rest := []) hC hI (qX7_checkRange l by_ 0 2 c_3) (va_cwS 3 hts gX7_scheme_X7_checkRange rfl rfl rfl (by decide +kernel) ⟨Nat.le_of_ble_eq_true rfl, Nat.le_of_ble_eq_true rfl⟩) rfl hl.1 rfl (Nat.le_of_ble_eq_true rfl) dX7_scheme_16 ⟨Nat.le_of_ble_eq_true rfl, Nat.le_of_ble_eq_true rfl⟩ (fun H locs hI => ?_)
        refine lv_aload_n hx hb dX7_scheme_19 rfl (lv_at hl 0 rfl) ?_
        refine cr_get (ci := 8) hC hI 18 0 rfl rfl rfl hinX7 3 (by decide) k_28 (fun _ h => h) (v := .ref (ga g 12 0)) rfl dX7_scheme_20 ?_
        refine cr_size (rest := []) hC hI 12 0 (show 0 < 4 by decide) rfl (cwV 0 hts gX7_scheme_Jx4a65c_size_8abf5 rfl rfl rfl (by decide +kernel) ⟨Nat.le_of_ble_eq_true rfl, Nat.le_of_ble_eq_true rfl⟩) (qAL_size0 l D cy (ga g 12 0) (ga g 13 0) (gm g 12 0) _) hl.1 (Nat.le_of_ble_eq_true rfl) dX7_scheme_23 ⟨Nat.le_of_ble_eq_true rfl, Nat.le_of_ble_eq_true rfl⟩ (w := (S 7 0)) rfl (fun H locs hI => ?_)
        refine lv_bipush (v := 8) hx hb dX7_scheme_26 (by decide) ?_
        refine lv_icmp_ge (tgt := 35) hx hb dX7_scheme_28 (by decide) (fun c_4 => ?_) (fun c_4 => ?_)
        · have hG := hG.trans (if_pos c_4)
          refine lv_iconst (v := 0) hx hb dX7_scheme_35 (by decide) ?_
          exact ct_s (As := [.int 0]) (rest := []) hC.1 hI.2 hJ (tX7_checkState l hfl 0 (by decide)) (va_cwS 1 hts gX7_scheme_X7_checkState rfl rfl rfl (by decide +kernel) ⟨Nat.le_of_ble_eq_true rfl, Nat.le_of_ble_eq_true rfl⟩) rfl hl.1 rfl (Nat.le_of_ble_eq_true rfl) dX7_scheme_36 ⟨Nat.le_of_ble_eq_true rfl, Nat.le_of_ble_eq_true rfl⟩ hno hlocks (xf_of hI (by decide) (congrArg (fun z => z.2.1) hG)) (fun _ h => h) (Nat.le_of_ble_eq_true rfl) (Nat.le_of_ble_eq_true rfl)
        · have hG := hG.trans (if_neg c_4)
          refine lv_iconst (v := 1) hx hb dX7_scheme_31 (by decide) ?_
          refine lv_goto (tgt := 36) hx hb dX7_scheme_32 (by decide) ?_
          refine cr_pass (As := [.int 1]) (rest := []) hC hI (qX7_checkState l 1 (by decide)) (va_cwS 1 hts gX7_scheme_X7_checkState rfl rfl rfl (by decide +kernel) ⟨Nat.le_of_ble_eq_true rfl, Nat.le_of_ble_eq_true rfl⟩) rfl hl.1 rfl (Nat.le_of_ble_eq_true rfl) dX7_scheme_36 ⟨Nat.le_of_ble_eq_true rfl, Nat.le_of_ble_eq_true rfl⟩ (fun H locs hI => ?_)
          refine lv_aload_n hx hb dX7_scheme_39 rfl (lv_at hl 0 rfl) ?_
          refine cr_get (ci := 8) hC hI 18 0 rfl rfl rfl hinX7 3 (by decide) k_28 (fun _ h => h) (v := .ref (ga g 12 0)) rfl dX7_scheme_40 ?_
          obtain ⟨qn, a_qn⟩ : ∃ z, z = H.size := ⟨_, rfl⟩
          have hfr : ∀ k i, cval g k i → ga g k i ≠ qn := fun k i hv h => absurd (hI.1 k i hv).lt (by show ¬ ga g k i < H.size; rw [h, a_qn]; exact Nat.lt_irrefl _)
          have hAq : A qn := by rw [a_qn]; exact hA _ (Nat.le_trans hn0 hI.2.1)
          refine oi_new (ci := 5) (fs := [.int 0, .int 0, .int 0, .int 0, .int 0, .int 0, .int 0, .int 0, .int 0]) hC hI.2 hinX4 tyX4 tyX4_ok (hts (.classLink RX7 94 RX4) (List.mem_cons_of_mem _ (List.mem_append_left _ (List.mem_append_left _ (List.mem_append_left _ (List.mem_append_left _ (List.mem_append_left _ (List.mem_append_left _ (List.mem_append_left _ (List.mem_of_getElem? (i := 2) rfl)))))))))) (hts (.instantiable RX4 9) (List.mem_cons_of_mem _ (List.mem_append_left _ (List.mem_append_left _ (List.mem_append_left _ (List.mem_append_left _ (List.mem_append_left _ (List.mem_append_left _ (List.mem_append_left _ (List.mem_of_getElem? (i := 3) rfl)))))))))) (hts (.initialized RX4) (List.mem_cons_of_mem _ (List.mem_append_left _ (List.mem_append_left _ (List.mem_append_left _ (List.mem_append_left _ (List.mem_append_left _ (List.mem_append_left _ (List.mem_append_left _ (List.mem_of_getElem? (i := 4) rfl)))))))))) rfl (by decide +kernel) (Nat.le_of_ble_eq_true rfl) (Nat.le_of_ble_eq_true rfl) dX7_scheme_43 (fun H2 hO hq hz hS => ?_)
          have hI : CI A D cy g s S H2 locs := ⟨hI.1.keep hq, hS⟩
          rw [← a_qn] at hO ⊢
          refine lv_dup hx hb dX7_scheme_46 rfl ?_
          refine lv_aload_n hx hb dX7_scheme_47 rfl (lv_at hl 0 rfl) ?_
          refine cr_get (ci := 8) hC hI 18 0 rfl rfl rfl hinX7 3 (by decide) k_28 (fun _ h => h) (v := .ref (ga g 12 0)) rfl dX7_scheme_48 ?_
          refine cr_sizeK (rest := [.ref qn, .ref qn, .ref (ga g 12 0)]) hC hI 12 0 (show 0 < 4 by decide) rfl (cwV 0 hts gX7_scheme_Jx4a65c_size_8abf5 rfl rfl rfl (by decide +kernel) ⟨Nat.le_of_ble_eq_true rfl, Nat.le_of_ble_eq_true rfl⟩) (qAL_size0 l D cy (ga g 12 0) (ga g 13 0) (gm g 12 0) _) hl.1 (Nat.le_of_ble_eq_true rfl) dX7_scheme_51 ⟨Nat.le_of_ble_eq_true rfl, Nat.le_of_ble_eq_true rfl⟩ (w := (S 7 0)) rfl (fun H locs hk hI => ?_)
          have hO := at_keep hO hk
          refine lv_iload_n hx hb dX7_scheme_54 rfl (lv_at hl 1 rfl) ?_
          refine lv_iload_n hx hb dX7_scheme_55 rfl (lv_at hl 2 rfl) ?_
          refine lv_iload_n hx hb dX7_scheme_56 rfl (lv_at hl 3 rfl) ?_
          refine oi_init (As := [.int (S 7 0), .int f, .int set, .int by_]) (rest := [.ref qn, .ref (ga g 12 0)]) hC hO hI.2 hAq (qX4_init l D cy qn (S 7 0) f set by_) (cwI 4 hts gX7_scheme_X4_init rfl rfl rfl (hts (.initialized RX4) (List.mem_cons_of_mem _ (List.mem_append_left _ (List.mem_append_left _ (List.mem_append_left _ (List.mem_append_left _ (List.mem_append_left _ (List.mem_append_left _ (List.mem_append_left _ (List.mem_of_getElem? (i := 4) rfl)))))))))) (hts (.methodLink RX7 96 yX4_init) (List.mem_cons_of_mem _ (List.mem_append_left _ (List.mem_append_left _ (List.mem_append_left _ (List.mem_append_left _ (List.mem_append_left _ (List.mem_append_left _ (List.mem_append_right _ (List.mem_append_left _ (List.mem_of_getElem? (i := 6) rfl))))))))))) (hts (.instanceMethod yX4_init) (List.mem_cons_of_mem _ (List.mem_append_left _ (List.mem_append_left _ (List.mem_append_left _ (List.mem_append_left _ (List.mem_append_left _ (List.mem_append_left _ (List.mem_append_right _ (List.mem_append_left _ (List.mem_of_getElem? (i := 7) rfl))))))))))) rfl (by decide +kernel) ⟨Nat.le_of_ble_eq_true rfl, Nat.le_of_ble_eq_true rfl⟩) rfl hl.1 rfl (Nat.le_of_ble_eq_true rfl) dX7_scheme_57 ⟨(Nat.le_of_ble_eq_true rfl), (Nat.le_of_ble_eq_true rfl)⟩ (fun H locs hO hq hz hS => ?_)
          have hI : CI A D cy g s S H locs := ⟨fun k i hv => (hI.1 k i hv).kept (hq _ (hI.1 k i hv).lt (hfr k i hv)), hS⟩
          refine fa_add0 (rest := []) hC hV hL hI hJX hW (fun q h => hA q (Nat.le_trans hn0 h)) (n := nsc S) hT.1.1 hO hfr hAq (S' := (up (up (up (up (up S 8 (nsc S) f) 9 (nsc S) set) 10 (nsc S) by_) 11 (nsc S) 1) 7 0 ((S 7 0) + 1))) (ss_scheme hT f set by_) (new_scheme hN hZ f set by_) (by show S 7 0 + 1 = _; rw [hN.n7]; exact nI_1 _) ⟨rfl, rfl, rfl, rfl⟩ (cwV 1 hts gX7_scheme_Jx4a65c_add_9ea2d rfl rfl rfl (by decide +kernel) ⟨Nat.le_of_ble_eq_true rfl, Nat.le_of_ble_eq_true rfl⟩) (cwV 1 hts gX7_scheme_Jx4a65c_add_9ea2d rfl rfl rfl (by decide +kernel) ⟨Nat.le_of_ble_eq_true rfl, Nat.le_of_ble_eq_true rfl⟩) (cwV 1 hts gX7_scheme_Jx4a65c_add_9ea2d rfl rfl rfl (by decide +kernel) ⟨Nat.le_of_ble_eq_true rfl, Nat.le_of_ble_eq_true rfl⟩) hl.1 (Nat.le_of_ble_eq_true rfl) dX7_scheme_60 ⟨(Nat.le_of_ble_eq_true rfl), (Nat.le_of_ble_eq_true rfl)⟩ (fun md ra cap f_ H locs hgv hL hG1 hT1 hI => ?_)
          refine lv_pop hx hb dX7_scheme_63 rfl ?_
          refine lv_aload_n hx hb dX7_scheme_64 rfl (lv_at hl 0 rfl) ?_
          refine cr_get (ci := 8) hC hI 18 0 rfl rfl rfl hinX7 3 (by decide) k_28 (fun _ h => h) (v := .ref (ga (gx0 g (nsc S) qn md ra cap f_) 12 0)) rfl dX7_scheme_65 ?_
          refine cr_size (rest := []) hC hI 12 0 (show 0 < 4 by decide) rfl (cwV 0 hts gX7_scheme_Jx4a65c_size_8abf5 rfl rfl rfl (by decide +kernel) ⟨Nat.le_of_ble_eq_true rfl, Nat.le_of_ble_eq_true rfl⟩) (qAL_size0 l D cy (ga (gx0 g (nsc S) qn md ra cap f_) 12 0) (ga (gx0 g (nsc S) qn md ra cap f_) 13 0) (gm (gx0 g (nsc S) qn md ra cap f_) 12 0) _) hl.1 (Nat.le_of_ble_eq_true rfl) dX7_scheme_68 ⟨Nat.le_of_ble_eq_true rfl, Nat.le_of_ble_eq_true rfl⟩ (w := ((S 7 0) + 1)) (up_at _ _ _ _) (fun H locs hI => ?_)
          refine lv_iconst (v := 1) hx hb dX7_scheme_71 (by decide) ?_
          refine lv_isub hx hb dX7_scheme_72 ?_
          refine vx_ret ?_
          refine W.widen (k := 3) (n := 165) (Nat.le_of_ble_eq_true rfl) (Nat.le_of_ble_eq_true rfl) ?_
          exact W.iret (v := (((S 7 0) + 1) - 1)) hx hb hr (fun t9 ht9 hW9 => ⟨⟨(((S 7 0) + 1) - 1), (gx0 g (nsc S) qn md ra cap f_), rfl, ⟨congrArg (fun z => z.2.1) hG, (congrArg Prod.fst hG).symm, hL, hG1, (by rw [hG]; exact hT1), rfl⟩, by show CH D cy _ _ t9.heap; rw [ht9, hG]; exact hI.1⟩, hI.2.F ht9⟩) hI.2.2.2 dX7_scheme_73
      · have hG := hG.trans (if_neg c_3)
        exact ct_s (As := [.int by_, .int 0, .int 2]) (rest := []) hC.1 hI.2 hJ (tX7_checkRange l hfl by_ 0 2 c_3) (va_cwS 3 hts gX7_scheme_X7_checkRange rfl rfl rfl (by decide +kernel) ⟨Nat.le_of_ble_eq_true rfl, Nat.le_of_ble_eq_true rfl⟩) rfl hl.1 rfl (Nat.le_of_ble_eq_true rfl) dX7_scheme_16 ⟨Nat.le_of_ble_eq_true rfl, Nat.le_of_ble_eq_true rfl⟩ hno hlocks (xf_of hI (by decide) (congrArg (fun z => z.2.1) hG)) (fun _ h => h) (Nat.le_of_ble_eq_true rfl) (Nat.le_of_ble_eq_true rfl)
    · have hG := hG.trans (if_neg c_2)
      exact ct_s (As := [.int set, .int 1, .int 65535]) (rest := []) hC.1 hI.2 hJ (tX7_checkRange l hfl set 1 65535 c_2) (va_cwS 3 hts gX7_scheme_X7_checkRange rfl rfl rfl (by decide +kernel) ⟨Nat.le_of_ble_eq_true rfl, Nat.le_of_ble_eq_true rfl⟩) rfl hl.1 rfl (Nat.le_of_ble_eq_true rfl) dX7_scheme_10 ⟨Nat.le_of_ble_eq_true rfl, Nat.le_of_ble_eq_true rfl⟩ hno hlocks (xf_of hI (by decide) (congrArg (fun z => z.2.1) hG)) (fun _ h => h) (Nat.le_of_ble_eq_true rfl) (Nat.le_of_ble_eq_true rfl)
  · have hG := hG.trans (if_neg c_1)
    exact ct_s (As := [.int f, .int 6]) (rest := []) hC.1 hI.2 hJ (tX7_checkIndex l hfl f 6 c_1) (va_cwS 2 hts gX7_scheme_X7_checkIndex rfl rfl rfl (by decide +kernel) ⟨Nat.le_of_ble_eq_true rfl, Nat.le_of_ble_eq_true rfl⟩) rfl hl.1 rfl (Nat.le_of_ble_eq_true rfl) dX7_scheme_3 ⟨Nat.le_of_ble_eq_true rfl, Nat.le_of_ble_eq_true rfl⟩ hno hlocks (xf_of hI (by decide) (congrArg (fun z => z.2.1) hG)) (fun _ h => h) (Nat.le_of_ble_eq_true rfl) (Nat.le_of_ble_eq_true rfl)
set_option maxHeartbeats 4000000 in
set_option maxRecDepth 100000 in
theorem qX7_claim (l : Launch) (hfl : l.stackTraces = false) (A : Nat → Prop) (D : va_G) (cy : Nat → ClassId) (g : CWt) (hL : CL A g) (S : St) (e0 mi n0 : Nat) (hA : ∀ q, n0 ≤ q → A q) (hV : CV e0 g S) (hZ : ZR S) (s_ : Int32) (much : Int32) : vx_Met l yX7_claim wsX7_claim ({ frames := 8, cells := 3, slots := 160, locals := 171 } : Room) (va_Pc [.ref (ga g 18 0), .int s_, .int much] (fun U => (CP D cy g S U ∧ JT A U U.heap) ∧ JX A D cy e0 mi U U.heap ∧ JO U ∧ n0 ≤ U.heap.size)) (va_Qi (fun (r : Int32) (g1 : CWt) => (fX7_claim S s_ much).2.1 = 0 ∧ r = (fX7_claim S s_ much).1 ∧ CL A g1 ∧ CG e0 g1 ∧ CT g1 (fX7_claim S s_ much).2.2 ∧ ga g1 18 0 = ga g 18 0) (fun g1 t9 => CH D cy g1 (fX7_claim S s_ much).2.2 t9.heap) A) (XF A D cy g S (fX7_claim S s_ much).2.1) 3 160 A := by
  refine vx_ofW (cc := cX7_claim) (maxL := 3) (ret := (some .int)) (by decide) rfl ?_
  intro p e s m args below meth c s₁ B hml hno hv
  obtain ⟨rfl, ⟨⟨hM, hK⟩, hJ⟩, hJX, hW, hn0⟩ := hv
  have hx := B.exec
  have hb := B.bytes
  have hr := B.returns
  have hts := atoms_spec (ws := wsX7_claim) B.pre
  have hown : s.vm.findClass RX7 = some m.cls := findClass_of_methodNamed B.named
  have hlocks := B.notSynchronized
  have hC : CC p s m _ c cX7_claim 3 RX7 D cy wsX7_claim := ⟨⟨hx, hb, hml, hown, hts⟩, hK⟩
  have hI : CI A D cy g s S s.heap [] := ⟨hM, va_S.rf⟩
  have hT := hV.2.1
  have hN := hV.2.2.1
  have hQ := hV.2.2.2
  have hb7 := hN.b7
  have hb15 := hN.b15
  have hb23 := hN.b23
  have hb28 := hN.b28
  have hb42 := hN.b42
  have hb64 := hQ.b64
  have k_28 := hts (.fieldLink RX7 28 "RelatorsBench" "schemes" "Ljava/util/ArrayList;") (List.mem_cons_of_mem _ (List.mem_append_left _ (List.mem_append_left _ (List.mem_append_left _ (List.mem_append_left _ (List.mem_append_left _ (List.mem_append_left _ (List.mem_append_left _ (List.mem_of_getElem? (i := 0) rfl)))))))))
  have hinX7 : ∀ w ∈ wsX70, w ∈ wsX7_claim := fun _ h => List.mem_cons_of_mem _ (List.mem_append_left _ (List.mem_append_left _ (List.mem_append_left _ (List.mem_append_left _ (List.mem_append_left _ (List.mem_append_right _ (h)))))))
  have k_32 := hts (.fieldLink RX7 32 "RelatorsBench" "claims" "Ljava/util/ArrayList;") (List.mem_cons_of_mem _ (List.mem_append_left _ (List.mem_append_left _ (List.mem_append_left _ (List.mem_append_left _ (List.mem_append_left _ (List.mem_append_left _ (List.mem_append_left _ (List.mem_of_getElem? (i := 1) rfl)))))))))
  have hinX0 : ∀ w ∈ wsX00, w ∈ wsX7_claim := fun _ h => List.mem_cons_of_mem _ (List.mem_append_left _ (List.mem_append_left _ (List.mem_append_left _ (List.mem_append_left _ (List.mem_append_right _ (h))))))
  have k_51 := hts (.fieldLink RX7 51 "RelatorsBench" "today" "I") (List.mem_cons_of_mem _ (List.mem_append_left _ (List.mem_append_left _ (List.mem_append_left _ (List.mem_append_left _ (List.mem_append_left _ (List.mem_append_left _ (List.mem_append_left _ (List.mem_of_getElem? (i := 5) rfl)))))))))
  have hl := lv_entry ([.ref (ga g 18 0), .int s_, .int much]) (n := 3) (Nat.le_of_ble_eq_true rfl)
  rw [lg_entry_eq]
  generalize (lg_sl ([.ref (ga g 18 0), .int s_, .int much]) ++ List.replicate (3 - (lg_sl ([.ref (ga g 18 0), .int s_, .int much])).length) Slot.unset).toArray = ls at hl ⊢
  have hl : lv_has ls 3 [(0, .ref (ga g 18 0)), (1, .int s_), (2, .int much)] := hl
  have hG : fX7_claim S s_ much = fX7_claim S s_ much := rfl
  refine lv_iload_n hx hb dX7_claim_0 rfl (lv_at hl 1 rfl) ?_
  refine lv_aload_n hx hb dX7_claim_1 rfl (lv_at hl 0 rfl) ?_
  refine cr_get (ci := 8) hC hI 18 0 rfl rfl rfl hinX7 3 (by decide) k_28 (fun _ h => h) (v := .ref (ga g 12 0)) rfl dX7_claim_2 ?_
  refine cr_size (rest := [.int s_]) hC hI 12 0 (show 0 < 4 by decide) rfl (cwV 0 hts gX7_claim_Jx4a65c_size_8abf5 rfl rfl rfl (by decide +kernel) ⟨Nat.le_of_ble_eq_true rfl, Nat.le_of_ble_eq_true rfl⟩) (qAL_size0 l D cy (ga g 12 0) (ga g 13 0) (gm g 12 0) _) hl.1 (Nat.le_of_ble_eq_true rfl) dX7_claim_5 ⟨Nat.le_of_ble_eq_true rfl, Nat.le_of_ble_eq_true rfl⟩ (w := (S 7 0)) rfl (fun H locs hI => ?_)
  by_cases c_1 : okI s_ (S 7 0)
  · have hG := hG.trans (if_pos c_1)
    refine cr_pass (As := [.int s_, .int (S 7 0)]) (rest := []) hC hI (qX7_checkIndex l s_ (S 7 0) c_1) (va_cwS 2 hts gX7_claim_X7_checkIndex rfl rfl rfl (by decide +kernel) ⟨Nat.le_of_ble_eq_true rfl, Nat.le_of_ble_eq_true rfl⟩) rfl hl.1 rfl (Nat.le_of_ble_eq_true rfl) dX7_claim_8 ⟨Nat.le_of_ble_eq_true rfl, Nat.le_of_ble_eq_true rfl⟩ (fun H locs hI => ?_)
    refine lv_iload_n hx hb dX7_claim_11 rfl (lv_at hl 2 rfl) ?_
    refine lv_iconst (v := 1) hx hb dX7_claim_12 (by decide) ?_
    refine lv_sipush (v := 9999) hx hb dX7_claim_13 (by decide) ?_
    by_cases c_2 : okR much 1 9999
    · have hG := hG.trans (if_pos c_2)
      refine cr_pass (As := [.int much, .int 1, .int 9999]) (rest := []) hC hI (qX7_checkRange l much 1 9999 c_2) (va_cwS 3 hts gX7_claim_X7_checkRange rfl rfl rfl (by decide +kernel) ⟨Nat.le_of_ble_eq_true rfl, Nat.le_of_ble_eq_true rfl⟩) rfl hl.1 rfl (Nat.le_of_ble_eq_true rfl) dX7_claim_16 ⟨Nat.le_of_ble_eq_true rfl, Nat.le_of_ble_eq_true rfl⟩ (fun H locs hI => ?_)
      refine lv_aload_n hx hb dX7_claim_19 rfl (lv_at hl 0 rfl) ?_
      refine cr_get (ci := 8) hC hI 18 0 rfl rfl rfl hinX7 4 (by decide) k_32 (fun _ h => h) (v := .ref (ga g 12 1)) rfl dX7_claim_20 ?_
      refine cr_size (rest := []) hC hI 12 1 (show 1 < 4 by decide) rfl (cwV 0 hts gX7_claim_Jx4a65c_size_8abf5 rfl rfl rfl (by decide +kernel) ⟨Nat.le_of_ble_eq_true rfl, Nat.le_of_ble_eq_true rfl⟩) (qAL_size0 l D cy (ga g 12 1) (ga g 13 1) (gm g 12 1) _) hl.1 (Nat.le_of_ble_eq_true rfl) dX7_claim_23 ⟨Nat.le_of_ble_eq_true rfl, Nat.le_of_ble_eq_true rfl⟩ (w := (S 15 0)) rfl (fun H locs hI => ?_)
      refine lv_bipush (v := 40) hx hb dX7_claim_26 (by decide) ?_
      refine lv_icmp_ge (tgt := 35) hx hb dX7_claim_28 (by decide) (fun c_3 => ?_) (fun c_3 => ?_)
      · have hG := hG.trans (if_pos c_3)
        refine lv_iconst (v := 0) hx hb dX7_claim_35 (by decide) ?_
        exact ct_s (As := [.int 0]) (rest := []) hC.1 hI.2 hJ (tX7_checkState l hfl 0 (by decide)) (va_cwS 1 hts gX7_claim_X7_checkState rfl rfl rfl (by decide +kernel) ⟨Nat.le_of_ble_eq_true rfl, Nat.le_of_ble_eq_true rfl⟩) rfl hl.1 rfl (Nat.le_of_ble_eq_true rfl) dX7_claim_36 ⟨Nat.le_of_ble_eq_true rfl, Nat.le_of_ble_eq_true rfl⟩ hno hlocks (xf_of hI (by decide) (congrArg (fun z => z.2.1) hG)) (fun _ h => h) (Nat.le_of_ble_eq_true rfl) (Nat.le_of_ble_eq_true rfl)
      · have hG := hG.trans (if_neg c_3)
        refine lv_iconst (v := 1) hx hb dX7_claim_31 (by decide) ?_
        refine lv_goto (tgt := 36) hx hb dX7_claim_32 (by decide) ?_
        refine cr_pass (As := [.int 1]) (rest := []) hC hI (qX7_checkState l 1 (by decide)) (va_cwS 1 hts gX7_claim_X7_checkState rfl rfl rfl (by decide +kernel) ⟨Nat.le_of_ble_eq_true rfl, Nat.le_of_ble_eq_true rfl⟩) rfl hl.1 rfl (Nat.le_of_ble_eq_true rfl) dX7_claim_36 ⟨Nat.le_of_ble_eq_true rfl, Nat.le_of_ble_eq_true rfl⟩ (fun H locs hI => ?_)
        refine lv_aload_n hx hb dX7_claim_39 rfl (lv_at hl 0 rfl) ?_
        refine cr_get (ci := 8) hC hI 18 0 rfl rfl rfl hinX7 4 (by decide) k_32 (fun _ h => h) (v := .ref (ga g 12 1)) rfl dX7_claim_40 ?_
        obtain ⟨qn, a_qn⟩ : ∃ z, z = H.size := ⟨_, rfl⟩
        have hfr : ∀ k i, cval g k i → ga g k i ≠ qn := fun k i hv h => absurd (hI.1 k i hv).lt (by show ¬ ga g k i < H.size; rw [h, a_qn]; exact Nat.lt_irrefl _)
        have hAq : A qn := by rw [a_qn]; exact hA _ (Nat.le_trans hn0 hI.2.1)
        refine oi_new (ci := 1) (fs := [.int 0, .int 0, .int 0, .int 0]) hC hI.2 hinX0 tyX0 tyX0_ok (hts (.classLink RX7 103 RX0) (List.mem_cons_of_mem _ (List.mem_append_left _ (List.mem_append_left _ (List.mem_append_left _ (List.mem_append_left _ (List.mem_append_left _ (List.mem_append_left _ (List.mem_append_left _ (List.mem_of_getElem? (i := 2) rfl)))))))))) (hts (.instantiable RX0 4) (List.mem_cons_of_mem _ (List.mem_append_left _ (List.mem_append_left _ (List.mem_append_left _ (List.mem_append_left _ (List.mem_append_left _ (List.mem_append_left _ (List.mem_append_left _ (List.mem_of_getElem? (i := 3) rfl)))))))))) (hts (.initialized RX0) (List.mem_cons_of_mem _ (List.mem_append_left _ (List.mem_append_left _ (List.mem_append_left _ (List.mem_append_left _ (List.mem_append_left _ (List.mem_append_left _ (List.mem_append_left _ (List.mem_of_getElem? (i := 4) rfl)))))))))) rfl (by decide +kernel) (Nat.le_of_ble_eq_true rfl) (Nat.le_of_ble_eq_true rfl) dX7_claim_43 (fun H2 hO hq hz hS => ?_)
        have hI : CI A D cy g s S H2 locs := ⟨hI.1.keep hq, hS⟩
        rw [← a_qn] at hO ⊢
        refine lv_dup hx hb dX7_claim_46 rfl ?_
        refine lv_iload_n hx hb dX7_claim_47 rfl (lv_at hl 1 rfl) ?_
        refine lv_iload_n hx hb dX7_claim_48 rfl (lv_at hl 2 rfl) ?_
        refine lv_aload_n hx hb dX7_claim_49 rfl (lv_at hl 0 rfl) ?_
        refine cr_get (ci := 8) hC hI 18 0 rfl rfl rfl hinX7 10 (by decide) k_51 (fun _ h => h) (v := .int (S 1 0)) rfl dX7_claim_50 ?_
        refine oi_init (As := [.int s_, .int much, .int (S 1 0)]) (rest := [.ref qn, .ref (ga g 12 1)]) hC hO hI.2 hAq (qX0_init l D cy qn s_ much (S 1 0)) (cwI 3 hts gX7_claim_X0_init rfl rfl rfl (hts (.initialized RX0) (List.mem_cons_of_mem _ (List.mem_append_left _ (List.mem_append_left _ (List.mem_append_left _ (List.mem_append_left _ (List.mem_append_left _ (List.mem_append_left _ (List.mem_append_left _ (List.mem_of_getElem? (i := 4) rfl)))))))))) (hts (.methodLink RX7 105 yX0_init) (List.mem_cons_of_mem _ (List.mem_append_left _ (List.mem_append_left _ (List.mem_append_left _ (List.mem_append_left _ (List.mem_append_left _ (List.mem_append_left _ (List.mem_append_right _ (List.mem_append_left _ (List.mem_of_getElem? (i := 7) rfl))))))))))) (hts (.instanceMethod yX0_init) (List.mem_cons_of_mem _ (List.mem_append_left _ (List.mem_append_left _ (List.mem_append_left _ (List.mem_append_left _ (List.mem_append_left _ (List.mem_append_left _ (List.mem_append_right _ (List.mem_append_left _ (List.mem_of_getElem? (i := 8) rfl))))))))))) rfl (by decide +kernel) ⟨Nat.le_of_ble_eq_true rfl, Nat.le_of_ble_eq_true rfl⟩) rfl hl.1 rfl (Nat.le_of_ble_eq_true rfl) dX7_claim_53 ⟨(Nat.le_of_ble_eq_true rfl), (Nat.le_of_ble_eq_true rfl)⟩ (fun H locs hO hq hz hS => ?_)
        have hI : CI A D cy g s S H locs := ⟨fun k i hv => (hI.1 k i hv).kept (hq _ (hI.1 k i hv).lt (hfr k i hv)), hS⟩
        refine fa_add1 (rest := []) hC hV hL hI hJX hW (fun q h => hA q (Nat.le_trans hn0 h)) (n := ncl S) hT.1.2.1 hO hfr hAq (S' := (up (up (up (up (up S 16 (ncl S) s_) 17 (ncl S) much) 18 (ncl S) (S 1 0)) 19 (ncl S) (-1)) 15 0 ((S 15 0) + 1))) (ss_claim hT s_ much) (new_claim hN hZ s_ much) (by show S 15 0 + 1 = _; rw [hN.n15]; exact nI_1 _) ⟨rfl, rfl, rfl, rfl⟩ (cwV 1 hts gX7_claim_Jx4a65c_add_9ea2d rfl rfl rfl (by decide +kernel) ⟨Nat.le_of_ble_eq_true rfl, Nat.le_of_ble_eq_true rfl⟩) (cwV 1 hts gX7_claim_Jx4a65c_add_9ea2d rfl rfl rfl (by decide +kernel) ⟨Nat.le_of_ble_eq_true rfl, Nat.le_of_ble_eq_true rfl⟩) (cwV 1 hts gX7_claim_Jx4a65c_add_9ea2d rfl rfl rfl (by decide +kernel) ⟨Nat.le_of_ble_eq_true rfl, Nat.le_of_ble_eq_true rfl⟩) hl.1 (Nat.le_of_ble_eq_true rfl) dX7_claim_56 ⟨(Nat.le_of_ble_eq_true rfl), (Nat.le_of_ble_eq_true rfl)⟩ (fun md ra cap f_ H locs hgv hL hG1 hT1 hI => ?_)
        refine lv_pop hx hb dX7_claim_59 rfl ?_
        refine lv_aload_n hx hb dX7_claim_60 rfl (lv_at hl 0 rfl) ?_
        refine cr_get (ci := 8) hC hI 18 0 rfl rfl rfl hinX7 4 (by decide) k_32 (fun _ h => h) (v := .ref (ga (gx1 g (ncl S) qn md ra cap f_) 12 1)) rfl dX7_claim_61 ?_
        refine cr_size (rest := []) hC hI 12 1 (show 1 < 4 by decide) rfl (cwV 0 hts gX7_claim_Jx4a65c_size_8abf5 rfl rfl rfl (by decide +kernel) ⟨Nat.le_of_ble_eq_true rfl, Nat.le_of_ble_eq_true rfl⟩) (qAL_size0 l D cy (ga (gx1 g (ncl S) qn md ra cap f_) 12 1) (ga (gx1 g (ncl S) qn md ra cap f_) 13 1) (gm (gx1 g (ncl S) qn md ra cap f_) 12 1) _) hl.1 (Nat.le_of_ble_eq_true rfl) dX7_claim_64 ⟨Nat.le_of_ble_eq_true rfl, Nat.le_of_ble_eq_true rfl⟩ (w := ((S 15 0) + 1)) (up_at _ _ _ _) (fun H locs hI => ?_)
        refine lv_iconst (v := 1) hx hb dX7_claim_67 (by decide) ?_
        refine lv_isub hx hb dX7_claim_68 ?_
        refine vx_ret ?_
        refine W.widen (k := 3) (n := 160) (Nat.le_of_ble_eq_true rfl) (Nat.le_of_ble_eq_true rfl) ?_
        exact W.iret (v := (((S 15 0) + 1) - 1)) hx hb hr (fun t9 ht9 hW9 => ⟨⟨(((S 15 0) + 1) - 1), (gx1 g (ncl S) qn md ra cap f_), rfl, ⟨congrArg (fun z => z.2.1) hG, (congrArg Prod.fst hG).symm, hL, hG1, (by rw [hG]; exact hT1), rfl⟩, by show CH D cy _ _ t9.heap; rw [ht9, hG]; exact hI.1⟩, hI.2.F ht9⟩) hI.2.2.2 dX7_claim_69
    · have hG := hG.trans (if_neg c_2)
      exact ct_s (As := [.int much, .int 1, .int 9999]) (rest := []) hC.1 hI.2 hJ (tX7_checkRange l hfl much 1 9999 c_2) (va_cwS 3 hts gX7_claim_X7_checkRange rfl rfl rfl (by decide +kernel) ⟨Nat.le_of_ble_eq_true rfl, Nat.le_of_ble_eq_true rfl⟩) rfl hl.1 rfl (Nat.le_of_ble_eq_true rfl) dX7_claim_16 ⟨Nat.le_of_ble_eq_true rfl, Nat.le_of_ble_eq_true rfl⟩ hno hlocks (xf_of hI (by decide) (congrArg (fun z => z.2.1) hG)) (fun _ h => h) (Nat.le_of_ble_eq_true rfl) (Nat.le_of_ble_eq_true rfl)
  · have hG := hG.trans (if_neg c_1)
    exact ct_s (As := [.int s_, .int (S 7 0)]) (rest := []) hC.1 hI.2 hJ (tX7_checkIndex l hfl s_ (S 7 0) c_1) (va_cwS 2 hts gX7_claim_X7_checkIndex rfl rfl rfl (by decide +kernel) ⟨Nat.le_of_ble_eq_true rfl, Nat.le_of_ble_eq_true rfl⟩) rfl hl.1 rfl (Nat.le_of_ble_eq_true rfl) dX7_claim_8 ⟨Nat.le_of_ble_eq_true rfl, Nat.le_of_ble_eq_true rfl⟩ hno hlocks (xf_of hI (by decide) (congrArg (fun z => z.2.1) hG)) (fun _ h => h) (Nat.le_of_ble_eq_true rfl) (Nat.le_of_ble_eq_true rfl)
set_option maxHeartbeats 4000000 in
set_option maxRecDepth 100000 in
theorem qX7_deal (l : Launch) (hfl : l.stackTraces = false) (A : Nat → Prop) (D : va_G) (cy : Nat → ClassId) (g : CWt) (hL : CL A g) (S : St) (e0 mi n0 : Nat) (hA : ∀ q, n0 ≤ q → A q) (hV : CV e0 g S) (hZ : ZR S) (t : Int32) (o_ : Int32) (much : Int32) : vx_Met l yX7_deal wsX7_deal ({ frames := 8, cells := 3, slots := 160, locals := 171 } : Room) (va_Pc [.ref (ga g 18 0), .int t, .int o_, .int much] (fun U => (CP D cy g S U ∧ JT A U U.heap) ∧ JX A D cy e0 mi U U.heap ∧ JO U ∧ n0 ≤ U.heap.size)) (va_Qi (fun (r : Int32) (g1 : CWt) => (fX7_deal S t o_ much).2.1 = 0 ∧ r = (fX7_deal S t o_ much).1 ∧ CL A g1 ∧ CG e0 g1 ∧ CT g1 (fX7_deal S t o_ much).2.2 ∧ ga g1 18 0 = ga g 18 0) (fun g1 t9 => CH D cy g1 (fX7_deal S t o_ much).2.2 t9.heap) A) (XF A D cy g S (fX7_deal S t o_ much).2.1) 3 160 A := by
  refine vx_ofW (cc := cX7_deal) (maxL := 5) (ret := (some .int)) (by decide) rfl ?_
  intro p e s m args below meth c s₁ B hml hno hv
  obtain ⟨rfl, ⟨⟨hM, hK⟩, hJ⟩, hJX, hW, hn0⟩ := hv
  have hx := B.exec
  have hb := B.bytes
  have hr := B.returns
  have hts := atoms_spec (ws := wsX7_deal) B.pre
  have hown : s.vm.findClass RX7 = some m.cls := findClass_of_methodNamed B.named
  have hlocks := B.notSynchronized
  have hC : CC p s m _ c cX7_deal 5 RX7 D cy wsX7_deal := ⟨⟨hx, hb, hml, hown, hts⟩, hK⟩
  have hI : CI A D cy g s S s.heap [] := ⟨hM, va_S.rf⟩
  have hT := hV.2.1
  have hN := hV.2.2.1
  have hQ := hV.2.2.2
  have hb7 := hN.b7
  have hb15 := hN.b15
  have hb23 := hN.b23
  have hb28 := hN.b28
  have hb42 := hN.b42
  have hb64 := hQ.b64
  have k_35 := hts (.fieldLink RX7 35 "RelatorsBench" "deals" "Ljava/util/ArrayList;") (List.mem_cons_of_mem _ (List.mem_append_left _ (List.mem_append_left _ (List.mem_append_left _ (List.mem_append_left _ (List.mem_append_left _ (List.mem_append_left _ (List.mem_append_left _ (List.mem_append_left _ (List.mem_of_getElem? (i := 0) rfl))))))))))
  have hinX7 : ∀ w ∈ wsX70, w ∈ wsX7_deal := fun _ h => List.mem_cons_of_mem _ (List.mem_append_left _ (List.mem_append_left _ (List.mem_append_left _ (List.mem_append_left _ (List.mem_append_left _ (List.mem_append_left _ (List.mem_append_right _ (h))))))))
  have k_154 := hts (.fieldLink RX7 154 "RelatorsBench$Teller" "givenAway" "I") (List.mem_cons_of_mem _ (List.mem_append_left _ (List.mem_append_left _ (List.mem_append_left _ (List.mem_append_left _ (List.mem_append_left _ (List.mem_append_left _ (List.mem_append_left _ (List.mem_append_left _ (List.mem_of_getElem? (i := 1) rfl))))))))))
  have hinX6 : ∀ w ∈ wsX60, w ∈ wsX7_deal := fun _ h => List.mem_cons_of_mem _ (List.mem_append_left _ (List.mem_append_left _ (List.mem_append_left _ (List.mem_append_left _ (List.mem_append_left _ (List.mem_append_right _ (h)))))))
  have hinX1 : ∀ w ∈ wsX10, w ∈ wsX7_deal := fun _ h => List.mem_cons_of_mem _ (List.mem_append_left _ (List.mem_append_left _ (List.mem_append_left _ (List.mem_append_left _ (List.mem_append_right _ (h))))))
  have k_51 := hts (.fieldLink RX7 51 "RelatorsBench" "today" "I") (List.mem_cons_of_mem _ (List.mem_append_left _ (List.mem_append_left _ (List.mem_append_left _ (List.mem_append_left _ (List.mem_append_left _ (List.mem_append_left _ (List.mem_append_left _ (List.mem_append_left _ (List.mem_of_getElem? (i := 5) rfl))))))))))
  have hl := lv_entry ([.ref (ga g 18 0), .int t, .int o_, .int much]) (n := 5) (Nat.le_of_ble_eq_true rfl)
  rw [lg_entry_eq]
  generalize (lg_sl ([.ref (ga g 18 0), .int t, .int o_, .int much]) ++ List.replicate (5 - (lg_sl ([.ref (ga g 18 0), .int t, .int o_, .int much])).length) Slot.unset).toArray = ls at hl ⊢
  have hl : lv_has ls 5 [(0, .ref (ga g 18 0)), (1, .int t), (2, .int o_), (3, .int much)] := hl
  have hG : fX7_deal S t o_ much = fX7_deal S t o_ much := rfl
  refine lv_aload_n hx hb dX7_deal_0 rfl (lv_at hl 0 rfl) ?_
  refine lv_iload_n hx hb dX7_deal_1 rfl (lv_at hl 1 rfl) ?_
  by_cases c_1 : okI t 8
  · have hG := hG.trans (if_pos c_1)
    refine cr_callR (As := [.int t]) (rest := []) hC hI (qX7_tellerAt l D cy g S e0 hV t c_1) (cwV 1 hts gX7_deal_X7_tellerAt rfl rfl rfl (by decide +kernel) ⟨Nat.le_of_ble_eq_true rfl, Nat.le_of_ble_eq_true rfl⟩) (cr_prev (ci := 8) hC hI 18 0 rfl rfl rfl) rfl hl.1 rfl (Nat.le_of_ble_eq_true rfl) dX7_deal_2 ⟨Nat.le_of_ble_eq_true rfl, Nat.le_of_ble_eq_true rfl⟩ (fun H locs hI => ?_)
    refine lv_astore (lv' := [(4, .ref (ga g 4 (ix t))), (0, .ref (ga g 18 0)), (1, .int t), (2, .int o_), (3, .int much)]) hx hb dX7_deal_5 hl (by decide) rfl (fun ls hl => ?_)
    refine lv_iload_n hx hb dX7_deal_7 rfl (lv_at hl 3 rfl) ?_
    refine lv_bipush (v := 8) hx hb dX7_deal_8 (by decide) ?_
    by_cases c_2 : okI o_ 8
    · have hG := hG.trans (if_pos c_2)
      refine cr_pass (As := [.int o_, .int 8]) (rest := []) hC hI (qX7_checkIndex l o_ 8 c_2) (va_cwS 2 hts gX7_deal_X7_checkIndex rfl rfl rfl (by decide +kernel) ⟨Nat.le_of_ble_eq_true rfl, Nat.le_of_ble_eq_true rfl⟩) rfl hl.1 rfl (Nat.le_of_ble_eq_true rfl) dX7_deal_10 ⟨Nat.le_of_ble_eq_true rfl, Nat.le_of_ble_eq_true rfl⟩ (fun H locs hI => ?_)
      refine lv_iload_n hx hb dX7_deal_13 rfl (lv_at hl 2 rfl) ?_
      refine lv_iload_n hx hb dX7_deal_14 rfl (lv_at hl 3 rfl) ?_
      refine lv_icmp_eq (tgt := 22) hx hb dX7_deal_15 (by decide) (fun c_3 => ?_) (fun c_3 => ?_)
      · have hG := hG.trans (if_pos c_3)
        refine lv_iconst (v := 0) hx hb dX7_deal_22 (by decide) ?_
        exact ct_s (As := [.int 0]) (rest := []) hC.1 hI.2 hJ (tX7_checkArgument l hfl 0 (by decide)) (va_cwS 1 hts gX7_deal_X7_checkArgument rfl rfl rfl (by decide +kernel) ⟨Nat.le_of_ble_eq_true rfl, Nat.le_of_ble_eq_true rfl⟩) rfl hl.1 rfl (Nat.le_of_ble_eq_true rfl) dX7_deal_23 ⟨Nat.le_of_ble_eq_true rfl, Nat.le_of_ble_eq_true rfl⟩ hno hlocks (xf_of hI (by decide) (congrArg (fun z => z.2.1) hG)) (fun _ h => h) (Nat.le_of_ble_eq_true rfl) (Nat.le_of_ble_eq_true rfl)
      · have hG := hG.trans (if_neg c_3)
        refine lv_iconst (v := 1) hx hb dX7_deal_18 (by decide) ?_
        refine lv_goto (tgt := 23) hx hb dX7_deal_19 (by decide) ?_
        refine cr_pass (As := [.int 1]) (rest := []) hC hI (qX7_checkArgument l 1 (by decide)) (va_cwS 1 hts gX7_deal_X7_checkArgument rfl rfl rfl (by decide +kernel) ⟨Nat.le_of_ble_eq_true rfl, Nat.le_of_ble_eq_true rfl⟩) rfl hl.1 rfl (Nat.le_of_ble_eq_true rfl) dX7_deal_23 ⟨Nat.le_of_ble_eq_true rfl, Nat.le_of_ble_eq_true rfl⟩ (fun H locs hI => ?_)
        refine lv_iload_n hx hb dX7_deal_26 rfl (lv_at hl 4 rfl) ?_
        refine lv_iconst (v := 1) hx hb dX7_deal_27 (by decide) ?_
        refine lv_bipush (v := 100) hx hb dX7_deal_28 (by decide) ?_
        by_cases c_4 : okR much 1 100
        · have hG := hG.trans (if_pos c_4)
          refine cr_pass (As := [.int much, .int 1, .int 100]) (rest := []) hC hI (qX7_checkRange l much 1 100 c_4) (va_cwS 3 hts gX7_deal_X7_checkRange rfl rfl rfl (by decide +kernel) ⟨Nat.le_of_ble_eq_true rfl, Nat.le_of_ble_eq_true rfl⟩) rfl hl.1 rfl (Nat.le_of_ble_eq_true rfl) dX7_deal_30 ⟨Nat.le_of_ble_eq_true rfl, Nat.le_of_ble_eq_true rfl⟩ (fun H locs hI => ?_)
          refine lv_aload_n hx hb dX7_deal_33 rfl (lv_at hl 1 rfl) ?_
          refine cr_get (ci := 8) hC hI 18 0 rfl rfl rfl hinX7 5 (by decide) k_35 (fun _ h => h) (v := .ref (ga g 12 2)) rfl dX7_deal_34 ?_
          refine cr_size (rest := []) hC hI 12 2 (show 2 < 4 by decide) rfl (cwV 0 hts gX7_deal_Jx4a65c_size_8abf5 rfl rfl rfl (by decide +kernel) ⟨Nat.le_of_ble_eq_true rfl, Nat.le_of_ble_eq_true rfl⟩) (qAL_size0 l D cy (ga g 12 2) (ga g 13 2) (gm g 12 2) _) hl.1 (Nat.le_of_ble_eq_true rfl) dX7_deal_37 ⟨Nat.le_of_ble_eq_true rfl, Nat.le_of_ble_eq_true rfl⟩ (w := (S 23 0)) rfl (fun H locs hI => ?_)
          refine lv_bipush (v := 20) hx hb dX7_deal_40 (by decide) ?_
          refine lv_icmp_ge (tgt := 49) hx hb dX7_deal_42 (by decide) (fun c_5 => ?_) (fun c_5 => ?_)
          · have hG := hG.trans (if_pos c_5)
            refine lv_iconst (v := 0) hx hb dX7_deal_49 (by decide) ?_
            exact ct_s (As := [.int 0]) (rest := []) hC.1 hI.2 hJ (tX7_checkState l hfl 0 (by decide)) (va_cwS 1 hts gX7_deal_X7_checkState rfl rfl rfl (by decide +kernel) ⟨Nat.le_of_ble_eq_true rfl, Nat.le_of_ble_eq_true rfl⟩) rfl hl.1 rfl (Nat.le_of_ble_eq_true rfl) dX7_deal_50 ⟨Nat.le_of_ble_eq_true rfl, Nat.le_of_ble_eq_true rfl⟩ hno hlocks (xf_of hI (by decide) (congrArg (fun z => z.2.1) hG)) (fun _ h => h) (Nat.le_of_ble_eq_true rfl) (Nat.le_of_ble_eq_true rfl)
          · have hG := hG.trans (if_neg c_5)
            refine lv_iconst (v := 1) hx hb dX7_deal_45 (by decide) ?_
            refine lv_goto (tgt := 50) hx hb dX7_deal_46 (by decide) ?_
            refine cr_pass (As := [.int 1]) (rest := []) hC hI (qX7_checkState l 1 (by decide)) (va_cwS 1 hts gX7_deal_X7_checkState rfl rfl rfl (by decide +kernel) ⟨Nat.le_of_ble_eq_true rfl, Nat.le_of_ble_eq_true rfl⟩) rfl hl.1 rfl (Nat.le_of_ble_eq_true rfl) dX7_deal_50 ⟨Nat.le_of_ble_eq_true rfl, Nat.le_of_ble_eq_true rfl⟩ (fun H locs hI => ?_)
            refine lv_aload hx hb dX7_deal_53 (lv_at hl 0 rfl) ?_
            refine cr_get (ci := 7) hC hI 4 (ix t) (okI_l (N := 8) c_1 (by decide) (by decide)) rfl rfl hinX6 1 (by decide) k_154 (fun _ h => h) (v := .int (S 60 (ix t))) rfl dX7_deal_55 ?_
            refine lv_iload_n hx hb dX7_deal_58 rfl (lv_at hl 4 rfl) ?_
            refine lv_iadd hx hb dX7_deal_59 ?_
            refine lv_bipush (v := 100) hx hb dX7_deal_60 (by decide) ?_
            refine lv_icmp_gt (tgt := 69) hx hb dX7_deal_62 (by decide) (fun c_6 => ?_) (fun c_6 => ?_)
            · have hG := hG.trans (if_pos c_6)
              refine lv_iconst (v := 0) hx hb dX7_deal_69 (by decide) ?_
              exact ct_s (As := [.int 0]) (rest := []) hC.1 hI.2 hJ (tX7_checkState l hfl 0 (by decide)) (va_cwS 1 hts gX7_deal_X7_checkState rfl rfl rfl (by decide +kernel) ⟨Nat.le_of_ble_eq_true rfl, Nat.le_of_ble_eq_true rfl⟩) rfl hl.1 rfl (Nat.le_of_ble_eq_true rfl) dX7_deal_70 ⟨Nat.le_of_ble_eq_true rfl, Nat.le_of_ble_eq_true rfl⟩ hno hlocks (xf_of hI (by decide) (congrArg (fun z => z.2.1) hG)) (fun _ h => h) (Nat.le_of_ble_eq_true rfl) (Nat.le_of_ble_eq_true rfl)
            · have hG := hG.trans (if_neg c_6)
              refine lv_iconst (v := 1) hx hb dX7_deal_65 (by decide) ?_
              refine lv_goto (tgt := 70) hx hb dX7_deal_66 (by decide) ?_
              refine cr_pass (As := [.int 1]) (rest := []) hC hI (qX7_checkState l 1 (by decide)) (va_cwS 1 hts gX7_deal_X7_checkState rfl rfl rfl (by decide +kernel) ⟨Nat.le_of_ble_eq_true rfl, Nat.le_of_ble_eq_true rfl⟩) rfl hl.1 rfl (Nat.le_of_ble_eq_true rfl) dX7_deal_70 ⟨Nat.le_of_ble_eq_true rfl, Nat.le_of_ble_eq_true rfl⟩ (fun H locs hI => ?_)
              refine lv_aload_n hx hb dX7_deal_73 rfl (lv_at hl 1 rfl) ?_
              refine cr_get (ci := 8) hC hI 18 0 rfl rfl rfl hinX7 5 (by decide) k_35 (fun _ h => h) (v := .ref (ga g 12 2)) rfl dX7_deal_74 ?_
              obtain ⟨qn, a_qn⟩ : ∃ z, z = H.size := ⟨_, rfl⟩
              have hfr : ∀ k i, cval g k i → ga g k i ≠ qn := fun k i hv h => absurd (hI.1 k i hv).lt (by show ¬ ga g k i < H.size; rw [h, a_qn]; exact Nat.lt_irrefl _)
              have hAq : A qn := by rw [a_qn]; exact hA _ (Nat.le_trans hn0 hI.2.1)
              refine oi_new (ci := 2) (fs := [.int 0, .int 0, .int 0, .int 0]) hC hI.2 hinX1 tyX1 tyX1_ok (hts (.classLink RX7 157 RX1) (List.mem_cons_of_mem _ (List.mem_append_left _ (List.mem_append_left _ (List.mem_append_left _ (List.mem_append_left _ (List.mem_append_left _ (List.mem_append_left _ (List.mem_append_left _ (List.mem_append_left _ (List.mem_of_getElem? (i := 2) rfl))))))))))) (hts (.instantiable RX1 4) (List.mem_cons_of_mem _ (List.mem_append_left _ (List.mem_append_left _ (List.mem_append_left _ (List.mem_append_left _ (List.mem_append_left _ (List.mem_append_left _ (List.mem_append_left _ (List.mem_append_left _ (List.mem_of_getElem? (i := 3) rfl))))))))))) (hts (.initialized RX1) (List.mem_cons_of_mem _ (List.mem_append_left _ (List.mem_append_left _ (List.mem_append_left _ (List.mem_append_left _ (List.mem_append_left _ (List.mem_append_left _ (List.mem_append_left _ (List.mem_append_left _ (List.mem_of_getElem? (i := 4) rfl))))))))))) rfl (by decide +kernel) (Nat.le_of_ble_eq_true rfl) (Nat.le_of_ble_eq_true rfl) dX7_deal_77 (fun H2 hO hq hz hS => ?_)
              have hI : CI A D cy g s S H2 locs := ⟨hI.1.keep hq, hS⟩
              rw [← a_qn] at hO ⊢
              refine lv_dup hx hb dX7_deal_80 rfl ?_
              refine lv_iload_n hx hb dX7_deal_81 rfl (lv_at hl 2 rfl) ?_
              refine lv_iload_n hx hb dX7_deal_82 rfl (lv_at hl 3 rfl) ?_
              refine lv_iload_n hx hb dX7_deal_83 rfl (lv_at hl 4 rfl) ?_
              refine lv_aload_n hx hb dX7_deal_84 rfl (lv_at hl 1 rfl) ?_
              refine cr_get (ci := 8) hC hI 18 0 rfl rfl rfl hinX7 10 (by decide) k_51 (fun _ h => h) (v := .int (S 1 0)) rfl dX7_deal_85 ?_
              refine oi_init (As := [.int t, .int o_, .int much, .int (S 1 0)]) (rest := [.ref qn, .ref (ga g 12 2)]) hC hO hI.2 hAq (qX1_init l D cy qn t o_ much (S 1 0)) (cwI 4 hts gX7_deal_X1_init rfl rfl rfl (hts (.initialized RX1) (List.mem_cons_of_mem _ (List.mem_append_left _ (List.mem_append_left _ (List.mem_append_left _ (List.mem_append_left _ (List.mem_append_left _ (List.mem_append_left _ (List.mem_append_left _ (List.mem_append_left _ (List.mem_of_getElem? (i := 4) rfl))))))))))) (hts (.methodLink RX7 159 yX1_init) (List.mem_cons_of_mem _ (List.mem_append_left _ (List.mem_append_left _ (List.mem_append_left _ (List.mem_append_left _ (List.mem_append_left _ (List.mem_append_left _ (List.mem_append_left _ (List.mem_append_right _ (List.mem_append_left _ (List.mem_of_getElem? (i := 12) rfl)))))))))))) (hts (.instanceMethod yX1_init) (List.mem_cons_of_mem _ (List.mem_append_left _ (List.mem_append_left _ (List.mem_append_left _ (List.mem_append_left _ (List.mem_append_left _ (List.mem_append_left _ (List.mem_append_left _ (List.mem_append_right _ (List.mem_append_left _ (List.mem_of_getElem? (i := 13) rfl)))))))))))) rfl (by decide +kernel) ⟨Nat.le_of_ble_eq_true rfl, Nat.le_of_ble_eq_true rfl⟩) rfl hl.1 rfl (Nat.le_of_ble_eq_true rfl) dX7_deal_88 ⟨(Nat.le_of_ble_eq_true rfl), (Nat.le_of_ble_eq_true rfl)⟩ (fun H locs hO hq hz hS => ?_)
              have hI : CI A D cy g s S H locs := ⟨fun k i hv => (hI.1 k i hv).kept (hq _ (hI.1 k i hv).lt (hfr k i hv)), hS⟩
              refine fa_add2 (rest := []) hC hV hL hI hJX hW (fun q h => hA q (Nat.le_trans hn0 h)) (n := ndl S) hT.1.2.2.1 hO hfr hAq (S' := (up (up (up (up (up S 24 (ndl S) t) 25 (ndl S) o_) 26 (ndl S) much) 27 (ndl S) (S 1 0)) 23 0 ((S 23 0) + 1))) (ss_deal hT t o_ much) (new_deal hN hZ t o_ much) (by show S 23 0 + 1 = _; rw [hN.n23]; exact nI_1 _) ⟨rfl, rfl, rfl, rfl⟩ (cwV 1 hts gX7_deal_Jx4a65c_add_9ea2d rfl rfl rfl (by decide +kernel) ⟨Nat.le_of_ble_eq_true rfl, Nat.le_of_ble_eq_true rfl⟩) (cwV 1 hts gX7_deal_Jx4a65c_add_9ea2d rfl rfl rfl (by decide +kernel) ⟨Nat.le_of_ble_eq_true rfl, Nat.le_of_ble_eq_true rfl⟩) (cwV 1 hts gX7_deal_Jx4a65c_add_9ea2d rfl rfl rfl (by decide +kernel) ⟨Nat.le_of_ble_eq_true rfl, Nat.le_of_ble_eq_true rfl⟩) hl.1 (Nat.le_of_ble_eq_true rfl) dX7_deal_91 ⟨(Nat.le_of_ble_eq_true rfl), (Nat.le_of_ble_eq_true rfl)⟩ (fun md ra cap f_ H locs hgv hL hG1 hT1 hI => ?_)
              refine lv_pop hx hb dX7_deal_94 rfl ?_
              refine lv_aload hx hb dX7_deal_95 (lv_at hl 0 rfl) ?_
              refine lv_dup hx hb dX7_deal_97 rfl ?_
              refine cr_get (ci := 7) hC hI 4 (ix t) (okI_l (N := 8) c_1 (by decide) (by decide)) rfl rfl hinX6 1 (by decide) k_154 (fun _ h => h) (v := .int (S 60 (ix t))) (congrArg (fun z => some (Value.int z)) ((congrFun (up_ne (by decide)) _).trans ((congrFun (up_ne (by decide)) _).trans ((congrFun (up_ne (by decide)) _).trans ((congrFun (up_ne (by decide)) _).trans (congrFun (up_ne (by decide)) _)))))) dX7_deal_98 ?_
              refine lv_iload_n hx hb dX7_deal_101 rfl (lv_at hl 4 rfl) ?_
              refine lv_iadd hx hb dX7_deal_102 ?_
              refine cr_put (ci := 7) (v := .int ((S 60 (ix t)) + much)) (ty := .int) (S' := (up (up (up (up (up (up S 24 (ndl S) t) 25 (ndl S) o_) 26 (ndl S) much) 27 (ndl S) (S 1 0)) 23 0 ((S 23 0) + 1)) 60 (ix t) ((S 60 (ix t)) + much))) hC hL hI 4 (ix t) (okI_l (N := 8) c_1 (by decide) (by decide)) rfl rfl hinX6 tyX6 tyX6_ok nmX6 1 (by decide) k_154 (fun _ h => h) rfl (by decide +kernel) rfl rfl (Nat.le_of_ble_eq_true rfl) (cn_60 (ix t) _) (cu_60 (ix t) _) dX7_deal_103 (fun H locs hI => ?_)
              refine lv_aload hx hb dX7_deal_106 (lv_at hl 0 rfl) ?_
              refine cr_get (ci := 7) hC hI 4 (ix t) (okI_l (N := 8) c_1 (by decide) (by decide)) rfl rfl hinX6 1 (by decide) k_154 (fun _ h => h) (v := .int ((S 60 (ix t)) + much)) (congrArg (fun z => some (Value.int z)) (up_at _ _ _ _)) dX7_deal_108 ?_
              refine vx_ret ?_
              refine W.widen (k := 3) (n := 160) (Nat.le_of_ble_eq_true rfl) (Nat.le_of_ble_eq_true rfl) ?_
              exact W.iret (v := ((S 60 (ix t)) + much)) hx hb hr (fun t9 ht9 hW9 => ⟨⟨((S 60 (ix t)) + much), (gx2 g (ndl S) qn md ra cap f_), rfl, ⟨congrArg (fun z => z.2.1) hG, (congrArg Prod.fst hG).symm, hL, hG1, (by rw [hG]; exact hT1), rfl⟩, by show CH D cy _ _ t9.heap; rw [ht9, hG]; exact hI.1⟩, hI.2.F ht9⟩) hI.2.2.2 dX7_deal_111
        · have hG := hG.trans (if_neg c_4)
          exact ct_s (As := [.int much, .int 1, .int 100]) (rest := []) hC.1 hI.2 hJ (tX7_checkRange l hfl much 1 100 c_4) (va_cwS 3 hts gX7_deal_X7_checkRange rfl rfl rfl (by decide +kernel) ⟨Nat.le_of_ble_eq_true rfl, Nat.le_of_ble_eq_true rfl⟩) rfl hl.1 rfl (Nat.le_of_ble_eq_true rfl) dX7_deal_30 ⟨Nat.le_of_ble_eq_true rfl, Nat.le_of_ble_eq_true rfl⟩ hno hlocks (xf_of hI (by decide) (congrArg (fun z => z.2.1) hG)) (fun _ h => h) (Nat.le_of_ble_eq_true rfl) (Nat.le_of_ble_eq_true rfl)
    · have hG := hG.trans (if_neg c_2)
      exact ct_s (As := [.int o_, .int 8]) (rest := []) hC.1 hI.2 hJ (tX7_checkIndex l hfl o_ 8 c_2) (va_cwS 2 hts gX7_deal_X7_checkIndex rfl rfl rfl (by decide +kernel) ⟨Nat.le_of_ble_eq_true rfl, Nat.le_of_ble_eq_true rfl⟩) rfl hl.1 rfl (Nat.le_of_ble_eq_true rfl) dX7_deal_10 ⟨Nat.le_of_ble_eq_true rfl, Nat.le_of_ble_eq_true rfl⟩ hno hlocks (xf_of hI (by decide) (congrArg (fun z => z.2.1) hG)) (fun _ h => h) (Nat.le_of_ble_eq_true rfl) (Nat.le_of_ble_eq_true rfl)
  · have hG := hG.trans (if_neg c_1)
    exact ct_v (As := [.int t]) (rest := []) hC hI hJ (tX7_tellerAt l hfl D cy g S e0 hV t c_1) (cwV 1 hts gX7_deal_X7_tellerAt rfl rfl rfl (by decide +kernel) ⟨Nat.le_of_ble_eq_true rfl, Nat.le_of_ble_eq_true rfl⟩) rfl hl.1 rfl (Nat.le_of_ble_eq_true rfl) dX7_deal_2 ⟨Nat.le_of_ble_eq_true rfl, Nat.le_of_ble_eq_true rfl⟩ hno hlocks (xf_of hI (by decide) (congrArg (fun z => z.2.1) hG)) (fun _ h => h) (Nat.le_of_ble_eq_true rfl) (Nat.le_of_ble_eq_true rfl)
