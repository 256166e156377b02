/-! a suit, with its papers, is added; a paper is added to a suit -/
section EXT3
variable {p : Program} {l : Launch} {e : Env} {R : Room} {s : State} {m : MethodId} {args : Array Value} {below : List Frame} {meth : Method} {c : Code} {H : Heap} {locs : List Loc} {cells slots : Nat} {Q : State → Prop}
variable {cc : ByteArray} {pc nL : Nat} {ls : Array Slot} {rest : List Value} {D : va_G} {cy : Nat → ClassId} {g : CWt} {S : St} {A : Nat → Prop} {Ts : List Cond} {own : String} {bytes : ByteArray} {maxL index e0 mi : Nat} {ret : Option FieldType}
def gx3 (g : CWt) (n q la ra2 pq : Nat) (md2 : Int32) (cap2 : Nat) (f2 : Nat → Option Nat) (md : Int32) (ra cap : Nat) (f : Nat → Option Nat) : CWt := fun k => if k = 8 then (fun i => if i = n then (q, 0, 0, fun _ => none) else g 8 i) else if k = 9 then (fun i => if i = n then (la, md2, 1, fun _ => none) else g 9 i) else if k = 10 then (fun i => if i = n then (ra2, 0, cap2, f2) else g 10 i) else if k = 11 then (fun i => if i = 64 * n then (pq, 0, 0, fun _ => none) else g 11 i) else if k = 12 then (fun i => if i = 3 then (ga g 12 3, md, n + 1, fun _ => none) else g 12 i) else if k = 13 then (fun i => if i = 3 then (ra, 0, cap, f) else g 13 i) else g k
theorem gx3_n8 {n q la ra2 pq : Nat} {md2 : Int32} {cap2 : Nat} {f2 : Nat → Option Nat} {md : Int32} {ra cap : Nat} {f : Nat → Option Nat} : gx3 g n q la ra2 pq md2 cap2 f2 md ra cap f 8 (n) = (q, 0, 0, fun _ => none) := by simp [gx3]
theorem gx3_o8 {n q la ra2 pq : Nat} {md2 : Int32} {cap2 : Nat} {f2 : Nat → Option Nat} {md : Int32} {ra cap : Nat} {f : Nat → Option Nat} {i : Nat} (h : i ≠ n) : gx3 g n q la ra2 pq md2 cap2 f2 md ra cap f 8 i = g 8 i := by simp [gx3, h]
theorem gx3_n9 {n q la ra2 pq : Nat} {md2 : Int32} {cap2 : Nat} {f2 : Nat → Option Nat} {md : Int32} {ra cap : Nat} {f : Nat → Option Nat} : gx3 g n q la ra2 pq md2 cap2 f2 md ra cap f 9 (n) = (la, md2, 1, fun _ => none) := by simp [gx3]
theorem gx3_o9 {n q la ra2 pq : Nat} {md2 : Int32} {cap2 : Nat} {f2 : Nat → Option Nat} {md : Int32} {ra cap : Nat} {f : Nat → Option Nat} {i : Nat} (h : i ≠ n) : gx3 g n q la ra2 pq md2 cap2 f2 md ra cap f 9 i = g 9 i := by simp [gx3, h]
theorem gx3_n10 {n q la ra2 pq : Nat} {md2 : Int32} {cap2 : Nat} {f2 : Nat → Option Nat} {md : Int32} {ra cap : Nat} {f : Nat → Option Nat} : gx3 g n q la ra2 pq md2 cap2 f2 md ra cap f 10 (n) = (ra2, 0, cap2, f2) := by simp [gx3]
theorem gx3_o10 {n q la ra2 pq : Nat} {md2 : Int32} {cap2 : Nat} {f2 : Nat → Option Nat} {md : Int32} {ra cap : Nat} {f : Nat → Option Nat} {i : Nat} (h : i ≠ n) : gx3 g n q la ra2 pq md2 cap2 f2 md ra cap f 10 i = g 10 i := by simp [gx3, h]
theorem gx3_n11 {n q la ra2 pq : Nat} {md2 : Int32} {cap2 : Nat} {f2 : Nat → Option Nat} {md : Int32} {ra cap : Nat} {f : Nat → Option Nat} : gx3 g n q la ra2 pq md2 cap2 f2 md ra cap f 11 (64 * n) = (pq, 0, 0, fun _ => none) := by simp [gx3]
theorem gx3_o11 {n q la ra2 pq : Nat} {md2 : Int32} {cap2 : Nat} {f2 : Nat → Option Nat} {md : Int32} {ra cap : Nat} {f : Nat → Option Nat} {i : Nat} (h : i ≠ 64 * n) : gx3 g n q la ra2 pq md2 cap2 f2 md ra cap f 11 i = g 11 i := by simp [gx3, h]
theorem gx3_n12 {n q la ra2 pq : Nat} {md2 : Int32} {cap2 : Nat} {f2 : Nat → Option Nat} {md : Int32} {ra cap : Nat} {f : Nat → Option Nat} : gx3 g n q la ra2 pq md2 cap2 f2 md ra cap f 12 (3) = (ga g 12 3, md, n + 1, fun _ => none) := by simp [gx3]
theorem gx3_o12 {n q la ra2 pq : Nat} {md2 : Int32} {cap2 : Nat} {f2 : Nat → Option Nat} {md : Int32} {ra cap : Nat} {f : Nat → Option Nat} {i : Nat} (h : i ≠ 3) : gx3 g n q la ra2 pq md2 cap2 f2 md ra cap f 12 i = g 12 i := by simp [gx3, h]
theorem gx3_n13 {n q la ra2 pq : Nat} {md2 : Int32} {cap2 : Nat} {f2 : Nat → Option Nat} {md : Int32} {ra cap : Nat} {f : Nat → Option Nat} : gx3 g n q la ra2 pq md2 cap2 f2 md ra cap f 13 (3) = (ra, 0, cap, f) := by simp [gx3]
theorem gx3_o13 {n q la ra2 pq : Nat} {md2 : Int32} {cap2 : Nat} {f2 : Nat → Option Nat} {md : Int32} {ra cap : Nat} {f : Nat → Option Nat} {i : Nat} (h : i ≠ 3) : gx3 g n q la ra2 pq md2 cap2 f2 md ra cap f 13 i = g 13 i := by simp [gx3, h]
theorem gx3_e {n q la ra2 pq : Nat} {md2 : Int32} {cap2 : Nat} {f2 : Nat → Option Nat} {md : Int32} {ra cap : Nat} {f : Nat → Option Nat} {k : Nat} (h : k ≠ 8 ∧ k ≠ 9 ∧ k ≠ 10 ∧ k ≠ 11 ∧ k ≠ 12 ∧ k ≠ 13 ∧ True) : gx3 g n q la ra2 pq md2 cap2 f2 md ra cap f k = g k := by
  obtain ⟨h8, h9, h10, h11, h12, h13, -⟩ := h
  simp [gx3, h8, h9, h10, h11, h12, h13]
theorem gx3_ga {n q la ra2 pq : Nat} {md2 : Int32} {cap2 : Nat} {f2 : Nat → Option Nat} {md : Int32} {ra cap : Nat} {f : Nat → Option Nat} {k i : Nat} (h : ¬ ((k = 8 ∧ i = n) ∨ (k = 9 ∧ i = n) ∨ (k = 10 ∧ i = n) ∨ (k = 11 ∧ i = 64 * n) ∨ (k = 13 ∧ i = 3))) : ga (gx3 g n q la ra2 pq md2 cap2 f2 md ra cap f) k i = ga g k i := by
  by_cases c8 : k = 8
  · subst c8
    exact congrArg Prod.fst (gx3_o8 (fun q => h (by simp [q])))
  by_cases c9 : k = 9
  · subst c9
    exact congrArg Prod.fst (gx3_o9 (fun q => h (by simp [q])))
  by_cases c10 : k = 10
  · subst c10
    exact congrArg Prod.fst (gx3_o10 (fun q => h (by simp [q])))
  by_cases c11 : k = 11
  · subst c11
    exact congrArg Prod.fst (gx3_o11 (fun q => h (by simp [q])))
  by_cases c12 : k = 12
  · subst c12
    by_cases c : i = 3
    · rw [c]; show (gx3 g n q la ra2 pq md2 cap2 f2 md ra cap f 12 (3)).1 = _; rw [gx3_n12]
    · exact congrArg Prod.fst (gx3_o12 c)
  by_cases c13 : k = 13
  · subst c13
    exact congrArg Prod.fst (gx3_o13 (fun q => h (by simp [q])))
  exact congrArg Prod.fst (congrFun (gx3_e ⟨c8, c9, c10, c11, c12, c13, trivial⟩) i)
end EXT3
