/-! the words, further -/
def tb_chk : Nat → List Cond
  | 0 => tables_1_1
  | 1 => tables_1_2
  | 2 => tables_1_3
  | 3 => tables_1_4
  | _ => k2_sels lw_privs
theorem tb_chk_in : ∀ r w, w ∈ tb_chk r → w ∈ lw_tbl
  | 0, w, h => List.mem_append_right _ (List.mem_append_left _ h)
  | 1, w, h => List.mem_append_right _ (List.mem_append_right _ (List.mem_append_left _ h))
  | 2, w, h => List.mem_append_right _ (List.mem_append_right _ (List.mem_append_right _ (List.mem_append_left _ h)))
  | 3, w, h => List.mem_append_right _ (List.mem_append_right _ (List.mem_append_right _ (List.mem_append_right _ h)))
  | _ + 4, w, h => List.mem_append_left _ h
theorem tb_in (ws : List Cond) (ps : List (Nat × Nat)) (hp : ws = ps.filterMap (fun q => (tb_chk q.1)[q.2]?)) : ∀ w ∈ ws, w ∈ lw_tbl := by
  intro w hw
  rw [hp] at hw
  obtain ⟨q, -, hq⟩ := List.mem_filterMap.mp hw
  exact tb_chk_in q.1 w (List.mem_of_getElem? hq)
theorem wsL_law_in0_r19 : ∀ w ∈ wsL_law0_r19, w ∈ lw_tbl := tb_in _ [(3, 3), (3, 4), (3, 5), (3, 6), (3, 7), (3, 9), (4, 20), (3, 10), (2, 33), (2, 40), (2, 46), (2, 94), (2, 44), (2, 42), (0, 117), (0, 115), (3, 11), (3, 12), (3, 13), (3, 14), (1, 70), (3, 15), (3, 16), (3, 17)] rfl
theorem wsL_law_in0_r20 : ∀ w ∈ wsL_law0_r20, w ∈ lw_tbl := tb_in _ [(3, 18), (0, 111), (0, 83), (0, 85), (0, 113), (3, 19), (3, 21), (4, 21), (3, 22), (3, 23), (3, 25), (4, 22), (3, 26), (0, 81), (3, 27), (3, 28), (3, 29), (3, 30), (0, 79), (0, 119), (1, 39), (1, 40), (1, 41), (1, 182)] rfl
theorem wsL_law_in0_r21 : ∀ w ∈ wsL_law0_r21, w ∈ lw_tbl := tb_in _ [(1, 42), (1, 43), (1, 44), (1, 45), (1, 69), (0, 75), (1, 71), (1, 72), (1, 73), (1, 74), (1, 80), (1, 81), (1, 82), (1, 83), (1, 84), (1, 85), (1, 98), (1, 100), (1, 86), (1, 88), (3, 31), (3, 32), (3, 33), (3, 34)] rfl
theorem wsL_law_in0_r22 : ∀ w ∈ wsL_law0_r22, w ∈ lw_tbl := tb_in _ [(1, 95), (1, 97), (3, 35), (3, 36), (3, 37), (3, 38), (0, 107), (3, 39), (3, 40), (3, 41), (3, 42), (3, 43), (3, 44), (3, 45), (3, 46), (3, 47), (3, 48), (3, 49), (1, 103), (3, 50), (3, 51), (3, 52), (3, 53), (3, 54)] rfl
theorem wsL_law_in0_r23 : ∀ w ∈ wsL_law0_r23, w ∈ lw_tbl := tb_in _ [(3, 55), (3, 56), (3, 57), (3, 58), (3, 59), (3, 63), (3, 64), (3, 65), (3, 66), (3, 67), (3, 68), (3, 69), (3, 70), (3, 71), (3, 72), (3, 73), (3, 74), (3, 75), (3, 76), (3, 77), (3, 78), (3, 79), (3, 80), (3, 81)] rfl
theorem wsL_law_in0_r24 : ∀ w ∈ wsL_law0_r24, w ∈ lw_tbl := tb_in _ [(3, 82), (3, 83), (3, 84), (3, 85), (3, 86), (3, 87), (3, 88), (3, 89), (3, 90), (3, 91), (3, 92), (3, 93), (3, 94), (3, 95), (3, 96), (3, 97), (0, 173), (0, 174), (0, 175), (0, 176), (3, 98), (3, 99), (3, 100), (3, 101)] rfl
theorem wsL_law_in0_r25 : ∀ w ∈ wsL_law0_r25, w ∈ lw_tbl := tb_in _ [(3, 102), (3, 103), (3, 104), (3, 105), (3, 107), (4, 23), (3, 108), (3, 110), (3, 111), (3, 112), (3, 113), (3, 115), (3, 116), (3, 117), (3, 118), (3, 120), (3, 121), (3, 122), (3, 123), (3, 125), (3, 126), (3, 127), (3, 128), (3, 130)] rfl
theorem wsL_law_in0_r26 : ∀ w ∈ wsL_law0_r26, w ∈ lw_tbl := tb_in _ [(3, 131), (3, 132), (3, 133), (3, 134), (3, 135), (3, 136), (3, 137), (3, 138), (3, 139), (3, 140), (3, 141), (3, 142), (3, 143), (3, 144), (3, 145), (3, 146), (3, 147), (3, 148), (3, 149), (3, 150), (3, 151), (3, 152), (3, 153), (3, 154)] rfl
theorem wsL_law_in0_r27 : ∀ w ∈ wsL_law0_r27, w ∈ lw_tbl := tb_in _ [(3, 156), (4, 24), (3, 157)] rfl
