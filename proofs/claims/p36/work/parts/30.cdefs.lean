/-! the methods of the class as functions, printed by program out of its bytecode -/
def fX6_knowsAll (S : St) (t : Nat) (asked : Int32) : Int32 := (if (asked &&& ((S 21 t) ^^^ (-1))) = 0 then 1 else 0)
def fX4_hasHalfIn (S : St) (s_ : Nat) (others : Int32) : Int32 := (if (2 * (fbc ((S 9 s_) &&& others))) < (fbc (S 9 s_)) then 0 else 1)
def fX4_isPlannedBy (S : St) (s_ : Nat) (teller : Int32) : Int32 := (if ((S 61 s_) &&& (1 <<< (teller &&& 31))) = 0 then 0 else 1)
def fX4_falsePartOf (S : St) (s_ : Nat) (whole : Int32) : Int32 := (if 1 ≤ (S 11 s_) then ((whole * (S 12 s_)) / (S 11 s_)) else 0)
def fX4_penalty (S : St) (s_ : Nat) : Int32 := (if (S 10 s_) = 0 then 100 else (if (S 10 s_) = 1 then 50 else 20))
def fX5_isOver (S : St) (k : Nat) : Int32 := (if (S 34 k) = 3 then 1 else (if (S 34 k) = 4 then 1 else 0))
def fX5_isReady (S : St) (k : Nat) : Int32 := (if (S 34 k) = 1 then 1 else (if (S 34 k) = 2 then 1 else 0))
def fX5_isSealedOn (S : St) (k : Nat) (day : Int32) : Int32 := (if (S 36 k) ≤ day then 0 else 1)
def rX5_coverDay_33 (S : St) (k : Nat) (s_ : Nat) : Nat → Nat → Int32
  | 0, i33 => (-1)
  | r + 1, i33 => (if (fX4_hasHalfIn S s_ (S 65 (64 * k + i33))) = 0 then (rX5_coverDay_33 S k s_ r (i33 + 1)) else S 66 (64 * k + i33))
theorem rX5_coverDay_33_0 (S : St) (k : Nat) (s_ : Nat) (i33 : Nat) : rX5_coverDay_33 S k s_ 0 i33 = (-1) := rfl
theorem rX5_coverDay_33_s (S : St) (k : Nat) (s_ : Nat) (i33 : Nat) (r : Nat) : rX5_coverDay_33 S k s_ (r + 1) i33 = (if (fX4_hasHalfIn S s_ (S 65 (64 * k + i33))) = 0 then (rX5_coverDay_33 S k s_ r (i33 + 1)) else S 66 (64 * k + i33)) := rfl
def rX5_coverDay_33_v2 (S : St) (k : Nat) (s_ : Nat) : Nat → Nat → Int32
  | 0, i33 => (-1)
  | r + 1, i33 => (if (fX4_hasHalfIn S s_ (S 65 (64 * k + i33))) = 0 then (rX5_coverDay_33_v2 S k s_ r (i33 + 1)) else S 33 k)
theorem rX5_coverDay_33_v2_0 (S : St) (k : Nat) (s_ : Nat) (i33 : Nat) : rX5_coverDay_33_v2 S k s_ 0 i33 = (-1) := rfl
theorem rX5_coverDay_33_v2_s (S : St) (k : Nat) (s_ : Nat) (i33 : Nat) (r : Nat) : rX5_coverDay_33_v2 S k s_ (r + 1) i33 = (if (fX4_hasHalfIn S s_ (S 65 (64 * k + i33))) = 0 then (rX5_coverDay_33_v2 S k s_ r (i33 + 1)) else S 33 k) := rfl
def fX5_coverDay (S : St) (k : Nat) (s_ : Nat) : Int32 := (if (S 30 k) = (S 8 s_) then (if ((S 31 k) &&& (S 9 s_)) = 0 then (rX5_coverDay_33 S k s_ (npp S k) 0) else (rX5_coverDay_33_v2 S k s_ (npp S k) 0)) else (-1))
def iX7_publicBy_4 (S : St) (day : Int32) (i4 : Nat) (x4_2 : Int32) : Int32 := (if (S 20 i4) = (-1) then x4_2 else (if day < (S 20 i4) then x4_2 else (x4_2 ||| (1 <<< ((nI i4) &&& 31)))))
def lX7_publicBy_4 (S : St) (day : Int32) : Nat → Int32
  | 0 => 0
  | n + 1 => iX7_publicBy_4 S day n (lX7_publicBy_4 S day n)
def fX7_publicBy (S : St) (day : Int32) : Int32 := (lX7_publicBy_4 S day 16)
def iX7_firstFor_7 (S : St) (s_ : Nat) (i7 : Nat) (x7_3 : Int32) (x7_2 : Int32) : Int32 × Int32 := (if (S 34 i7) = 3 then (x7_3, x7_2) else (if (fX5_coverDay S i7 s_) = (-1) then (x7_3, x7_2) else (if x7_2 = (-1) then ((fX5_coverDay S i7 s_), nI i7) else (if x7_3 ≤ (fX5_coverDay S i7 s_) then (x7_3, x7_2) else ((fX5_coverDay S i7 s_), nI i7)))))
def lX7_firstFor_7 (S : St) (s_ : Nat) : Nat → Int32 × Int32
  | 0 => ((-1), (-1))
  | n + 1 => iX7_firstFor_7 S s_ n (lX7_firstFor_7 S s_ n).1 (lX7_firstFor_7 S s_ n).2
def fX7_firstFor (S : St) (s_ : Nat) : Int32 := (lX7_firstFor_7 S s_ (nsu S)).2
def rX7_lowestCoveringFrom_2 (S : St) (day : Int32) (s_ : Nat) : Nat → Nat → Int32
  | 0, i2 => (-1)
  | r + 1, i2 => (if (S 34 i2) = 3 then (rX7_lowestCoveringFrom_2 S day s_ r (i2 + 1)) else (if (fX5_coverDay S i2 s_) = day then nI i2 else (rX7_lowestCoveringFrom_2 S day s_ r (i2 + 1))))
theorem rX7_lowestCoveringFrom_2_0 (S : St) (day : Int32) (s_ : Nat) (i2 : Nat) : rX7_lowestCoveringFrom_2 S day s_ 0 i2 = (-1) := rfl
theorem rX7_lowestCoveringFrom_2_s (S : St) (day : Int32) (s_ : Nat) (i2 : Nat) (r : Nat) : rX7_lowestCoveringFrom_2 S day s_ (r + 1) i2 = (if (S 34 i2) = 3 then (rX7_lowestCoveringFrom_2 S day s_ r (i2 + 1)) else (if (fX5_coverDay S i2 s_) = day then nI i2 else (rX7_lowestCoveringFrom_2 S day s_ r (i2 + 1)))) := rfl
def fX7_lowestCoveringFrom (S : St) (day : Int32) (s_ : Nat) : Int32 := (rX7_lowestCoveringFrom_2 S day s_ (nsu S) 0)
def fX7_restsOnThePublic (S : St) (k : Nat) (s_ : Nat) (covered : Int32) : Int32 := (if (fX4_hasHalfIn S s_ (fX7_publicBy S covered)) = 0 then 0 else (if ((S 32 k) &&& ((S 9 s_) &&& ((fX7_publicBy S covered) ^^^ (-1)))) = 0 then (if (S 35 k) = 0 then 1 else 0) else 0))
def fX7_barOf (S : St) (k : Nat) (s_ : Nat) : Int32 := (if (fX5_coverDay S k s_) = (-1) then 1 else (if (fX7_firstFor S s_) = (nI k) then (if (fX7_restsOnThePublic S k s_ (fX5_coverDay S k s_)) = 0 then 0 else 3) else 2))
def rX7_isCoveredInTheOpen_2 (S : St) (s_ : Nat) : Nat → Nat → Int32
  | 0, i2 => 0
  | r + 1, i2 => (if (S 34 i2) = 3 then (rX7_isCoveredInTheOpen_2 S s_ r (i2 + 1)) else (if (fX5_isSealedOn S i2 (S 1 0)) = 0 then (if (fX5_coverDay S i2 s_) = (-1) then (rX7_isCoveredInTheOpen_2 S s_ r (i2 + 1)) else 1) else (rX7_isCoveredInTheOpen_2 S s_ r (i2 + 1))))
theorem rX7_isCoveredInTheOpen_2_0 (S : St) (s_ : Nat) (i2 : Nat) : rX7_isCoveredInTheOpen_2 S s_ 0 i2 = 0 := rfl
theorem rX7_isCoveredInTheOpen_2_s (S : St) (s_ : Nat) (i2 : Nat) (r : Nat) : rX7_isCoveredInTheOpen_2 S s_ (r + 1) i2 = (if (S 34 i2) = 3 then (rX7_isCoveredInTheOpen_2 S s_ r (i2 + 1)) else (if (fX5_isSealedOn S i2 (S 1 0)) = 0 then (if (fX5_coverDay S i2 s_) = (-1) then (rX7_isCoveredInTheOpen_2 S s_ r (i2 + 1)) else 1) else (rX7_isCoveredInTheOpen_2 S s_ r (i2 + 1)))) := rfl
def fX7_isCoveredInTheOpen (S : St) (s_ : Nat) : Int32 := (rX7_isCoveredInTheOpen_2 S s_ (nsu S) 0)
def iX7_sealedSuits_4 (S : St) (i4 : Nat) (x4_1 : Int32) : Int32 := (if (fX5_isSealedOn S i4 (S 1 0)) = 0 then x4_1 else (x4_1 + 1))
def lX7_sealedSuits_4 (S : St) : Nat → Int32
  | 0 => 0
  | n + 1 => iX7_sealedSuits_4 S n (lX7_sealedSuits_4 S n)
def fX7_sealedSuits (S : St) : Int32 := (lX7_sealedSuits_4 S (nsu S))
def fX7_counts (S : St) (c_ : Nat) (s_ : Nat) (covered : Int32) : Int32 := (if (S 16 c_) = (nI s_) then (if (S 19 c_) = (-1) then (if (S 18 c_) < (covered - 600) then 0 else (if (S 13 s_) = (-1) then 1 else (if (S 13 s_) ≤ (S 18 c_) then 0 else 1))) else 0) else 0)
def iX7_sumFor_15 (S : St) (k : Nat) (s_ : Nat) (i15 : Nat) (x15_5 : Int32) (x15_4 : Int32) : Int32 × Int32 := (if (fX7_counts S i15 s_ (fX5_coverDay S k s_)) = 0 then (x15_5, x15_4) else ((x15_5 + 1), (x15_4 + (S 17 i15))))
def lX7_sumFor_15 (S : St) (k : Nat) (s_ : Nat) : Nat → Int32 × Int32
  | 0 => (0, 0)
  | n + 1 => iX7_sumFor_15 S k s_ n (lX7_sumFor_15 S k s_ n).1 (lX7_sumFor_15 S k s_ n).2
def fX7_sumFor (S : St) (k : Nat) (s_ : Nat) : Int32 := (if (S 14 s_) = 0 then (((fX4_falsePartOf S s_ ((lX7_sumFor_15 S k s_ (ncl S)).2)) * 3) + ((fX4_falsePartOf S s_ ((lX7_sumFor_15 S k s_ (ncl S)).1)) * (fX4_penalty S s_))) else (((fX4_falsePartOf S s_ ((lX7_sumFor_15 S k s_ (ncl S)).2)) * 2) + ((fX4_falsePartOf S s_ ((lX7_sumFor_15 S k s_ (ncl S)).1)) * (fX4_penalty S s_))))
def iX7_dueBy_13 (S : St) (k : Nat) (i13 : Nat) (x13_2 : Int32) : Int32 := (if (fX7_barOf S k i13) = 0 then (x13_2 + (fX7_sumFor S k i13)) else x13_2)
def lX7_dueBy_13 (S : St) (k : Nat) : Nat → Int32
  | 0 => 0
  | n + 1 => iX7_dueBy_13 S k n (lX7_dueBy_13 S k n)
def fX7_dueBy (S : St) (k : Nat) : Int32 := (if (fX5_isOver S k) = 0 then (lX7_dueBy_13 S k (nsc S)) else 0)
def rX7_hundredthsOf_52 (S : St) (k : Nat) : Nat → Nat → Int32
  | 0, i52 => (25 + ((S 38 k) / 2))
  | r + 1, i52 => (if (fX4_isPlannedBy S i52 (S 29 k)) = 0 then (rX7_hundredthsOf_52 S k r (i52 + 1)) else (if (fX7_barOf S k i52) = 0 then ((25 + ((S 38 k) / 2)) / 2) else (rX7_hundredthsOf_52 S k r (i52 + 1))))
theorem rX7_hundredthsOf_52_0 (S : St) (k : Nat) (i52 : Nat) : rX7_hundredthsOf_52 S k 0 i52 = (25 + ((S 38 k) / 2)) := rfl
theorem rX7_hundredthsOf_52_s (S : St) (k : Nat) (i52 : Nat) (r : Nat) : rX7_hundredthsOf_52 S k (r + 1) i52 = (if (fX4_isPlannedBy S i52 (S 29 k)) = 0 then (rX7_hundredthsOf_52 S k r (i52 + 1)) else (if (fX7_barOf S k i52) = 0 then ((25 + ((S 38 k) / 2)) / 2) else (rX7_hundredthsOf_52 S k r (i52 + 1)))) := rfl
def rX7_hundredthsOf_52_v2 (S : St) (k : Nat) : Nat → Nat → Int32
  | 0, i52 => (15 + (S 38 k))
  | r + 1, i52 => (if (fX4_isPlannedBy S i52 (S 29 k)) = 0 then (rX7_hundredthsOf_52_v2 S k r (i52 + 1)) else (if (fX7_barOf S k i52) = 0 then ((15 + (S 38 k)) / 2) else (rX7_hundredthsOf_52_v2 S k r (i52 + 1))))
theorem rX7_hundredthsOf_52_v2_0 (S : St) (k : Nat) (i52 : Nat) : rX7_hundredthsOf_52_v2 S k 0 i52 = (15 + (S 38 k)) := rfl
theorem rX7_hundredthsOf_52_v2_s (S : St) (k : Nat) (i52 : Nat) (r : Nat) : rX7_hundredthsOf_52_v2 S k (r + 1) i52 = (if (fX4_isPlannedBy S i52 (S 29 k)) = 0 then (rX7_hundredthsOf_52_v2 S k r (i52 + 1)) else (if (fX7_barOf S k i52) = 0 then ((15 + (S 38 k)) / 2) else (rX7_hundredthsOf_52_v2 S k r (i52 + 1)))) := rfl
def fX7_hundredthsOf (S : St) (k : Nat) : Int32 := (if (S 34 k) = 4 then S 41 k else (if (fX5_isReady S k) = 0 then 0 else (if (S 34 k) = 1 then (rX7_hundredthsOf_52_v2 S k (nsc S) 0) else (rX7_hundredthsOf_52 S k (nsc S) 0))))
def fX7_hundredthsFrom (sum : Int32) (hundredths : Int32) : Int32 := (((sum.toInt64) * (hundredths.toInt64)) / (100 : Int64)).toInt32
def iX7_dayOfKnowing_14 (S : St) (f : Int32) (t : Int32) (i14 : Nat) (x14_3 : Int32) : Int32 := (if (S 29 i14) = t then (if (S 30 i14) = f then (if x14_3 = (-1) then S 36 i14 else (if x14_3 ≤ (S 36 i14) then x14_3 else S 36 i14)) else x14_3) else x14_3)
def lX7_dayOfKnowing_14 (S : St) (f : Int32) (t : Int32) : Nat → Int32
  | 0 => S 51 (8 * (ix f) + (ix t))
  | n + 1 => iX7_dayOfKnowing_14 S f t n (lX7_dayOfKnowing_14 S f t n)
def fX7_dayOfKnowing (S : St) (f : Int32) (t : Int32) : Int32 := (lX7_dayOfKnowing_14 S f t (nsu S))
def fX7_wouldFireForTelling (S : St) (f : Int32) (t : Int32) : Int32 := (if (fX7_dayOfKnowing S f t) = (-1) then 0 else (if (S 1 0) < (fX7_dayOfKnowing S f t) then 0 else (if 90 < ((S 1 0) - (fX7_dayOfKnowing S f t)) then 0 else 1)))
theorem nz_le {x : Int32} (h : (1 : Int32) ≤ x) : ¬ x = 0 := by rintro rfl; exact absurd h (by decide)
theorem lk_dflt {x : Int32} (h0 : ¬ x = 0) (h1 : ¬ x = 1) : Op.lookupswitch.offset [((0 : Int), (28 : Int)), (1, 31)] 34 x.toInt = 34 := by
  have e0 : ¬ x.toInt = 0 := fun e => h0 (Int32.toInt_inj.mp e)
  have e1 : ¬ x.toInt = 1 := fun e => h1 (Int32.toInt_inj.mp e)
  simp [Op.lookupswitch.offset, e0, e1, Ne.symm e0, Ne.symm e1]
theorem planned_nar (S : St) (a : Nat) (x : Int32) : narrow .boolean (.int (fX4_isPlannedBy S a x)) = .int (fX4_isPlannedBy S a x) := by
  unfold fX4_isPlannedBy
  split <;> rfl
theorem would_nar (S : St) (x y : Int32) : narrow .boolean (.int (fX7_wouldFireForTelling S x y)) = .int (fX7_wouldFireForTelling S x y) := by
  unfold fX7_wouldFireForTelling
  repeat' split
  all_goals rfl
