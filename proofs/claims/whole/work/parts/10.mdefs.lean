/-! the reference's methods as functions, printed by program from its bytecode -/
def fX8_in (v : Int32) (low : Int32) (high : Int32) : Int32 := (if v < low then 0 else (if high < v then 0 else 1))
def fX8_isFirm (f : Int32) : Int32 := (fX8_in f 0 5)
def fX8_isTeller (t : Int32) : Int32 := (fX8_in t 0 7)
def iX8_bits_4 (set : Int32) (i4 : Nat) (x4_1 : Int32) : Int32 := (x4_1 + ((set >>> ((nI i4) &&& 31)) &&& 1))
def lX8_bits_4 (set : Int32) : Nat → Int32
  | 0 => 0
  | n + 1 => iX8_bits_4 set n (lX8_bits_4 set n)
def fX8_bits (set : Int32) : Int32 := (lX8_bits_4 set 16)
def fX8_place (f : Int32) (t : Int32) : Int32 := ((8 * f) + t)
def fX8_isScheme (S : St) (s_ : Int32) : Int32 := (fX8_in s_ 0 ((S 7 0) - 1))
def fX8_isSuit (S : St) (k : Int32) : Int32 := (fX8_in k 0 ((S 28 0) - 1))
def fX8_isSealed (S : St) (k : Nat) : Int32 := (if (S 36 k) ≤ (S 1 0) then 0 else 1)
def fX8_isOver (S : St) (k : Nat) : Int32 := (if (S 34 k) < 3 then 0 else 1)
def iX8_publicBy_4 (S : St) (d : Int32) (i4 : Nat) (x4_2 : Int32) : Int32 := (if (S 20 i4) = (-1) then (x4_2 ||| 0) else (if d < (S 20 i4) then (x4_2 ||| 0) else (x4_2 ||| (1 <<< ((nI i4) &&& 31)))))
def lX8_publicBy_4 (S : St) (d : Int32) : Nat → Int32
  | 0 => 0
  | n + 1 => iX8_publicBy_4 S d n (lX8_publicBy_4 S d n)
def fX8_publicBy (S : St) (d : Int32) : Int32 := (lX8_publicBy_4 S d 16)
def fX8_isHalf (S : St) (set : Int32) (s_ : Nat) : Int32 := (if (2 * (fX8_bits (set &&& (S 9 s_)))) < (fX8_bits (S 9 s_)) then 0 else 1)
def rX8_dayOf_56 (S : St) (k : Nat) (s_ : Nat) : Nat → Nat → Int32
  | 0, i56 => (-1)
  | r + 1, i56 => (if (S 43 i56) = (nI k) then (if (fX8_isHalf S (S 44 i56) s_) = 0 then (rX8_dayOf_56 S k s_ r (i56 + 1)) else S 45 i56) else (rX8_dayOf_56 S k s_ r (i56 + 1)))
theorem rX8_dayOf_56_0 (S : St) (k : Nat) (s_ : Nat) (i56 : Nat) : rX8_dayOf_56 S k s_ 0 i56 = (-1) := rfl
theorem rX8_dayOf_56_s (S : St) (k : Nat) (s_ : Nat) (i56 : Nat) (r : Nat) : rX8_dayOf_56 S k s_ (r + 1) i56 = (if (S 43 i56) = (nI k) then (if (fX8_isHalf S (S 44 i56) s_) = 0 then (rX8_dayOf_56 S k s_ r (i56 + 1)) else S 45 i56) else (rX8_dayOf_56 S k s_ r (i56 + 1))) := rfl
def fX8_dayOf (S : St) (k : Nat) (s_ : Nat) : Int32 := (if (S 30 k) = (S 8 s_) then (if (fX8_isHalf S (S 32 k) s_) = 0 then (-1) else (if ((S 31 k) &&& (S 9 s_)) = 0 then (rX8_dayOf_56 S k s_ (nam S) 0) else S 33 k)) else (-1))
theorem in_nar (v lo hi : Int32) : narrow .boolean (.int (fX8_in v lo hi)) = .int (fX8_in v lo hi) := by
  unfold fX8_in
  split
  · rfl
  · split <;> rfl
