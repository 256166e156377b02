/-! the state of a new bench -/
def S0 : St := fun k _ => if k = 13 ∨ k = 20 ∨ k = 49 ∨ k = 51 ∨ k = 52 ∨ k = 62 then -1 else 0
