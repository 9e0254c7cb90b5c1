/-! the reference clears its draft (by program) -/
def clM (j : Nat) : Int32 := if 34 ≤ j ∧ j < 50 then -1 else 0
def clD (j : Nat) : Int32 := if j = 1 then 1 else if 5 ≤ j ∧ j < 37 ∨ 53 ≤ j ∧ j < 69 ∨ 85 ≤ j ∧ j < 117 then -1 else 0
