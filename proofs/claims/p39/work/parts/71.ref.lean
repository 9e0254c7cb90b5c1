/-! the reference: succeeds, goals (by program) -/
def scs (M : Nat → Nat → Int32) (v : Int32) : Bool := !decide (v = -1) && bt (M 28 0) (tn v)
def stGo (M : Nat → Nat → Int32) (i : Nat) (g : Int32) : Int32 := if bt (M 28 0) i = true then g ||| osshl (1 : Int32) (M 22 i) else g
theorem stGo_no {M : Nat → Nat → Int32} {a : Nat} {g0 : Int32} (h : bt (M 28 0) a = false) : osit (stGo M) 0 a g0 = osit (stGo M) 0 (a + 1) g0 := by rw [osit_last, Nat.zero_add]; unfold stGo; rw [if_neg (by rw [h]; decide)]
theorem stGo_yes {M : Nat → Nat → Int32} {a : Nat} {g0 : Int32} (h : bt (M 28 0) a = true) : osit (stGo M) 0 a g0 ||| osshl (1 : Int32) (M 22 a) = osit (stGo M) 0 (a + 1) g0 := by
  rw [osit_last, Nat.zero_add]
  show _ = stGo M a (osit (stGo M) 0 a g0)
  unfold stGo
  rw [if_pos h]
