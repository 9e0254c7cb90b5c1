/-! the reference: counts (by program) -/
def rSp (M : Nat → Nat → Int32) (i : Nat) (v : Int32) (a : Nat) : Bool := bt (M 31 0) a && (decide (M 3 (133 + a) = nI i) && !decide (M 3 (21 + a) = v))
def stRW (M : Nat → Nat → Int32) (s kd : Int32) (a : Nat) (g : Int32) : Int32 := if bt s a = true then g ||| psg M a kd else g
theorem stRW_no {M : Nat → Nat → Int32} {s kd : Int32} {a : Nat} {g0 : Int32} (h : bt s a = false) : osit (stRW M s kd) 0 a g0 = osit (stRW M s kd) 0 (a + 1) g0 := by rw [osit_last, Nat.zero_add]; unfold stRW; rw [if_neg (by rw [h]; decide)]
theorem stRW_yes {M : Nat → Nat → Int32} {s kd : Int32} {a : Nat} {g0 : Int32} (h : bt s a = true) : osit (stRW M s kd) 0 a g0 ||| psg M a kd = osit (stRW M s kd) 0 (a + 1) g0 := by
  rw [osit_last, Nat.zero_add]
  show _ = stRW M s kd a (osit (stRW M s kd) 0 a g0)
  unfold stRW
  rw [if_pos h]
