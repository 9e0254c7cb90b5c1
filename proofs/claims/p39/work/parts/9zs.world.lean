/-! the world at the law's start; the law's answer (by program) -/
def ad0 (x : Nat) (k : Nat) : Nat := if k = 0 then x + 21 else if k = 1 then x + 27 else if k = 2 then x + 33 else if k = 3 then x + 45 else x + 57 + 12 * (k - 4)
def W00 (M : Nat → Nat → Int32) (k : Nat) : Nat → Nat → Int32 := if k = 0 then rw4m else if k = 1 ∨ k = 2 then bclr rw0 else if k = 3 ∨ k = 4 then sclr rw1 else if k = 5 then rw1 else if k = 6 ∨ k = 7 then rw0 else if k = 20 then M else sclr rw1
theorem ad0_p {x i : Nat} : ad0 x (4 + i) = x + 57 + 12 * i := by
  unfold ad0
  rw [if_neg (by omega), if_neg (by omega), if_neg (by omega), if_neg (by omega), show 4 + i - 4 = i by omega]
theorem W00_p {M : Nat → Nat → Int32} {i : Nat} (h : i < 6) : W00 M (8 + i) = sclr rw1 := by
  unfold W00
  rw [if_neg (by omega), if_neg (by omega), if_neg (by omega), if_neg (by omega), if_neg (by omega), if_neg (by omega)]
