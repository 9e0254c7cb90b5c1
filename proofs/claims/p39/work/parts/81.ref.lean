/-! the reference's settling: isStronger, should, isConsistent (by program) -/
def rSt (M : Nat → Nat → Int32) (i g w : Nat) : Bool := if M 23 i = -1 then !decide (M 33 i ≤ M 35 g) else !decide (M 33 i ≤ M 32 w)
def rSk (M : Nat → Nat → Int32) (i k : Nat) : Bool := !decide (k = i) && (decide (M 22 k = M 22 i) && !decide (M 34 k < M 33 i))
theorem b2i_inj {a b : Bool} : b2i a = b2i b ↔ a = b := by cases a <;> cases b <;> decide
theorem nI_gt {a b : Nat} (ha : a < 2 ^ 31) (hb : b < 2 ^ 31) : (!decide (nI a ≤ nI b)) = decide (b < a) := by
  by_cases h : b < a
  · rw [decide_eq_true h, decide_eq_false (fun q => by have := (nI_leI ha hb).mp q; omega)]; rfl
  · rw [decide_eq_false h, decide_eq_true ((nI_leI ha hb).mpr (by omega))]; rfl
section
variable {G : osG} {z : osS} {N m n a : Nat} {C S M : Nat → Nat → Int32} {D : Nat → Nat → Int64} {sea : Bool}
theorem prv_le {X : Nat → Bool} {c : Nat} : prv C S sea X c ≤ 17 := by
  unfold prv
  split
  · exact str_le
  · omega
end
