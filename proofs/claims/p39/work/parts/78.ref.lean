/-! the reference's settling: belongs, isCut, laysGiven (by program) -/
theorem dec_iff {p q : Prop} [Decidable p] [Decidable q] (h : p ↔ q) : decide p = decide q := by
  by_cases x : p
  · rw [decide_eq_true x, decide_eq_true (h.mp x)]
  · rw [decide_eq_false x, decide_eq_false (fun y => x (h.mpr y))]
theorem dec_nI {a b : Nat} (ha : a < 2 ^ 31) (hb : b < 2 ^ 31) : decide (nI a = nI b) = decide (a = b) := dec_iff (nI_eq ha hb)
def rBe (M : Nat → Nat → Int32) (a c w : Nat) : Bool := if M 3 (117 + a) = 2 then decide (M 24 c = -1) else decide (M 3 (117 + a) = 3) && (!decide (M 24 c = -1) && decide (M 22 w = M 3 (149 + a)))
def rCu (M : Nat → Nat → Int32) (a : Nat) (v : Int32) (i : Nat) : Bool := decide (M 22 i = nI a) && (bt (M 30 0) i && (!decide (M 21 i = v) && !decide (M 3 (21 + tn (M 21 i)) = M 3 (21 + a))))
section
variable {G : osG} {z : osS} {N m n a : Nat} {C S M : Nat → Nat → Int32} {D : Nat → Nat → Int64} {X : Nat → Bool} {sea : Bool}
end
def rGi (M : Nat → Nat → Int32) (vb vc : Bool) (a : Nat) : Bool := !decide (M 3 (21 + a) = -1) && (vb && (!bt (M 29 0) a && !vc))
