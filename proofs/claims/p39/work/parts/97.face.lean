/-! the face: leader, outputByte, feed (by program) -/
theorem nI_n0 {p : Nat} (h : p + 1 < 2 ^ 31) : ¬ nI (p + 1) = 0 := fun q => by
  have e := congrArg Int32.toInt q
  rw [nI_toInt h] at e
  have : (0 : Int32).toInt = 0 := rfl
  omega
section
variable {G : osG} {z : osS} {N x n np T : Nat} {ad : Nat → Nat} {W : Nat → Nat → Nat → Int32} {D : osS}
end
section
variable {G : osG} {z : osS} {N m n np T : Nat} {C S M : Nat → Nat → Int32} {D : Nat → Nat → Int64}
end
