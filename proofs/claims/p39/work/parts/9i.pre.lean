section
variable {C S M : Nat → Nat → Int32} {D : Nat → Nat → Int64} {n np T : Nat}
theorem nI_00 {a : Nat} (h : a < 2 ^ 31) : nI a = 0 ↔ a = 0 := ⟨fun q => by
  have q := congrArg Int32.toInt q
  rw [nI_toInt h] at q
  have : (0 : Int32).toInt = 0 := rfl
  omega, fun q => by rw [q]; rfl⟩
end
section
variable {G : osG} {z : osS} {N m n np T : Nat} {C S M : Nat → Nat → Int32} {D : Nat → Nat → Int64}
end
section
variable {G : osG} {z : osS} {N x n np T : Nat} {ad : Nat → Nat} {W : Nat → Nat → Nat → Int32} {D : osS}
end

