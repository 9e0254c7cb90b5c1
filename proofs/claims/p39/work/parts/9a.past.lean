def remR (M M' : Nat → Nat → Int32) (s v : Nat) : Prop := M' 8 0 = nI (v + 1) ∧ (∀ j, j < 261 * v → M' 5 j = M 5 (j + 261 * s)) ∧ (∀ j, j < 261 → M' 5 (261 * v + j) = M 3 j) ∧ ∀ k, ¬ k = 5 → ¬ k = 8 → M' k = M k
section
variable {G : osG} {z : osS} {N m v u : Nat} {M : Nat → Nat → Int32} {D : Nat → Nat → Int64}
end
