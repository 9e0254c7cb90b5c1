section
variable {G : osG} {z : osS} {N x n np T : Nat} {ad : Nat → Nat} {W : Nat → Nat → Nat → Int32} {D : osS} {Q : Int32 → osS → Prop}
end
theorem sbn : ∀ a, a < 17 → ∀ b, b < 17 → ((0 < nI a - nI b) ↔ b < a) ∧ ((nI a - nI b = 0) ↔ a = b) ∧ ((nI a - nI b ≤ 0) ↔ a ≤ b) ∧ ((nI a ≤ nI b) ↔ a ≤ b) := by decide +kernel
def ahd (S : Nat → Nat → Int32) (i j : Nat) : Bool := decide (ct (S 5) (nI j) < ct (S 5) (nI i)) || (decide (ct (S 5) (nI i) = ct (S 5) (nI j)) && decide (ct (S 6) (nI j) < ct (S 6) (nI i)))
def bst (S : Nat → Nat → Int32) : Nat → Nat
  | 0 => 0
  | i + 1 => if ahd S (i + 1) (bst S i) then i + 1 else bst S i
theorem bst_le {S : Nat → Nat → Int32} : ∀ i, bst S i ≤ i
  | 0 => Nat.le_refl 0
  | i + 1 => by
    have := bst_le (S := S) i
    unfold bst
    split <;> omega
theorem bst_t {S : Nat → Nat → Int32} {i : Nat} (h : ahd S (i + 1) (bst S i) = true) : bst S (i + 1) = i + 1 := by
  rw [bst, if_pos h]
theorem bst_f {S : Nat → Nat → Int32} {i : Nat} (h : ahd S (i + 1) (bst S i) = false) : bst S (i + 1) = bst S i := by
  rw [bst, if_neg (by rw [h]; exact Bool.false_ne_true)]
