/-! both readers side by side (by program) -/
def rq (M M' : Nat → Nat → Int32) : Prop := ∀ k, ¬ (k = 4 ∨ k = 11 ∨ k = 13 ∨ k = 14 ∨ k = 15 ∨ k = 16 ∨ k = 17 ∨ k = 19 ∨ k = 20) → M' k = M k
theorem nm_fd {C M : Nat → Nat → Int32} {D : Nat → Nat → Int64} {n np v : Nat} (hm : cpM C M D n np) (hv : v < 2 ^ 25) : fd (fun k => decide (D 6 (0 + k) = lN v)) 0 n = fd (fun k => decide (C 5 k = nI v)) 0 n := by
  refine fd_cong (fun j _ hj => ?_)
  obtain ⟨w, w0, w1, w2, w3⟩ := hm.2.2.1 j (by omega)
  rw [Nat.zero_add, w3, w2]
  exact dec_iff ((lN_eq (by omega) (by omega)).trans ⟨fun q => by rw [q], fun q => by
    have q := congrArg Int32.toInt q
    rw [nI_toInt (by omega), nI_toInt (by omega)] at q
    omega⟩)
section
variable {G : osG} {z : osS} {N x n np T L i i0 : Nat} {ad : Nat → Nat} {W : Nat → Nat → Nat → Int32} {D D' : osS} {E : Nat → Nat → Int64} {b : Nat → Nat} {M0 M S C : Nat → Nat → Int32} {l : Int32} {P : (Nat → Nat → Int32) → (Nat → Int32) → Prop}
end
