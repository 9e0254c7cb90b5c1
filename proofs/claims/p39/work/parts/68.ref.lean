/-! the reference: small reads (by program) -/
section
variable {G : osG} {z : osS} {N : Nat}
theorem ra1 (x : Int32) : x &&& 1 = if bt x 0 = true then 1 else 0 := b_ext (fun i _ => by
  rw [b_and, b_one]
  by_cases e : i = 0
  · subst e; cases h : bt x 0 <;> simp [b_0, b_one]
  · cases h : bt x 0 <;> simp [e, b_0, b_one])
theorem shr1 {s : Int32} {i : Nat} (hi : i < 32) : ((osshr s (nI i)) &&& (1 : Int32) = 1) ↔ bt s i = true := by
  have h := hsv_nI (s := s) hi
  unfold hsv at h
  rw [show decide (nI i < 0) = false from decide_eq_false (nI_pos (by omega)), ra1] at h
  rw [ra1]
  cases e : bt (osshr s (nI i)) 0 <;> rw [e] at h <;> cases e2 : bt s i <;> rw [e2] at h <;> simp at h ⊢
end
def psg (M : Nat → Nat → Int32) (a : Nat) (kd : Int32) : Int32 := if kd = 0 then M 1 (66 + a) else M 1 (82 + a)
