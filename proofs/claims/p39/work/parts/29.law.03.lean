def KL_law_3 : List (Nat × Nat × Instr) := [(270, 1, .ireturn)]
theorem hL_law_3 : osDs cL_law KL_law_3 := by
  show ∀ q ∈ KL_law_3, decode cL_law q.1 = .ok (q.2.2, q.2.1)
  decide +kernel
