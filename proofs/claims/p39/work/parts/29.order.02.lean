def KL_order_2 : List (Nat × Nat × Instr) := [(225, 3, .invokevirtual 56), (228, 2, .ldc 61), (230, 3, .invokevirtual 52), (233, 3, .invokevirtual 69), (236, 1, .areturn)]
theorem hL_order_2 : osDs cL_order KL_order_2 := by
  show ∀ q ∈ KL_order_2, decode cL_order q.1 = .ok (q.2.2, q.2.1)
  decide +kernel
