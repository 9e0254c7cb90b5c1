def KL_law_23 : List (Nat × Nat × Instr) := [(2000, 1, .iaload), (2001, 3, .invokevirtual 238), (2004, 2, .istore 7), (2006, 1, .aload_n 2), (2007, 3, .invokevirtual 114), (2010, 2, .iload 6), (2012, 3, .if_icmp .eq 5), (2015, 1, .iconst 0), (2016, 1, .ireturn), (2017, 2, .iload 6), (2019, 3, .ifCond .ne 15), (2022, 1, .aload_n 3), (2023, 1, .iconst 0), (2024, 1, .laload), (2025, 2, .iload 7), (2027, 1, .i2l), (2028, 1, .lcmp), (2029, 3, .ifCond .eq 5), (2032, 1, .iconst 0), (2033, 1, .ireturn), (2034, 3, .goto 3), (2037, 3, .iinc 5 6), (2040, 3, .goto (-2012)), (2043, 1, .iconst 1), (2044, 1, .ireturn)]
theorem hL_law_23 : osDs cL_law KL_law_23 := by
  show ∀ q ∈ KL_law_23, decode cL_law q.1 = .ok (q.2.2, q.2.1)
  decide +kernel
