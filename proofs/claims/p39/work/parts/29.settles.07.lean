def KL_settles_7 : List (Nat × Nat × Instr) := [(665, 3, .invokestatic 123), (668, 2, .iload 5), (670, 3, .if_icmp .ne 25), (673, 1, .aload_n 0), (674, 3, .invokevirtual 133), (677, 2, .iload 8), (679, 3, .if_icmp .ne 16), (682, 1, .aload_n 0), (683, 3, .invokestatic 123), (686, 2, .iload 12), (688, 3, .if_icmp .ne 7), (691, 1, .iconst 1), (692, 3, .goto 4), (695, 1, .iconst 0), (696, 1, .ireturn)]
theorem hL_settles_7 : osDs cL_settles KL_settles_7 := by
  show ∀ q ∈ KL_settles_7, decode cL_settles q.1 = .ok (q.2.2, q.2.1)
  decide +kernel
