/-! the reference: names, bytes (by program) -/
theorem q_X10_isLetter {G : osG} {z : osS} {N : Nat} {v : Int32} : qX10_isLetter N v G z = some (b2i (!decide (v < 97) && !decide (122 < v)), z) := by
  refine gx_eq ?_
  unfold qX10_isLetter
  exact gx_callE (q_X10_in) (gx_retZ (b2i_01 _) ⟨(by first | with_reducible rfl | (simp [b2i]; done) | (simp_all [b2i]; done)), rfl⟩)
theorem lcmp_0 {x y : Int64} : (lg_cmp x y = 0) ↔ x = y := by
  unfold lg_cmp
  constructor
  · intro h
    by_cases h1 : x > y
    · rw [if_pos h1] at h; exact absurd h (by decide)
    · rw [if_neg h1] at h
      by_cases h2 : x = y
      · exact h2
      · rw [if_neg h2] at h; exact absurd h (by decide)
  · intro h; subst h
    have : ¬ x > x := fun q => by
      have := Int64.lt_iff_toInt_lt.mp q
      omega
    rw [if_neg this, if_pos rfl]
theorem q_X10_numberOf {G : osG} {z : osS} {N w n0 f n : Nat} {g : Nat → Int64} {v : Int64} (h : z.1 w = some (.inl (2, (n0, .inr (.inl g))))) (h0 : f + n ≤ n0) (hn0 : n0 < 2 ^ 31) (hN : n < N) : qX10_numberOf N w (nI f) (nI n) v G z = some (oi (fd (fun i => decide (g (f + i) = v)) 0 n), z) := by
  refine gx_eq ?_
  unfold qX10_numberOf qX10_numberOf_3
  refine gx_loop n (fun i p z' => p = (w, nI f, nI n, v, nI i) ∧ z' = z ∧ fd (fun i => decide (g (f + i) = v)) 0 n = fd (fun i => decide (g (f + i) = v)) i (n - i)) ?_ ?_ N 0 _ z (Nat.zero_le _) (by omega) ⟨rfl, rfl, rfl⟩
  · rintro ih i p z' hi ⟨rfl, rfl, e⟩ k
    show gx (bX10_numberOf_3 N ih w (nI f) (nI n) v (nI i) G z') _
    unfold bX10_numberOf_3
    refine gx_itef (nI_nleE (a := n) (b := i) rfl rfl hi (by omega)) (gx_aEJ (i := f + i) h (nI_sum (a := f) (b := i) rfl rfl) (by omega) hn0 (gx_ite (fun c => gx_ret ⟨?_, rfl⟩) (fun c => ?_)))
    · rw [e, fd_hit hi (by simp [lcmp_0.mp c])]; rfl
    · rw [nI_1]
      exact k _ _ ⟨rfl, rfl, by rw [e, fd_miss hi (by simp; exact fun q => c (lcmp_0.mpr q))]⟩
  · rintro ih p z' ⟨rfl, rfl, e⟩
    show gx (bX10_numberOf_3 N ih w (nI f) (nI n) v (nI n) G z') _
    unfold bX10_numberOf_3
    exact gx_itet ((nI_leI (by omega) (by omega)).mpr (Nat.le_refl _)) (gx_ret ⟨by rw [e, fd_end]; rfl, rfl⟩)
