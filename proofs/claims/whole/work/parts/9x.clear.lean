/-! the reference clears its draft (by program) -/
def clM (j : Nat) : Int32 := if 34 ≤ j ∧ j < 50 then -1 else 0
def clD (j : Nat) : Int32 := if j = 1 then 1 else if 5 ≤ j ∧ j < 37 ∨ 53 ≤ j ∧ j < 69 ∨ 85 ≤ j ∧ j < 117 then -1 else 0
theorem q_X10_clears {G : osG} {z : osS} {N m : Nat} {M : Nat → Nat → Int32} {D : Nat → Nat → Int64} (hm : rX10 z m M D) (hA : G.2.2.1 ≤ m) (hN : 5000 < N) : gx (qX10_clears N m G z) (fun _ z' => osFr m (m + 21) z z' ∧ ∃ M' g, rX10 z' m M' D ∧ (∀ k, ¬ k = 2 → ¬ k = 4 → M' k = M k) ∧ (∀ j, j < 98 → M' 2 j = clM j) ∧ M' 4 = holdF g ∧ ∀ j, j < 261 → g j = clD j) := by
  unfold qX10_clears
  refine gx_loop 98 (fun i p z' => p = (m, nI i) ∧ osFr m (m + 21) z z' ∧ ∃ M', rX10 z' m M' D ∧ (∀ k, ¬ k = 2 → M' k = M k) ∧ ∀ j, j < i → M' 2 j = 0) ?_ ?_ N 0 _ z (Nat.zero_le _) (by omega) ⟨rfl, osFr.rf, M, hm, fun _ _ => rfl, fun j hj => absurd hj (Nat.not_lt_zero j)⟩
  · rintro ih i p z' hi ⟨rfl, fr, M', h', er, e2⟩ k
    show gx (bX10_clears_2 N ih m (nI i) G z') _
    unfold bX10_clears_2
    refine gx_itef (nI_ge (a := i) (b := 98) hi (by omega)) (gx_gR h'.o (by decide) rfl (h'.s2 (i := i) rfl hi hA (fun z2 f2 h2 => k _ _ ⟨congrArg (fun t => (_, t)) (nI_sum (b := 1) rfl rfl), fr.tr f2, _, h2, fun r hr => ?_, fun j hj => ?_⟩)))
    · rw [cset_ne hr]; exact er r hr
    · show (if j = i then (0 : Int32) else M' 2 j) = 0
      by_cases q : j = i
      · rw [if_pos q]
      · rw [if_neg q]; exact e2 j (by omega)
  · rintro ih p z1 ⟨rfl, fr1, M1, h1, er1, e21⟩
    show gx (bX10_clears_2 N ih m (nI 98) G z1) _
    unfold bX10_clears_2
    refine gx_itet (by decide) ?_
    refine gx_loop 261 (fun i p z' => p = (m, nI i) ∧ osFr m (m + 21) z z' ∧ ∃ M', rX10 z' m M' D ∧ (∀ k, ¬ k = 4 → M' k = M1 k) ∧ ∀ j, j < i → M' 4 j = 0) ?_ ?_ N 0 _ z1 (Nat.zero_le _) (by omega) ⟨rfl, fr1, M1, h1, fun _ _ => rfl, fun j hj => absurd hj (Nat.not_lt_zero j)⟩
    · rintro ih i p z' hi ⟨rfl, fr, M', h', er, e2⟩ k
      show gx (bX10_clears_23 N ih m (nI i) G z') _
      unfold bX10_clears_23
      refine gx_itef (nI_ge (a := i) (b := 261) hi (by omega)) (gx_gR h'.o (by decide) rfl (h'.s4 (i := i) rfl hi hA (fun z2 f2 h2 => k _ _ ⟨congrArg (fun t => (_, t)) (nI_sum (b := 1) rfl rfl), fr.tr f2, _, h2, fun r hr => ?_, fun j hj => ?_⟩)))
      · rw [cset_ne hr]; exact er r hr
      · show (if j = i then (0 : Int32) else M' 4 j) = 0
        by_cases q : j = i
        · rw [if_pos q]
        · rw [if_neg q]; exact e2 j (by omega)
    · rintro ih p z2 ⟨rfl, fr2, M2, h2, er2, e42⟩
      show gx (bX10_clears_23 N ih m (nI 261) G z2) _
      unfold bX10_clears_23
      refine gx_itet (by decide) (gx_gR h2.o (by decide) rfl (h2.s4 (i := 1) rfl (by omega) hA (fun z3 f3 h3 => ?_)))
      refine gx_loop 16 (fun i p z' => p = (m, nI i) ∧ osFr m (m + 21) z z' ∧ ∃ M', rX10 z' m M' D ∧ (∀ k, ¬ k = 2 → ¬ k = 4 → M' k = M k) ∧ (∀ j, j < 98 → M' 2 j = if 34 ≤ j ∧ j < 34 + i then -1 else 0) ∧ ∀ j, j < 261 → M' 4 j = if j = 1 then 1 else if 5 ≤ j ∧ j < 5 + i ∨ 21 ≤ j ∧ j < 21 + i ∨ 53 ≤ j ∧ j < 53 + i ∨ 85 ≤ j ∧ j < 85 + i ∨ 101 ≤ j ∧ j < 101 + i then -1 else 0) ?_ ?_ N 0 _ z3 (Nat.zero_le _) (by omega) ⟨rfl, fr2.tr f3, _, h3, fun k q2 q4 => ?_, fun j hj => ?_, fun j hj => ?_⟩
      · rintro ih i p z' hi ⟨rfl, fr, M', h', er, e2, e4⟩ k
        show gx (bX10_clears_52 N ih m (nI i) G z') _
        unfold bX10_clears_52
        refine gx_itef (nI_ge (a := i) (b := 16) hi (by omega)) (gx_gR h'.o (by decide) rfl (h'.s2 (nI_sum (a := 34) (b := i) rfl rfl) (by omega) hA (fun z4 f4 h4 => gx_gR h4.o (by decide) rfl (h4.s4 (nI_sum (a := 5) (b := i) rfl rfl) (by omega) hA (fun z5 f5 h5 => gx_gR h5.o (by decide) rfl (h5.s4 (nI_sum (a := 21) (b := i) rfl rfl) (by omega) hA (fun z6 f6 h6 => gx_gR h6.o (by decide) rfl (h6.s4 (nI_sum (a := 53) (b := i) rfl rfl) (by omega) hA (fun z7 f7 h7 => gx_gR h7.o (by decide) rfl (h7.s4 (nI_sum (a := 85) (b := i) rfl rfl) (by omega) hA (fun z8 f8 h8 => gx_gR h8.o (by decide) rfl (h8.s4 (nI_sum (a := 101) (b := i) rfl rfl) (by omega) hA (fun z9 f9 h9 => k _ _ ⟨congrArg (fun t => (_, t)) (nI_sum (b := 1) rfl rfl), fr.tr (f4.tr (f5.tr (f6.tr (f7.tr (f8.tr f9))))), _, h9, fun r q2 q4 => ?_, fun j hj => ?_, fun j hj => ?_⟩)))))))))))))
        · rw [cset_ne q4, cset_ne q4, cset_ne q4, cset_ne q4, cset_ne q4, cset_ne q2]; exact er r q2 q4
        · show (if j = 34 + i then (-1 : Int32) else M' 2 j) = _
          rw [e2 j hj]
          by_cases q : j = 34 + i
          · rw [if_pos q, if_pos (by omega)]
          · rw [if_neg q]
            by_cases q2 : 34 ≤ j ∧ j < 34 + i
            · rw [if_pos q2, if_pos (by omega)]
            · rw [if_neg q2, if_neg (by omega)]
        · show (if j = 101 + i then (-1 : Int32) else if j = 85 + i then -1 else if j = 53 + i then -1 else if j = 21 + i then -1 else if j = 5 + i then -1 else M' 4 j) = _
          rw [e4 j hj]
          by_cases q : j = 101 + i ∨ j = 85 + i ∨ j = 53 + i ∨ j = 21 + i ∨ j = 5 + i
          · rw [if_neg (show ¬ j = 1 by omega), if_neg (show ¬ j = 1 by omega), if_pos (show 5 ≤ j ∧ j < 5 + (i + 1) ∨ 21 ≤ j ∧ j < 21 + (i + 1) ∨ 53 ≤ j ∧ j < 53 + (i + 1) ∨ 85 ≤ j ∧ j < 85 + (i + 1) ∨ 101 ≤ j ∧ j < 101 + (i + 1) by omega)]
            split
            · rfl
            · split
              · rfl
              · split
                · rfl
                · split
                  · rfl
                  · rw [if_pos (by omega)]
          · rw [if_neg (by omega), if_neg (by omega), if_neg (by omega), if_neg (by omega), if_neg (by omega)]
            by_cases q1 : j = 1
            · rw [if_pos q1, if_pos q1]
            · rw [if_neg q1, if_neg q1]
              by_cases q2 : 5 ≤ j ∧ j < 5 + i ∨ 21 ≤ j ∧ j < 21 + i ∨ 53 ≤ j ∧ j < 53 + i ∨ 85 ≤ j ∧ j < 85 + i ∨ 101 ≤ j ∧ j < 101 + i
              · rw [if_pos q2, if_pos (by omega)]
              · rw [if_neg q2, if_neg (by omega)]
      · rintro ih p z4 ⟨rfl, fr4, M4, h4, er4, e2, e4⟩
        show gx (bX10_clears_52 N ih m (nI 16) G z4) _
        unfold bX10_clears_52
        refine gx_itet (by decide) (gx_gR h4.o (by decide) rfl (gx_call (q_X10_allHold h4.a4 (by omega) (by omega)) (fun _ z5 ⟨f5, h5⟩ => gx_ret ⟨fr4.tr (f5.wide (by omega) (by omega)), _, M4 4, h4.row4 f5 h5, fun k q2 q4 => ?_, fun j hj => ?_, rfl, fun j hj => ?_⟩)))
        · rw [cset_ne q4]; exact er4 k q2 q4
        · show M4 2 j = _
          rw [e2 j hj]; rfl
        · rw [e4 j hj]
          unfold clD
          by_cases q1 : j = 1
          · rw [if_pos q1, if_pos q1]
          · rw [if_neg q1, if_neg q1]
            by_cases q2 : 5 ≤ j ∧ j < 37 ∨ 53 ≤ j ∧ j < 69 ∨ 85 ≤ j ∧ j < 117
            · rw [if_pos q2, if_pos (by omega)]
            · rw [if_neg q2, if_neg (by omega)]
      · rw [cset_ne q4, er2 k q4]; exact er1 k q2
      · show M2 2 j = _
        rw [er2 2 (by omega), e21 j hj, if_neg (by omega)]
      · show (if j = 1 then (1 : Int32) else M2 4 j) = _
        by_cases q1 : j = 1
        · rw [if_pos q1, if_pos q1]
        · rw [if_neg q1, if_neg q1, e42 j hj, if_neg (by omega)]
