/-! the reference takes its draft (by program) -/
section
variable {G : osG} {z : osS} {N m : Nat} {M : Nat → Nat → Int32} {D : Nat → Nat → Int64}
theorem q_X10_takesDraft (hm : rX10 z m M D) (hA : G.2.2.1 ≤ m) (hN : 5000 < N) : gx (qX10_takesDraft N m G z) (fun _ z' => osFr m (m + 21) z z' ∧ ∃ M', rX10 z' m M' D ∧ (∀ k, ¬ k = 3 → M' k = M k) ∧ ∀ j, j < 261 → M' 3 j = M 4 j) := by
  unfold qX10_takesDraft
  refine gx_loop 261 (fun i p z' => p = (m, nI i) ∧ osFr m (m + 21) z z' ∧ ∃ M', rX10 z' m M' D ∧ (∀ k, ¬ k = 3 → M' k = M k) ∧ ∀ j, j < i → M' 3 j = M 4 j) ?_ ?_ N 0 _ z (Nat.zero_le _) (by omega) ⟨rfl, osFr.rf, M, hm, fun _ _ => rfl, fun j hj => absurd hj (Nat.not_lt_zero j)⟩
  · rintro ih i p z' hi ⟨rfl, fr, M', h', er, e3⟩ k
    show gx (bX10_takesDraft_2 N ih m (nI i) G z') _
    unfold bX10_takesDraft_2
    refine gx_itef (nI_ge (a := i) (b := 261) hi (by omega)) (gx_gR h'.o (by decide) rfl (gx_gR h'.o (by decide) rfl (gx_aE h'.a4 rfl hi (Nat.le_of_ble_eq_true rfl) (h'.s3 (i := i) rfl hi hA (fun z2 f2 h2 => k _ _ ⟨congrArg (fun t => (_, t)) (nI_sum (b := 1) rfl rfl), fr.tr f2, _, h2, fun r hr => ?_, fun j hj => ?_⟩)))))
    · rw [cset_ne hr]; exact er r hr
    · show (if j = i then M' 4 i else M' 3 j) = _
      by_cases q : j = i
      · rw [if_pos q, er 4 (by omega), q]
      · rw [if_neg q]; exact e3 j (by omega)
  · rintro ih p z1 ⟨rfl, fr1, M1, h1, er1, e3⟩
    show gx (bX10_takesDraft_2 N ih m (nI 261) G z1) _
    unfold bX10_takesDraft_2
    exact gx_itet (by decide) (gx_ret ⟨fr1, M1, h1, er1, e3⟩)
theorem q_X10_settles (hm : rX10 z m M D) (hA : G.2.2.1 ≤ m) (hN : 5000 < N) : gx (qX10_settles N m G z) (fun _ z' => osFr m (m + 21) z z' ∧ ∃ M' D', rX10 z' m M' D' ∧ (∀ k, ¬ k = 1 → ¬ k = 3 → ¬ k = 8 → M' k = M k) ∧ (∀ j, j < 98 → M' 1 j = M 2 j) ∧ (∀ j, j < 261 → M' 3 j = M 4 j) ∧ M' 8 0 = 0 ∧ (∀ k, ¬ k = 6 → D' k = D k) ∧ ∀ j, j < 20 → D' 6 j = D 7 j) := by
  unfold qX10_settles
  refine gx_loop 98 (fun i p z' => p = (m, nI i) ∧ osFr m (m + 21) z z' ∧ ∃ M', rX10 z' m M' D ∧ (∀ k, ¬ k = 1 → M' k = M k) ∧ ∀ j, j < i → M' 1 j = M 2 j) ?_ ?_ N 0 _ z (Nat.zero_le _) (by omega) ⟨rfl, osFr.rf, M, hm, fun _ _ => rfl, fun j hj => absurd hj (Nat.not_lt_zero j)⟩
  · rintro ih i p z' hi ⟨rfl, fr, M', h', er, e1⟩ k
    show gx (bX10_settles_2 N ih m (nI i) G z') _
    unfold bX10_settles_2
    refine gx_itef (nI_ge (a := i) (b := 98) hi (by omega)) (gx_gR h'.o (by decide) rfl (gx_gR h'.o (by decide) rfl (gx_aE h'.a2 rfl hi (Nat.le_of_ble_eq_true rfl) (h'.s1 (i := i) rfl hi hA (fun z2 f2 h2 => k _ _ ⟨congrArg (fun t => (_, t)) (nI_sum (b := 1) rfl rfl), fr.tr f2, _, h2, fun r hr => ?_, fun j hj => ?_⟩)))))
    · rw [cset_ne hr]; exact er r hr
    · show (if j = i then M' 2 i else M' 1 j) = _
      by_cases q : j = i
      · rw [if_pos q, er 2 (by omega), q]
      · rw [if_neg q]; exact e1 j (by omega)
  · rintro ih p z1 ⟨rfl, fr1, M1, h1, er1, e1⟩
    show gx (bX10_settles_2 N ih m (nI 98) G z1) _
    unfold bX10_settles_2
    refine gx_itet (by decide) ?_
    refine gx_loop 20 (fun i p z' => p = (m, nI i) ∧ osFr m (m + 21) z z' ∧ ∃ D', rX10 z' m M1 D' ∧ (∀ k, ¬ k = 6 → D' k = D k) ∧ ∀ j, j < i → D' 6 j = D 7 j) ?_ ?_ N 0 _ z1 (Nat.zero_le _) (by omega) ⟨rfl, fr1, D, h1, fun _ _ => rfl, fun j hj => absurd hj (Nat.not_lt_zero j)⟩
    · rintro ih i p z' hi ⟨rfl, fr, D', h', er, e6⟩ k
      show gx (bX10_settles_28 N ih m (nI i) G z') _
      unfold bX10_settles_28
      refine gx_itef (nI_ge (a := i) (b := 20) hi (by omega)) (gx_gR h'.o (by decide) rfl (gx_gR h'.o (by decide) rfl (gx_aEJ h'.a7 rfl hi (Nat.le_of_ble_eq_true rfl) (h'.s6 (i := i) rfl hi hA (fun z2 f2 h2 => k _ _ ⟨congrArg (fun t => (_, t)) (nI_sum (b := 1) rfl rfl), fr.tr f2, _, h2, fun r hr => ?_, fun j hj => ?_⟩)))))
      · rw [cset_ne hr]; exact er r hr
      · show (if j = i then D' 7 i else D' 6 j) = _
        by_cases q : j = i
        · rw [if_pos q, er 7 (by omega), q]
        · rw [if_neg q]; exact e6 j (by omega)
    · rintro ih p z2 ⟨rfl, fr2, D2, h2, er2, e6⟩
      show gx (bX10_settles_28 N ih m (nI 20) G z2) _
      unfold bX10_settles_28
      refine gx_itet (by decide) (gx_recvQ h2.o (by decide) (q_X10_takesDraft h2 hA hN) (fun _ z3 ⟨f3, M3, h3, r3, e3⟩ => h3.p8 (by decide) hA (fun z4 f4 h4 => gx_ret ⟨fr2.tr (f3.tr f4), _, D2, h4, fun k q1 q3 q8 => ?_, fun j hj => ?_, fun j hj => ?_, rfl, er2, e6⟩)))
      · rw [cset_ne q8, r3 k q3]; exact er1 k q1
      · show M3 1 j = _
        rw [r3 1 (by omega)]; exact e1 j hj
      · show M3 3 j = _
        rw [e3 j hj, er1 4 (by omega)]
end
