/-! the face: leader, outputByte, feed (by program) -/
theorem nI_n0 {p : Nat} (h : p + 1 < 2 ^ 31) : ¬ nI (p + 1) = 0 := fun q => by
  have e := congrArg Int32.toInt q
  rw [nI_toInt h] at e
  have : (0 : Int32).toInt = 0 := rfl
  omega
section
variable {G : osG} {z : osS} {N x n np T : Nat} {ad : Nat → Nat} {W : Nat → Nat → Nat → Int32} {D : Nat → Nat → Int64}
theorem q_X9_leader_25 (hw : WD z x ad W D) (hi : IVn W D n np T) (hp : 0 < np) (hN : 5000 < N) : gx (qX9_leader_25 N (x, (0 : Int32), (1 : Int32)) G z) (fun r z' => r = .inr (nI (bst (W 3) (np - 1))) ∧ z' = z) := by
  have c1 := hi.m.c1
  have h4 := hi.m.p4
  refine gx_loop (np - 1) (fun i p z' => p = (x, nI (bst (W 3) i), nI (i + 1)) ∧ z' = z) ?_ ?_ N 0 _ z (Nat.zero_le _) (by omega) ⟨rfl, rfl⟩
  · rintro ih i p z' hi2 ⟨rfl, rfl⟩ k
    show gx (bX9_leader_25 N ih x (nI (bst (W 3) i)) (nI (i + 1)) G _) _
    unfold bX9_leader_25 qX9_leader_86 qX9_leader_88
    refine gx_gR hw.x9.o (by decide) rfl (gx_gI hw.bd.o (by decide) rfl ?_)
    rw [c1]
    refine gx_itef (nI_ge (by omega) (by omega)) (gx_gR hw.x9.o (by decide) rfl (gx_recvE hw.nw.o (by decide) (q_countCenters hw.nw (by omega)) (gx_gR hw.x9.o (by decide) rfl (gx_recvE hw.nw.o (by decide) (q_countCenters hw.nw (by omega)) (gx_gR hw.x9.o (by decide) rfl (gx_recvE hw.nw.o (by decide) (q_countUnits hw.nw (by omega)) (gx_gR hw.x9.o (by decide) rfl (gx_recvE hw.nw.o (by decide) (q_countUnits hw.nw (by omega)) ?_))))))))
    obtain ⟨a1, a2, _⟩ := sbn _ (Nat.lt_succ_of_le (ct_le (W 3 5) (nI (i + 1)))) _ (Nat.lt_succ_of_le (ct_le (W 3 5) (nI (bst (W 3) i))))
    obtain ⟨_, _, b3, _⟩ := sbn _ (Nat.lt_succ_of_le (ct_le (W 3 6) (nI (i + 1)))) _ (Nat.lt_succ_of_le (ct_le (W 3 6) (nI (bst (W 3) i))))
    have yes : ahd (W 3) (i + 1) (bst (W 3) i) = true → gx (ih (x, nI (i + 1), nI (i + 1) + (1 : Int32)) G z') _ := fun q => k _ _ ⟨by rw [bst_t q]; exact congrArg (fun t => (_, _, t)) (nI_sum rfl rfl), rfl⟩
    have no : ahd (W 3) (i + 1) (bst (W 3) i) = false → gx (ih (x, nI (bst (W 3) i), nI (i + 1) + (1 : Int32)) G z') _ := fun q => k _ _ ⟨by rw [bst_f q]; exact congrArg (fun t => (_, _, t)) (nI_sum rfl rfl), rfl⟩
    refine gx_ite (fun q => yes ?_) (fun q => gx_ite (fun q2 => gx_ite (fun q3 => no ?_) (fun q3 => yes ?_)) (fun q2 => no ?_))
    · unfold ahd; rw [decide_eq_true (a1.mp q)]; rfl
    · unfold ahd
      rw [decide_eq_false (fun h => q (a1.mpr h)), decide_eq_false (Nat.not_lt.mpr (b3.mp q3)), Bool.and_false]; rfl
    · unfold ahd
      rw [decide_eq_false (fun h => q (a1.mpr h)), decide_eq_true (a2.mp q2), decide_eq_true (Nat.not_le.mp (fun h => q3 (b3.mpr h)))]; rfl
    · unfold ahd
      rw [decide_eq_false (fun h => q (a1.mpr h)), decide_eq_false (fun h => q2 (a2.mpr h))]; rfl
  · rintro ih p z' ⟨rfl, rfl⟩
    show gx (bX9_leader_25 N ih x (nI (bst (W 3) (np - 1))) (nI (np - 1 + 1)) G _) _
    unfold bX9_leader_25
    refine gx_gR hw.x9.o (by decide) rfl (gx_gI hw.bd.o (by decide) rfl ?_)
    rw [c1]
    exact gx_itet ((nI_leI (by omega) (by omega)).mpr (by omega)) (gx_Rt (gx_ret ⟨rfl, rfl⟩))
end
section
variable {G : osG} {z : osS} {N m n np T : Nat} {C S M : Nat → Nat → Int32} {D : Nat → Nat → Int64}
theorem q_X10_isAhead (hm : rX10 z m M D) (hc : cpM C M D n np) (hj : stJ C S n np T) (ht : cpT S (M 3)) {i j : Nat} (hi : i < np) (hj2 : j < np) (hN : 5000 < N) : qX10_isAhead N m (nI i) (nI j) G z = some (b2i (ahd S i j), z) := by
  have h4 := hc.p4
  have h16 := hc.n16
  have m0 := hc.m0
  have vi : ¬ nI i = -1 := nI_m1 (by omega)
  have vj : ¬ nI j = -1 := nI_m1 (by omega)
  refine gx_eq ?_
  unfold qX10_isAhead qX10_isAhead_49 qX10_isAhead_53 qX10_isAhead_54
  refine gx_gR hm.o (by decide) rfl (gx_recvE hm.o (by decide) (q_X10_centersOf hm hm.a3 m0 h16 (by omega)) (gx_gR hm.o (by decide) rfl (gx_recvE hm.o (by decide) (q_X10_centersOf hm hm.a3 m0 h16 (by omega)) ?_)))
  rw [cnC_eq hc hj ht vi, cnC_eq hc hj ht vj]
  obtain ⟨a1, a2, _⟩ := sbn _ (Nat.lt_succ_of_le (ct_le (S 5) (nI i))) _ (Nat.lt_succ_of_le (ct_le (S 5) (nI j)))
  obtain ⟨_, _, _, b4⟩ := sbn _ (Nat.lt_succ_of_le (ct_le (S 6) (nI i))) _ (Nat.lt_succ_of_le (ct_le (S 6) (nI j)))
  refine gx_ite (fun q => gx_retZ (Or.inr rfl) ⟨?_, rfl⟩) (fun q => gx_ite (fun q2 => gx_gR hm.o (by decide) rfl (gx_recvE hm.o (by decide) (q_X10_unitsOf hm hm.a3 m0 h16 (by omega)) (gx_gR hm.o (by decide) rfl (gx_recvE hm.o (by decide) (q_X10_unitsOf hm hm.a3 m0 h16 (by omega)) ?_)))) (fun q2 => gx_retZ (Or.inl rfl) ⟨?_, rfl⟩))
  · unfold ahd; rw [decide_eq_true (a1.mp q)]; rfl
  · rw [cnU_eq hj ht h16 vi, cnU_eq hj ht h16 vj]
    refine gx_ite (fun q3 => gx_retZ (Or.inl rfl) ⟨?_, rfl⟩) (fun q3 => gx_retZ (Or.inr rfl) ⟨?_, rfl⟩)
    · unfold ahd
      rw [decide_eq_false (fun h => q (a1.mpr h)), decide_eq_false (Nat.not_lt.mpr (b4.mp q3)), Bool.and_false]; rfl
    · unfold ahd
      rw [decide_eq_false (fun h => q (a1.mpr h)), decide_eq_true (a2.mp q2), decide_eq_true (Nat.not_le.mp (fun h => q3 (b4.mpr h)))]; rfl
  · unfold ahd
    rw [decide_eq_false (fun h => q (a1.mpr h)), decide_eq_false (fun h => q2 (a2.mpr h))]; rfl
theorem q_X10_leader_27 (hm : rX10 z m M D) (hc : cpM C M D n np) (hj : stJ C S n np T) (ht : cpT S (M 3)) (hp : 0 < np) (hN : 5000 < N) : gx (qX10_leader_27 N (m, (0 : Int32), (1 : Int32)) G z) (fun r z' => r = nI (bst S (np - 1)) ∧ z' = z) := by
  have h4 := hc.p4
  have m1 := hc.m1
  refine gx_loop (np - 1) (fun i p z' => p = (m, nI (bst S i), nI (i + 1)) ∧ z' = z) ?_ ?_ N 0 _ z (Nat.zero_le _) (by omega) ⟨rfl, rfl⟩
  · rintro ih i p z' hi2 ⟨rfl, rfl⟩ k
    show gx (bX10_leader_27 N ih m (nI (bst S i)) (nI (i + 1)) G _) _
    unfold bX10_leader_27 qX10_leader_51
    refine gx_gR hm.o (by decide) rfl (gx_aE (i := 1) hm.a1 rfl (by omega) (Nat.le_of_ble_eq_true rfl) ?_)
    rw [m1]
    have := bst_le (S := S) i
    refine gx_itef (nI_ge (by omega) (by omega)) (gx_recvE hm.o (by decide) (q_X10_isAhead hm hc hj ht (by omega) (by omega) hN) (gx_iteB (fun q => k _ _ ⟨?_, rfl⟩) (fun q => k _ _ ⟨?_, rfl⟩)))
    · rw [bst_f q]; exact congrArg (fun t => (_, _, t)) (nI_sum rfl rfl)
    · rw [bst_t q]; exact congrArg (fun t => (_, _, t)) (nI_sum rfl rfl)
  · rintro ih p z' ⟨rfl, rfl⟩
    show gx (bX10_leader_27 N ih m (nI (bst S (np - 1))) (nI (np - 1 + 1)) G _) _
    unfold bX10_leader_27
    refine gx_gR hm.o (by decide) rfl (gx_aE (i := 1) hm.a1 rfl (by omega) (Nat.le_of_ble_eq_true rfl) ?_)
    rw [m1]
    exact gx_itet ((nI_leI (by omega) (by omega)).mpr (by omega)) (gx_ret ⟨rfl, rfl⟩)
end
theorem p_leader {G : osG} {z : osS} {N x n np T : Nat} {ad : Nat → Nat} {W : Nat → Nat → Nat → Int32} {D : Nat → Nat → Int64} (hw : WD z x ad W D) (hi : IVn W D n np T) (hA : G.2.2.1 ≤ x) (hN : 5000 < N) : pairT G z x T W D [(2, (1 : Int32))] (qX9_leader N x) (qX10_leader N (x + 129)) := by
  have hm := hi.m
  have hs := hi.s
  have hj := hi.i.j
  have h16 := hm.n16
  have h4 := hm.p4
  have c0 := hm.c0
  have c1 := hm.c1
  have m0 := hm.m0
  have m1 := hm.m1
  have hA' : G.2.2.1 ≤ x + 129 := by omega
  cases np with
  | zero =>
    refine pair_of hi (.inl 2) ?_ (fun z1 ad1 hw1 => ?_)
    · unfold qX9_leader
      refine gx_gR hw.x9.o (by decide) rfl (gx_gI hw.bd.o (by decide) rfl ?_)
      rw [c1]
      exact gx_itet rfl (gx_throw hw.nz ⟨rfl, rfl⟩)
    · unfold qX10_leader qX10_leader_15
      refine gx_gR hw1.m.o (by decide) rfl (gx_aE (i := 1) hw1.m.a1 rfl (by omega) (Nat.le_of_ble_eq_true rfl) ?_)
      rw [m1]
      refine gx_itet rfl ?_
      exact gx_refT hw1.m hA' (by decide) (fun z2 f2 h2 => gx_ret ⟨f2, _, h2, k0_ok, agrT (j := 2) (q := (2, 1)) rfl rfl (by decide)⟩)
  | succ p =>
    refine pair_of hi (.inr (nI (bst (W 3) p))) ?_ (fun z1 ad1 hw1 => ?_)
    · unfold qX9_leader
      refine gx_gR hw.x9.o (by decide) rfl (gx_gI hw.bd.o (by decide) rfl ?_)
      rw [c1]
      exact gx_itef (nI_n0 (by omega)) (q_X9_leader_25 hw hi (by omega) hN)
    · unfold qX10_leader qX10_leader_15
      refine gx_gR hw1.m.o (by decide) rfl (gx_aE (i := 1) hw1.m.a1 rfl (by omega) (Nat.le_of_ble_eq_true rfl) ?_)
      rw [m1]
      refine gx_itef (nI_n0 (by omega)) (gx_refF hw1.m hA' (fun z2 f2 h2 => ?_))
      exact gx_mono (q_X10_leader_27 h2 (cpM_keep hm rfl rfl) hj (by exact hs) (by omega) hN) (fun b z3 ⟨e, e2⟩ => by subst e2; exact ⟨f2, _, h2, k0_ok, agrV e.symm⟩)
theorem p_outputByte {G : osG} {z : osS} {N x n np T : Nat} {ad : Nat → Nat} {W : Nat → Nat → Nat → Int32} {D : Nat → Nat → Int64} {v : Int32} (hw : WD z x ad W D) (hi : IVn W D n np T) (hA : G.2.2.1 ≤ x) (hN : 5000 < N) : pairT G z x T W D [(3, (1 : Int32))] (qX9_outputByte N x v) (qX10_outputByte N (x + 129) v) := by
  have hm := hi.m
  have hs := hi.s
  have hj := hi.i.j
  have h16 := hm.n16
  have h4 := hm.p4
  have c0 := hm.c0
  have c1 := hm.c1
  have m0 := hm.m0
  have m1 := hm.m1
  have hA' : G.2.2.1 ≤ x + 129 := by omega
  obtain ⟨l, hl, o1, q42, ho⟩ := hi.o
  cases ca : aB l v
  · refine pair_of hi (.inl 3) ?_ (fun z1 ad1 hw1 => ?_)
    · unfold qX9_outputByte qX9_outputByte_22
      refine gx_ite (fun _ => gx_throw hw.nz ⟨rfl, rfl⟩) (fun c => gx_gR hw.x9.o (by decide) rfl (gx_gI hw.x4.o (by decide) rfl ?_))
      rw [o1]
      refine gx_itet ?_ (gx_throw hw.nz ⟨rfl, rfl⟩)
      obtain ⟨j, hj2, rfl⟩ := nI_of c
      refine (nI_leI (by omega) hj2).mpr (Nat.not_lt.mp (fun q => ?_))
      rw [aB_nI (by omega) q] at ca
      cases ca
    · unfold qX10_outputByte qX10_outputByte_20
      refine gx_gI hw1.m.o (by decide) rfl (gx_callE (q_X10_in) ?_)
      rw [q42, rA_eq (by omega), ca]
      refine gx_itet rfl ?_
      exact gx_refT hw1.m hA' (by decide) (fun z2 f2 h2 => gx_ret ⟨f2, _, h2, k0_ok, agrT (j := 3) (q := (3, 1)) rfl rfl (by decide)⟩)
  · obtain ⟨a, ha, rfl⟩ := aB_t (by omega) ca
    refine pair_of hi (.inr (W 7 0 a)) ?_ (fun z1 ad1 hw1 => ?_)
    · unfold qX9_outputByte
      refine gx_itef (nI_pos (by omega)) (gx_gR hw.x9.o (by decide) rfl (gx_gI hw.x4.o (by decide) rfl ?_))
      rw [o1]
      exact gx_itef (nI_ge ha (by omega)) (gx_itet ((nI_ltI (a := a) (b := 360) (by omega) (by omega)).mpr (by omega)) (gx_gR hw.x9.o (by decide) rfl (gx_gR hw.x4.o (by decide) rfl (gx_aE hw.x4.a0 rfl (by omega) (Nat.le_of_ble_eq_true rfl) (gx_Rt (gx_ret ⟨rfl, rfl⟩))))))
    · unfold qX10_outputByte qX10_outputByte_20 qX10_outputByte_36
      refine gx_gI hw1.m.o (by decide) rfl (gx_callE (q_X10_in) ?_)
      rw [q42, rA_eq (by omega), ca]
      exact gx_itef (by decide) (gx_refF hw1.m hA' (fun z2 f2 h2 => gx_gR h2.o (by decide) rfl (gx_aE h2.a41 rfl (by omega) (Nat.le_of_ble_eq_true rfl) (gx_ret ⟨f2, _, h2, k0_ok, agrV (ho a ha)⟩))))
