/-! a map's statements read, in both (by program) -/
section
variable {G : osG} {z : osS} {N x n np L i : Nat} {ad : Nat → Nat} {W : Nat → Nat → Nat → Int32} {D D' E : Nat → Nat → Int64} {b : Nat → Nat} {M0 M B S C : Nat → Nat → Int32}
theorem m_stmt (cx : CM G N x L b W) (h : SM z x ad W D b L M0 i B S C E M D') (hQ : QM B S (M 2) (D' 7) (M 4) n np) (hi : i ≤ L) : gx (qX3_readStatement N (x + 4) (ad 1) (ad 3) G z) (fun r z' => ux G (x + 129) (qX10_readStatement N (x + 129)) M D' (fun b1 M2 D2 => PM x ad W D b L M0 i r z' b1 M2 D2)) := by
  obtain ⟨hI, hA, hN, hL, hb⟩ := id cx
  have hb' : ∀ k, k < 1000 → b k < 256 := fun k hk => (hb k hk).1
  have hr := h.2.2.2.2
  have e6 : C 6 0 = nI (tS b L i) := h.2.1.2.2.2.2.1
  unfold qX3_readStatement qX10_readStatement
  refine gx_gI h.1.2.o (by decide) rfl (gx_callE rfl ?_)
  rw [e6]
  by_cases hn : tN b L i = 0
  · refine gx_recvE h.1.2.o (by decide) (c_take0_X3 h.1 h.2.1 hi hI (j := 0) (by omega) (kwb_n hn)) (gx_itet rfl (gx_callE rfl (gx_recvE h.1.2.o (by decide) (c_take0_X3 h.1 h.2.1 hi hI (j := 1) (by omega) (kwb_n hn)) (gx_itet rfl (gx_callE rfl (gx_recvE h.1.2.o (by decide) (c_take0_X3 h.1 h.2.1 hi hI (j := 2) (by omega) (kwb_n hn)) (gx_itet rfl (gx_callE rfl (gx_recvE h.1.2.o (by decide) (c_take0_X3 h.1 h.2.1 hi hI (j := 4) (by omega) (kwb_n hn)) (gx_itet rfl (gx_callE rfl (gx_recvE h.1.2.o (by decide) (c_take0_X3 h.1 h.2.1 hi hI (j := 7) (by omega) (kwb_n hn)) (gx_itet rfl (gx_callE rfl (gx_recvE h.1.2.o (by decide) (c_take0_X3 h.1 h.2.1 hi hI (j := 5) (by omega) (kwb_n hn)) (gx_itet rfl (gx_callE rfl (gx_recvE h.1.2.o (by decide) (c_take0_X3 h.1 h.2.1 hi hI (j := 6) (by omega) (kwb_n hn)) (gx_itet rfl (gx_recvQ h.1.2.o (by decide) (c_fail_X3 h.1 hA) (fun r z2 ⟨e, h2⟩ => gx_retZ (Or.inl e) (ux_call (ux_word h.2.2.1 hb' hL (by omega) hN hi (fun _ M2 b6 b7 r2 => ux_itet rfl (ux_retZ (Or.inl rfl) (PM_f h2 ⟨b6.symm, b7.symm⟩ (hr.k r2 dk_rf) e rfl))) (fun q => absurd q (by omega)))))))))))))))))))))))))
  have hn' : 0 < tN b L i := by omega
  have hv := tV_lt (b := b) hi
  have kf : ∀ j, ¬ tV b L i = kwN j → kwb b L i j = false := fun j q => by rw [kwb_v hn']; exact decide_eq_false q
  have ky : ∀ j, tV b L i = kwN j → kwb b L i j = true := fun j q => by rw [kwb_v hn']; exact decide_eq_true q
  refine sm_u (ux_call (ux_word h.2.2.1 hb' hL (by omega) hN hi (fun q => absurd q (by omega)) (fun _ M2 D2 t2 a3 a5 a8 r2 d2 => ux_itef (by decide) (ux_gJ rfl ?_))))
  have hr2 := hr.k (rk2_rk r2) d2
  have hQ2 : QM B S (M2 2) (D2 7) (M2 4) n np := by rw [r2 2 (by omega), r2 4 (by omega), d2 7 (by omega)]; exact hQ
  have heq : C 8 0 = M2 16 0 ∧ C 9 0 = M2 17 0 := ⟨by rw [r2 16 (by omega)]; exact h.2.2.2.1.1, by rw [r2 17 (by omega)]; exact h.2.2.2.1.2⟩
  have hle2 := tX_le (b := b) hi
  have lt2 := (tX_w (b := b) hi hn').2
  have st : ∀ {z2 : osS} {C2 : Nat → Nat → Int32} {E2 : Nat → Nat → Int64}, MW z2 x ad (Ws (Ws W 2 B) 4 S) D C2 E2 → tkC b L (tX b L i) C2 E2 → k789 C C2 → SM z2 x ad W D b L M0 (tX b L i) B S C2 E2 M2 D2 := fun h2 tc2 k2 => ⟨h2, tc2, t2, ⟨by rw [k2.2.1]; exact heq.1, by rw [k2.2.2]; exact heq.2⟩, hr2⟩
  have r01 : ∀ {r1 r3 : Int32} {z3 : osS} {M3 : Nat → Nat → Int32} {D3 : Nat → Nat → Int64} {i3 : Nat}, PM x ad W D b L M0 i3 r1 z3 r3 M3 D3 → i ≤ i3 → gx (osretZ r1 G z3) (fun a z' => ux G (x + 129) (osretZ r3) M3 D3 (fun b1 M4 D4 => PM x ad W D b L M0 i a z' b1 M4 D4)) := fun hx h3 => gx_retZ (PM_01 hx).1 (ux_retZ (PM_01 hx).2.1 (PM_mv hx h3))
  rw [a8]
  by_cases q0 : tV b L i = kwN 0
  · refine ux_itet (lc_y kwL0 q0) ?_
    unfold qX10_readStatement_42 qX10_readStatement_74
    refine ux_gJ rfl ?_
    rw [a8]
    refine ux_itet (lc_y kwL0 q0) ?_
    refine sm_g (gx_recvQ h.1.2.o (by decide) (c_take1_X3 h.1 hb h.2.1 hL hi hA hN hI (by omega) (ky 0 q0)) ?_)
    rintro r z2 ⟨rfl, C2, E2, h2, tc2, k2⟩
    exact gx_itef (by decide) (sm_call h2.2.o (by decide) (m_newArea (i0 := i) cx (st h2 tc2 k2) hQ2 hle2.2 lt2 a3.symm (Or.inl rfl)) (fun r1 z3 r3 M3 D3 hx => r01 hx (Nat.le_refl i)))
  refine ux_itef (lc_n kwL0 hv (by omega) q0) (ux_gJ rfl ?_)
  rw [a8]
  by_cases q1 : tV b L i = kwN 1
  · refine ux_itet (lc_y kwL1 q1) ?_
    unfold qX10_readStatement_42 qX10_readStatement_74
    refine ux_gJ rfl ?_
    rw [a8]
    refine ux_itef (lc_n kwL0 hv (by omega) q0) (ux_gJ rfl ?_)
    rw [a8]
    refine ux_itet (lc_y kwL1 q1) ?_
    refine sm_g (gx_recvE h.1.2.o (by decide) (c_take0_X3 h.1 h.2.1 hi hI (by omega) (kf 0 q0)) (gx_itet rfl (gx_callE rfl (gx_recvQ h.1.2.o (by decide) (c_take1_X3 h.1 hb h.2.1 hL hi hA hN hI (by omega) (ky 1 q1)) ?_))))
    rintro r z2 ⟨rfl, C2, E2, h2, tc2, k2⟩
    exact gx_itef (by decide) (sm_call h2.2.o (by decide) (m_newArea (i0 := i) cx (st h2 tc2 k2) hQ2 hle2.2 lt2 a3.symm (Or.inr (Or.inl rfl))) (fun r1 z3 r3 M3 D3 hx => r01 hx (Nat.le_refl i)))
  refine ux_itef (lc_n kwL1 hv (by omega) q1) (ux_gJ rfl ?_)
  rw [a8]
  by_cases q2 : tV b L i = kwN 2
  · refine ux_itet (lc_y kwL2 q2) ?_
    unfold qX10_readStatement_42 qX10_readStatement_74
    refine ux_gJ rfl ?_
    rw [a8]
    refine ux_itef (lc_n kwL0 hv (by omega) q0) (ux_gJ rfl ?_)
    rw [a8]
    refine ux_itef (lc_n kwL1 hv (by omega) q1) ?_
    refine sm_g (gx_recvE h.1.2.o (by decide) (c_take0_X3 h.1 h.2.1 hi hI (by omega) (kf 0 q0)) (gx_itet rfl (gx_callE rfl (gx_recvE h.1.2.o (by decide) (c_take0_X3 h.1 h.2.1 hi hI (by omega) (kf 1 q1)) (gx_itet rfl (gx_callE rfl (gx_recvQ h.1.2.o (by decide) (c_take1_X3 h.1 hb h.2.1 hL hi hA hN hI (by omega) (ky 2 q2)) ?_)))))))
    rintro r z2 ⟨rfl, C2, E2, h2, tc2, k2⟩
    exact gx_itef (by decide) (sm_call h2.2.o (by decide) (m_newArea (i0 := i) cx (st h2 tc2 k2) hQ2 hle2.2 lt2 a3.symm (Or.inr (Or.inr rfl))) (fun r1 z3 r3 M3 D3 hx => r01 hx (Nat.le_refl i)))
  refine ux_itef (lc_n kwL2 hv (by omega) q2) (ux_gJ rfl ?_)
  rw [a8]
  by_cases q4 : tV b L i = kwN 4
  · refine ux_itet (lc_y kwL4 q4) ?_
    refine sm_g (gx_recvE h.1.2.o (by decide) (c_take0_X3 h.1 h.2.1 hi hI (by omega) (kf 0 q0)) (gx_itet rfl (gx_callE rfl (gx_recvE h.1.2.o (by decide) (c_take0_X3 h.1 h.2.1 hi hI (by omega) (kf 1 q1)) (gx_itet rfl (gx_callE rfl (gx_recvE h.1.2.o (by decide) (c_take0_X3 h.1 h.2.1 hi hI (by omega) (kf 2 q2)) (gx_itet rfl (gx_callE rfl (gx_recvQ h.1.2.o (by decide) (c_take1_X3 h.1 hb h.2.1 hL hi hA hN hI (by omega) (ky 4 q4)) ?_))))))))))
    rintro r z2 ⟨rfl, C2, E2, h2, tc2, k2⟩
    exact gx_itef (by decide) (sm_call h2.2.o (by decide) (m_border (i0 := i) cx (st h2 tc2 k2) hQ2 hle2.2 lt2) (fun r1 z3 r3 M3 D3 hx => r01 hx (Nat.le_refl i)))
  refine ux_itef (lc_n kwL4 hv (by omega) q4) (ux_gJ rfl ?_)
  rw [a8]
  by_cases q7 : tV b L i = kwN 7
  · refine ux_itet (lc_y kwL7 q7) ?_
    refine sm_g (gx_recvE h.1.2.o (by decide) (c_take0_X3 h.1 h.2.1 hi hI (by omega) (kf 0 q0)) (gx_itet rfl (gx_callE rfl (gx_recvE h.1.2.o (by decide) (c_take0_X3 h.1 h.2.1 hi hI (by omega) (kf 1 q1)) (gx_itet rfl (gx_callE rfl (gx_recvE h.1.2.o (by decide) (c_take0_X3 h.1 h.2.1 hi hI (by omega) (kf 2 q2)) (gx_itet rfl (gx_callE rfl (gx_recvE h.1.2.o (by decide) (c_take0_X3 h.1 h.2.1 hi hI (by omega) (kf 4 q4)) (gx_itet rfl (gx_callE rfl (gx_recvQ h.1.2.o (by decide) (c_take1_X3 h.1 hb h.2.1 hL hi hA hN hI (by omega) (ky 7 q7)) ?_)))))))))))))
    rintro r z2 ⟨rfl, C2, E2, h2, tc2, k2⟩
    exact gx_itef (by decide) (sm_call h2.2.o (by decide) (m_power (i0 := i) cx (st h2 tc2 k2) hQ2 hle2.2 lt2 a3.symm) (fun r1 z3 r3 M3 D3 hx => r01 hx (Nat.le_refl i)))
  refine ux_itef (lc_n kwL7 hv (by omega) q7) (ux_gJ rfl ?_)
  rw [a8]
  by_cases q5 : tV b L i = kwN 5
  · refine ux_itet (lc_y kwL5 q5) ?_
    unfold qX10_readStatement_132 qX10_readStatement_149
    refine ux_gJ rfl ?_
    rw [a8]
    refine ux_itet (lc_y kwL5 q5) ?_
    refine sm_g (gx_recvE h.1.2.o (by decide) (c_take0_X3 h.1 h.2.1 hi hI (by omega) (kf 0 q0)) (gx_itet rfl (gx_callE rfl (gx_recvE h.1.2.o (by decide) (c_take0_X3 h.1 h.2.1 hi hI (by omega) (kf 1 q1)) (gx_itet rfl (gx_callE rfl (gx_recvE h.1.2.o (by decide) (c_take0_X3 h.1 h.2.1 hi hI (by omega) (kf 2 q2)) (gx_itet rfl (gx_callE rfl (gx_recvE h.1.2.o (by decide) (c_take0_X3 h.1 h.2.1 hi hI (by omega) (kf 4 q4)) (gx_itet rfl (gx_callE rfl (gx_recvE h.1.2.o (by decide) (c_take0_X3 h.1 h.2.1 hi hI (by omega) (kf 7 q7)) (gx_itet rfl (gx_callE rfl (gx_recvQ h.1.2.o (by decide) (c_take1_X3 h.1 hb h.2.1 hL hi hA hN hI (by omega) (ky 5 q5)) ?_))))))))))))))))
    rintro r z2 ⟨rfl, C2, E2, h2, tc2, k2⟩
    exact gx_itef (by decide) (sm_call h2.2.o (by decide) (m_unit (i0 := i) cx (st h2 tc2 k2) hQ2 hle2.2 lt2 a3.symm (Or.inl rfl)) (fun r1 z3 r3 M3 D3 hx => r01 hx (Nat.le_refl i)))
  refine ux_itef (lc_n kwL5 hv (by omega) q5) (ux_gJ rfl ?_)
  rw [a8]
  by_cases q6 : tV b L i = kwN 6
  · refine ux_itet (lc_y kwL6 q6) ?_
    unfold qX10_readStatement_132 qX10_readStatement_149
    refine ux_gJ rfl ?_
    rw [a8]
    refine ux_itef (lc_n kwL5 hv (by omega) q5) ?_
    refine sm_g (gx_recvE h.1.2.o (by decide) (c_take0_X3 h.1 h.2.1 hi hI (by omega) (kf 0 q0)) (gx_itet rfl (gx_callE rfl (gx_recvE h.1.2.o (by decide) (c_take0_X3 h.1 h.2.1 hi hI (by omega) (kf 1 q1)) (gx_itet rfl (gx_callE rfl (gx_recvE h.1.2.o (by decide) (c_take0_X3 h.1 h.2.1 hi hI (by omega) (kf 2 q2)) (gx_itet rfl (gx_callE rfl (gx_recvE h.1.2.o (by decide) (c_take0_X3 h.1 h.2.1 hi hI (by omega) (kf 4 q4)) (gx_itet rfl (gx_callE rfl (gx_recvE h.1.2.o (by decide) (c_take0_X3 h.1 h.2.1 hi hI (by omega) (kf 7 q7)) (gx_itet rfl (gx_callE rfl (gx_recvE h.1.2.o (by decide) (c_take0_X3 h.1 h.2.1 hi hI (by omega) (kf 5 q5)) (gx_itet rfl (gx_callE rfl (gx_recvQ h.1.2.o (by decide) (c_take1_X3 h.1 hb h.2.1 hL hi hA hN hI (by omega) (ky 6 q6)) ?_)))))))))))))))))))
    rintro r z2 ⟨rfl, C2, E2, h2, tc2, k2⟩
    exact gx_itef (by decide) (sm_call h2.2.o (by decide) (m_unit (i0 := i) cx (st h2 tc2 k2) hQ2 hle2.2 lt2 a3.symm (Or.inr rfl)) (fun r1 z3 r3 M3 D3 hx => r01 hx (Nat.le_refl i)))
  refine ux_itef (lc_n kwL6 hv (by omega) q6) (sm_g (gx_recvE h.1.2.o (by decide) (c_take0_X3 h.1 h.2.1 hi hI (by omega) (kf 0 q0)) (gx_itet rfl (gx_callE rfl (gx_recvE h.1.2.o (by decide) (c_take0_X3 h.1 h.2.1 hi hI (by omega) (kf 1 q1)) (gx_itet rfl (gx_callE rfl (gx_recvE h.1.2.o (by decide) (c_take0_X3 h.1 h.2.1 hi hI (by omega) (kf 2 q2)) (gx_itet rfl (gx_callE rfl (gx_recvE h.1.2.o (by decide) (c_take0_X3 h.1 h.2.1 hi hI (by omega) (kf 4 q4)) (gx_itet rfl (gx_callE rfl (gx_recvE h.1.2.o (by decide) (c_take0_X3 h.1 h.2.1 hi hI (by omega) (kf 7 q7)) (gx_itet rfl (gx_callE rfl (gx_recvE h.1.2.o (by decide) (c_take0_X3 h.1 h.2.1 hi hI (by omega) (kf 5 q5)) (gx_itet rfl (gx_callE rfl (gx_recvE h.1.2.o (by decide) (c_take0_X3 h.1 h.2.1 hi hI (by omega) (kf 6 q6)) (gx_itet rfl (m_fail h.1 a3.symm hr2 hA))))))))))))))))))))))
def PL (x : Nat) (ad : Nat → Nat) (W : Nat → Nat → Nat → Int32) (D : Nat → Nat → Int64) (M0 : Nat → Nat → Int32) (r1 : Int32) (z1 : osS) (r2 : Int32) (M' : Nat → Nat → Int32) (D' : Nat → Nat → Int64) : Prop := RM M0 D M' D' ∧ ∃ B' S' C' E', MW z1 x ad (Ws (Ws W 2 B') 4 S') D C' E' ∧ (C' 8 0 = M' 16 0 ∧ C' 9 0 = M' 17 0) ∧ ((r1 = 0 ∧ r2 = 0) ∨ (r1 = 1 ∧ r2 = 1 ∧ ∃ n np, QM B' S' (M' 2) (D' 7) (M' 4) n np))
theorem m_round {ih1 : Nat × Int32 × Nat × Nat × Int32 → osM Int32} {ih2 : Nat → osM Int32} {j : Nat} (cx : CM G N x L b W) (h : SM z x ad W D b L M0 i B S C E M D') (hQ : QM B S (M 2) (D' 7) (M 4) n np) (hj : j ≤ i) (hi : i ≤ L) (kk : ∀ z1 i' B' S' C' E' M' D'' n' np', j + 1 ≤ i' → i' ≤ L → SM z1 x ad W D b L M0 i' B' S' C' E' M' D'' → QM B' S' (M' 2) (D'' 7) (M' 4) n' np' → gx (ih1 (x + 4, nI L, ad 1, ad 3, nI (j + 1)) G z1) (fun a z' => ux G (x + 129) (ih2 (x + 129)) M' D'' (fun b1 M2 D2 => PL x ad W D M0 a z' b1 M2 D2))) : gx (bX3_readMap_18 N ih1 (x + 4) (nI L) (ad 1) (ad 3) (nI j) G z) (fun a z' => ux G (x + 129) (bX10_readMap_0 N ih2 (x + 129)) M D' (fun b1 M2 D2 => PL x ad W D M0 a z' b1 M2 D2)) := by
  obtain ⟨hI, hA, hN, hL, hb⟩ := id cx
  have hb' : ∀ k, k < 1000 → b k < 256 := fun k hk => (hb k hk).1
  unfold bX3_readMap_18 qX3_readMap_50 bX10_readMap_0 qX10_readMap_22
  refine gx_itef (fun c => by have := (nI_ltI (a := L) (b := j) (by omega) (by omega)).mp c; omega) (gx_recvE h.1.2.o (by decide) (c_isEnd_X3 h.1 h.2.1 hi) (sm_u (ux_call (ux_peek h.2.2.1 hb' hL (by omega) hN hi (fun M1 t1 a1 a3 ek => ?_)))))
  obtain ⟨_, _, _, c4, _⟩ := bat_32 (b := b) (L := L) (k := tS b L i) hb' hL
  have hr1 : RM M0 D M1 D' := h.2.2.2.2.k (fun k hk => ek k (by omega) (by omega)) dk_rf
  have heq : C 8 0 = M1 16 0 ∧ C 9 0 = M1 17 0 := by rw [ek 16 (by omega) (by omega), ek 17 (by omega) (by omega)]; exact h.2.2.2.1
  have hQ1 : QM B S (M1 2) (D' 7) (M1 4) n np := by rw [ek 2 (by omega) (by omega), ek 4 (by omega) (by omega)]; exact hQ
  by_cases q : L ≤ tS b L i
  · refine ux_itet (c4.mpr q) (ux_retZ (Or.inr rfl) ?_)
    rw [decide_eq_true q]
    exact gx_itef (by decide) (gx_retZ (Or.inr rfl) ⟨hr1, B, S, C, E, h.1, heq, Or.inr ⟨rfl, rfl, n, np, hQ1⟩⟩)
  · refine ux_itef (fun c => q (c4.mp c)) (sm_g ?_)
    rw [decide_eq_false q]
    refine gx_itet rfl (sm_call h.1.2.o (by decide) (m_stmt cx ⟨h.1, h.2.1, t1, heq, hr1⟩ hQ1 hi) (fun r1 z1 r2 M2 D2 hx => ?_))
    obtain ⟨hr2, B', S', C', E', hw, he2, ⟨rfl, rfl⟩ | ⟨rfl, rfl, i', n', np', lt, le, tc, tr, hQ'⟩⟩ := hx
    · exact gx_itet rfl (gx_retZ (Or.inl rfl) (ux_itet rfl (ux_retZ (Or.inl rfl) ⟨hr2, B', S', C', E', hw, he2, Or.inl ⟨rfl, rfl⟩⟩)))
    · refine gx_itef (by decide) (sm_u (ux_itef (by decide) (sm_g ?_)))
      by_cases hs2 : tK b L i' = 2
      · refine gx_recvQ hw.2.o (by decide) (c_semi1_X3 hw hb tc hL le hA hN hs2) ?_
        rintro r z2 ⟨rfl, C2, E2, h2, tc2, k2⟩
        refine gx_itef (by decide) (sm_u (ux_call (ux_semi tr hb' hL (by omega) hN le (fun q => absurd hs2 q) (fun _ M3 t3 r3 => ux_itef (by decide) (sm_g ?_)))))
        have l2 := (tX_s (b := b) le hs2).2.1
        rw [nI_1]
        refine kk z2 (tX b L i') B' S' C2 E2 _ _ n' np' (by omega) (tX_le le).2 ⟨h2, tc2, t3, ⟨?_, ?_⟩, hr2.k (rk2_rk r3) dk_rf⟩ ?_
        · rw [k2.2.1, r3 16 (by omega)]; exact he2.1
        · rw [k2.2.2, r3 17 (by omega)]; exact he2.2
        · rw [r3 2 (by omega), r3 4 (by omega)]; exact hQ'
      · refine gx_recvQ hw.2.o (by decide) (c_semi0_X3 hw tc le hA hs2) (fun r z2 ⟨e, p⟩ => gx_itet e (gx_retZ (Or.inl rfl) (ux_call (ux_semi tr hb' hL (by omega) hN le (fun _ M3 b6 b7 r3 => ux_itet rfl (ux_retZ (Or.inl rfl) ⟨hr2.k r3 dk_rf, B', S', _, E', p, ⟨b6.symm, b7.symm⟩, Or.inl ⟨rfl, rfl⟩⟩)) (fun q => absurd q hs2)))))
theorem m_all (cx : CM G N x L b W) (h : SM z x ad W D b L M0 0 B S C E M D') (hQ : QM B S (M 2) (D' 7) (M 4) n np) : gx (qX3_readMap_18 N (x + 4, nI L, ad 1, ad 3, (0 : Int32)) G z) (fun a z' => ux G (x + 129) (qX10_readMap_0 N (x + 129)) M D' (fun b1 M2 D2 => PL x ad W D M0 a z' b1 M2 D2)) := by
  obtain ⟨hI, hA, hN, hL, hb⟩ := id cx
  unfold qX3_readMap_18 qX10_readMap_0
  refine sm_loop L (fun j p z q M D' => p = (x + 4, nI L, ad 1, ad 3, nI j) ∧ q = x + 129 ∧ ∃ i B S C E n np, j ≤ i ∧ i ≤ L ∧ SM z x ad W D b L M0 i B S C E M D' ∧ QM B S (M 2) (D' 7) (M 4) n np) ?_ ?_ N 0 _ z _ M D' (Nat.zero_le _) (by omega) ⟨rfl, rfl, 0, B, S, C, E, n, np, Nat.le_refl 0, Nat.zero_le _, h, hQ⟩
  · rintro ih1 ih2 j p z q M D' hj ⟨rfl, rfl, i, B, S, C, E, n, np, h1, h2, st, hQ⟩ k
    exact m_round cx st hQ h1 h2 (fun z1 i' B' S' C' E' M' D'' n' np' a1 a2 a3 a4 => k _ _ _ _ _ ⟨rfl, rfl, i', B', S', C', E', n', np', a1, a2, a3, a4⟩)
  · rintro ih1 ih2 p z q M D' ⟨rfl, rfl, i, B, S, C, E, n, np, h1, h2, st, hQ⟩
    exact m_round cx st hQ h1 h2 (fun z1 i' B' S' C' E' M' D'' n' np' a1 a2 a3 a4 => absurd a1 (by omega))
end
