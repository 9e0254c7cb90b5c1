/-! tell, in both (by program) -/
section
variable {G : osG} {z : osS} {N x n np T L i : Nat} {ad : Nat → Nat} {W : Nat → Nat → Nat → Int32} {D D' E : Nat → Nat → Int64} {b : Nat → Nat} {M0 M S C : Nat → Nat → Int32} {l : Int32}
theorem p_rb (cx : CX G N x n np T L b W D M0) (h : ST z x ad W D b L M0 l i S C E M D') (hP : PT (W 1) (W 3) n np T S (M 4)) (h0 : W 3 0 0 = 2) (hi : i ≤ L) : gx ((osbind (osstat 13) fun x3 => osbind (osrecv [6] (x + 6) (qX6_take N (x + 6) x3)) fun x4 => osite (x4 = 0) (osbind (osstat 14) fun x5 => osbind (osrecv [6] (x + 6) (qX6_takeOrFail N (x + 6) x5)) fun x6 => osite (x6 = 0) (qX7_readOne_69 N ) (osbind (osrecv [6] (x + 6) (qX7_readRemoval N (x + 6) (ad 0) (ad 3))) fun x7 => osite (x7 = 0) (qX7_readOne_69 N ) (qX7_readOne_70 N (1 : Int32)))) (osbind (osrecv [6] (x + 6) (qX7_readBuild N (x + 6) (ad 0) (ad 3))) fun x8 => osretZ x8)) G z) (fun r z' => ux G (x + 129) (qX10_readBuild N (x + 129)) M D' (fun b1 M2 D2 => PO x ad W D b L M0 l (PT (W 1) (W 3) n np T) i r z' b1 M2 D2)) := by
  obtain ⟨hI, hA, hN, hL, hb, hm, ht, hs⟩ := id cx
  have hb' : ∀ k, k < 1000 → b k < 256 := fun k hk => (hb k hk).1
  have hr := h.2.2.2.2
  unfold qX7_readOne_69 qX7_readOne_70 qX10_readBuild qX10_readBuild_52
  refine gx_callE rfl ?_
  by_cases hn : tN b L i = 0
  · refine gx_recvE h.1.2.o (by decide) (c_take0_X7 h.1 h.2.1 hi hI (j := 13) (by omega) (kwb_n hn)) (gx_itet rfl (gx_callE rfl (gx_recvQ h.1.2.o (by decide) (c_takeF0_X7 h.1 h.2.1 hi hA hI (j := 14) (by omega) (kwb_n hn)) (fun r z2 ⟨e, h2⟩ => gx_itet e (gx_retZ (Or.inl rfl) (ux_call (ux_word h.2.2.1 hb' hL (by omega) hN hi (fun _ M2 b6 b7 r2 => ux_itet rfl (ux_retZ (Or.inl rfl) (PO_f h2 ⟨b6.symm, b7.symm⟩ (hr.k r2 dk_rf) rfl rfl))) (fun q => absurd q (by omega)))))))))
  have hn' : 0 < tN b L i := by omega
  have hv := tV_lt (b := b) hi
  have kf : ∀ j, ¬ tV b L i = kwN j → kwb b L i j = false := fun j q => by rw [kwb_v hn']; exact decide_eq_false q
  have ky : ∀ j, tV b L i = kwN j → kwb b L i j = true := fun j q => by rw [kwb_v hn']; exact decide_eq_true q
  refine sm_u (ux_call (ux_word h.2.2.1 hb' hL (by omega) hN hi (fun q => absurd q (by omega)) (fun _ M2 D2 t2 a3 a5 a8 r2 d2 => ux_itef (by decide) (ux_gJ rfl ?_))))
  have hr2 := hr.k (rk2_rk r2) d2
  have hP2 : PT (W 1) (W 3) n np T S (M2 4) := by rw [r2 4 (by omega)]; exact hP
  have heq : C 8 0 = M2 16 0 ∧ C 9 0 = M2 17 0 := ⟨by rw [r2 16 (by omega)]; exact h.2.2.2.1.1, by rw [r2 17 (by omega)]; exact h.2.2.2.1.2⟩
  have hle2 := tX_le (b := b) hi
  have lt2 := (tX_w (b := b) hi hn').2
  have st : ∀ {z2 : osS} {C2 : Nat → Nat → Int32} {E2 : Nat → Nat → Int64}, TW z2 x ad (Ws W 4 S) D C2 E2 → tkC b L (tX b L i) C2 E2 → k789 C C2 → ST z2 x ad W D b L M0 l (tX b L i) S C2 E2 M2 D2 := fun h2 tc2 k2 => ⟨h2, tc2, t2, ⟨by rw [k2.2.1]; exact heq.1, by rw [k2.2.2]; exact heq.2⟩, hr2⟩
  rw [a8]
  by_cases q13 : tV b L i = kwN 13
  · refine ux_itet (lc_y kwL13 q13) (sm_g (gx_recvQ h.1.2.o (by decide) (c_take1_X7 h.1 hb h.2.1 hL hi hA hN hI (by omega) (ky 13 q13)) ?_))
    rintro r z2 ⟨rfl, C2, E2, h2, tc2, k2⟩
    exact gx_itef (by decide) (sm_call h2.2.o (by decide) (p_build cx (st h2 tc2 k2) hP2 h0 hle2.2) (fun r1 z3 r3 M3 D3 hx => gx_retZ (PO_01 hx).1 (ux_retZ (PO_01 hx).2.1 (PO_mv hx (by omega)))))
  refine ux_itef (lc_n kwL13 hv (by omega) q13) (ux_gJ rfl ?_)
  rw [a8]
  by_cases q14 : tV b L i = kwN 14
  · refine ux_itet (lc_y kwL14 q14) (sm_g (gx_recvE h.1.2.o (by decide) (c_take0_X7 h.1 h.2.1 hi hI (by omega) (kf 13 q13)) (gx_itet rfl (gx_callE rfl (gx_recvQ h.1.2.o (by decide) (c_takeF1_X7 h.1 hb h.2.1 hL hi hA hN hI (by omega) (ky 14 q14)) ?_)))))
    rintro r z2 ⟨rfl, C2, E2, h2, tc2, k2⟩
    refine gx_itef (by decide) (sm_call h2.2.o (by decide) (p_gone cx (st h2 tc2 k2) hP2 h0 hle2.2) (fun r1 z3 r3 M3 D3 hx => ?_))
    have hx2 := PO_mv (i0 := i) hx (by omega)
    rcases (PO_01 hx).1 with e | e
    · exact gx_itet e (gx_retZ (Or.inl rfl) (ux_retZ (PO_01 hx).2.1 (by rw [e] at hx2; exact hx2)))
    · exact gx_itef (by rw [e]; decide) (gx_retZ (Or.inr rfl) (ux_retZ (PO_01 hx).2.1 (by rw [e] at hx2; exact hx2)))
  refine ux_itef (lc_n kwL14 hv (by omega) q14) (sm_g (gx_recvE h.1.2.o (by decide) (c_take0_X7 h.1 h.2.1 hi hI (by omega) (kf 13 q13)) (gx_itet rfl (gx_callE rfl (gx_recvQ h.1.2.o (by decide) (c_takeF0_X7 h.1 h.2.1 hi hA hI (by omega) (kf 14 q14)) (fun r z2 ⟨e, h2⟩ => gx_itet e (gx_retZ (Or.inl rfl) (ux_gI rfl (ux_call (ux_fails (by omega) (fun M3 b6 b7 r3 => ux_retZ (Or.inl rfl) (PO_f h2 ⟨b6.symm, a3.symm.trans b7.symm⟩ (hr2.k (fun k hk => r3 k (by omega) (by omega)) dk_rf) rfl rfl))))))))))))
theorem p_one (cx : CX G N x n np T L b W D M0) (h : ST z x ad W D b L M0 l i S C E M D') (hP : PT (W 1) (W 3) n np T S (M 4)) (hi : i ≤ L) : gx (qX7_readOne N (x + 6) (ad 0) (ad 3) G z) (fun r z' => ux G (x + 129) (qX10_readOne N (x + 129)) M D' (fun b1 M2 D2 => PO x ad W D b L M0 l (PT (W 1) (W 3) n np T) i r z' b1 M2 D2)) := by
  obtain ⟨hI, hA, hN, hL, hb, hm, ht, hs⟩ := id cx
  have e3 : M 3 0 = W 3 0 0 := by rw [h.2.2.2.2.1 3 (by omega)]; exact ht.1.1
  unfold qX7_readOne qX10_readOne qX10_readOne_37
  refine gx_gI h.1.d1.o (by decide) rfl (sm_u (ux_gR rfl (ux_a (i := 0) (fun z hz => hz.a3) rfl (by omega) (by omega) ?_)))
  rw [e3, hP.2.2.1]
  rcases hs.ph with e | e | e
  · rw [e]
    exact ux_itet rfl (sm_g (gx_itet rfl (sm_call h.1.2.o (by decide) (p_orderT cx h hP e hi) (fun r1 z1 r2 M1 D1 hx => gx_retZ (PO_01 hx).1 (ux_retZ (PO_01 hx).2.1 hx)))))
  · rw [e]
    refine ux_itef (by decide) (ux_gR rfl (ux_a (i := 0) (fun z hz => hz.a3) rfl (by omega) (by omega) (sm_g (gx_itef (by decide) (gx_gI h.1.d1.o (by decide) rfl ?_)))))
    rw [e3, hP.2.2.1, e]
    exact gx_itet rfl (sm_u (ux_itet rfl (sm_g (sm_call h.1.2.o (by decide) (p_retreat cx h hP e hi) (fun r1 z1 r2 M1 D1 hx => gx_retZ (PO_01 hx).1 (ux_retZ (PO_01 hx).2.1 hx))))))
  · rw [e]
    refine ux_itef (by decide) (ux_gR rfl (ux_a (i := 0) (fun z hz => hz.a3) rfl (by omega) (by omega) (sm_g (gx_itef (by decide) (gx_gI h.1.d1.o (by decide) rfl ?_)))))
    rw [e3, hP.2.2.1, e]
    refine gx_itef (by decide) (sm_u (ux_itef (by decide) (sm_g ?_)))
    exact gx_mono (p_rb cx h hP e hi) (fun r z' hx => ux_call (ux_mono hx (fun b M D q => ux_retZ (PO_01 q).2.1 q)))
def PA (x : Nat) (ad : Nat → Nat) (W : Nat → Nat → Nat → Int32) (D : Nat → Nat → Int64) (n np T : Nat) (M0 : Nat → Nat → Int32) (r : Int32) (z' : osS) (b1 : Int32) (M2 : Nat → Nat → Int32) (D2 : Nat → Nat → Int64) : Prop := ∃ l S' C' E', RB M0 D l M2 D2 ∧ TW z' x ad (Ws W 4 S') D C' E' ∧ (C' 8 0 = M2 16 0 ∧ C' 9 0 = M2 17 0) ∧ ((r = -1 ∧ b1 = 0) ∨ (b1 = 1 ∧ r = l ∧ ¬ l = -1 ∧ PT (W 1) (W 3) n np T S' (M2 4)))
theorem p_round {ih1 : Nat × Int32 × Nat × Nat × Int32 → osM Int32} {ih2 : Nat → osM Int32} {j : Nat} (cx : CX G N x n np T L b W D M0) (h : ST z x ad W D b L M0 (nI j) i S C E M D') (hP : PT (W 1) (W 3) n np T S (M 4)) (hj : j ≤ i) (hi : i ≤ L) (kk : ∀ z1 i' S' C' E' M' D'', j + 1 ≤ i' → i' ≤ L → ST z1 x ad W D b L M0 (nI (j + 1)) i' S' C' E' M' D'' → PT (W 1) (W 3) n np T S' (M' 4) → gx (ih1 (x + 6, nI L, ad 0, ad 3, nI (j + 1)) G z1) (fun a z' => ux G (x + 129) (ih2 (x + 129)) M' D'' (fun b1 M2 D2 => PA x ad W D n np T M0 a z' b1 M2 D2))) : gx (bX7_readAll_9 N ih1 (x + 6) (nI L) (ad 0) (ad 3) (nI j) G z) (fun a z' => ux G (x + 129) (bX10_readAll_5 N ih2 (x + 129)) M D' (fun b1 M2 D2 => PA x ad W D n np T M0 a z' b1 M2 D2)) := by
  obtain ⟨hI, hA, hN, hL, hb, hm, ht, hs⟩ := id cx
  have hb' : ∀ k, k < 1000 → b k < 256 := fun k hk => (hb k hk).1
  unfold bX7_readAll_9 qX7_readAll_42 bX10_readAll_5 qX10_readAll_27
  refine gx_itef (fun c => by have := (nI_ltI (a := L) (b := j) (by omega) (by omega)).mp c; omega) (gx_recvE h.1.2.o (by decide) (c_isEnd_X7 h.1 h.2.1 hi) (sm_u (ux_call (ux_peek h.2.2.1 hb' hL (by omega) hN hi (fun M1 t1 a1 a3 ek => ?_)))))
  obtain ⟨_, _, _, c4, _⟩ := bat_32 (b := b) (L := L) (k := tS b L i) hb' hL
  have hr1 : RB M0 D (nI j) M1 D' := h.2.2.2.2.k (fun k hk => ek k (by omega) (by omega)) dk_rf
  have heq : C 8 0 = M1 16 0 ∧ C 9 0 = M1 17 0 := by rw [ek 16 (by omega) (by omega), ek 17 (by omega) (by omega)]; exact h.2.2.2.1
  have hP1 : PT (W 1) (W 3) n np T S (M1 4) := by rw [ek 4 (by omega) (by omega)]; exact hP
  by_cases q : L ≤ tS b L i
  · refine ux_itet (c4.mpr q) (ux_retZ (Or.inr rfl) ?_)
    rw [decide_eq_true q]
    exact gx_itef (by decide) (gx_ret ⟨nI j, S, C, E, hr1, h.1, heq, Or.inr ⟨rfl, rfl, nI_m1 (by omega), hP1⟩⟩)
  · refine ux_itef (fun c => q (c4.mp c)) (sm_g ?_)
    rw [decide_eq_false q]
    refine gx_itet rfl (sm_call h.1.2.o (by decide) (p_one cx ⟨h.1, h.2.1, t1, heq, hr1⟩ hP1 hi) (fun r1 z1 r2 M2 D2 hx => ?_))
    obtain ⟨hr2, S', C', E', hw, he2, ⟨rfl, rfl⟩ | ⟨rfl, rfl, i', lt, le, tc, tr, hP'⟩⟩ := hx
    · exact gx_itet rfl (gx_ret (ux_itet rfl (ux_retZ (Or.inl rfl) ⟨_, S', C', E', hr2, hw, he2, Or.inl ⟨rfl, rfl⟩⟩)))
    · refine gx_itef (by decide) (sm_u (ux_itef (by decide) (sm_g ?_)))
      by_cases hs2 : tK b L i' = 2
      · refine gx_recvQ hw.2.o (by decide) (c_semi1_X7 hw hb tc hL le hA hN hs2) ?_
        rintro r z2 ⟨rfl, C2, E2, h2, tc2, k2⟩
        refine gx_itef (by decide) (sm_u (ux_call (ux_semi tr hb' hL (by omega) hN le (fun q => absurd hs2 q) (fun _ M3 t3 r3 => ux_itef (by decide) (ux_gI rfl (ux_p20 (by omega) (sm_g ?_)))))))
        have e20 : M3 20 0 = nI j := by rw [r3 20 (by omega)]; exact hr2.2.2
        have l2 := (tX_s (b := b) le hs2).2.1
        rw [nI_1]
        refine kk z2 (tX b L i') S' C2 E2 _ _ (by omega) (tX_le le).2 ⟨h2, tc2, ⟨t3.1, t3.2⟩, ⟨?_, ?_⟩, ⟨fun k hk => ?_, hr2.2.1, ?_⟩⟩ ?_
        · rw [k2.2.1, cset_ne (by omega), r3 16 (by omega)]; exact he2.1
        · rw [k2.2.2, cset_ne (by omega), r3 17 (by omega)]; exact he2.2
        · rw [cset_ne (by omega), r3 k (by omega)]; exact hr2.1 k hk
        · show M3 20 0 + (1 : Int32) = _
          rw [e20]; exact nI_sum (b := 1) rfl rfl
        · rw [cset_ne (by omega), r3 4 (by omega)]; exact hP'
      · refine gx_recvQ hw.2.o (by decide) (c_semi0_X7 hw tc le hA hs2) (fun r z2 ⟨e, p⟩ => gx_itet e (gx_ret (ux_call (ux_semi tr hb' hL (by omega) hN le (fun _ M3 b6 b7 r3 => ux_itet rfl (ux_retZ (Or.inl rfl) ⟨_, S', _, E', hr2.k r3 dk_rf, p, ⟨b6.symm, b7.symm⟩, Or.inl ⟨rfl, rfl⟩⟩)) (fun q => absurd q hs2)))))
theorem p_all (cx : CX G N x n np T L b W D M0) (h : ST z x ad W D b L M0 0 0 S C E M D') (hP : PT (W 1) (W 3) n np T S (M 4)) : gx (qX7_readAll_9 N (x + 6, nI L, ad 0, ad 3, (0 : Int32)) G z) (fun a z' => ux G (x + 129) (qX10_readAll_5 N (x + 129)) M D' (fun b1 M2 D2 => PA x ad W D n np T M0 a z' b1 M2 D2)) := by
  obtain ⟨hI, hA, hN, hL, hb, hm, ht, hs⟩ := id cx
  unfold qX7_readAll_9 qX10_readAll_5
  refine sm_loop L (fun j p z q M D' => p = (x + 6, nI L, ad 0, ad 3, nI j) ∧ q = x + 129 ∧ ∃ i S C E, j ≤ i ∧ i ≤ L ∧ ST z x ad W D b L M0 (nI j) i S C E M D' ∧ PT (W 1) (W 3) n np T S (M 4)) ?_ ?_ N 0 _ z _ M D' (Nat.zero_le _) (by omega) ⟨rfl, rfl, 0, S, C, E, Nat.le_refl 0, Nat.zero_le _, h, hP⟩
  · rintro ih1 ih2 j p z q M D' hj ⟨rfl, rfl, i, S, C, E, h1, h2, st, hP⟩ k
    exact p_round cx st hP h1 h2 (fun z1 i' S' C' E' M' D'' a1 a2 a3 a4 => k _ _ _ _ _ ⟨rfl, rfl, i', S', C', E', a1, a2, a3, a4⟩)
  · rintro ih1 ih2 p z q M D' ⟨rfl, rfl, i, S, C, E, h1, h2, st, hP⟩
    exact p_round cx st hP h1 h2 (fun z1 i' S' C' E' M' D'' a1 a2 a3 a4 => absurd a1 (by omega))
end
section
variable {G : osG} {z : osS} {N x L : Nat} {ad : Nat → Nat} {W : Nat → Nat → Nat → Int32} {D E : Nat → Nat → Int64} {b : Nat → Nat} {C : Nat → Nat → Int32}
theorem c_begin_X7 (hw : WD z x ad W D) (hb : txB b W) (hL : L ≤ 1000) (hA : G.2.2.1 ≤ x) (hN : 5000 < N) : gx (qX6_begin N (x + 6) (x + 1) (nI L) G z) (fun _ z' => ∃ C E, TW z' x ad W D C E ∧ tkC b L 0 C E ∧ C 8 0 = 0 ∧ C 9 0 = -1) := by
  obtain ⟨tb, A, B, h⟩ := hw.rd.2
  unfold qX6_begin
  refine gx_put h.o (by decide) (Nat.le_of_ble_eq_true rfl) (by omega) ?_
  have h1 := h.w0 (x + 1)
  have f1 : osFr (x + 6) (x + 6 + 1) z (osup z (x + 6) (.inr (6, (fX7 (x + 6) tb A B).set 0 (.ref (x + 1))))) := osFr.rf.up (by omega) (by omega)
  refine gx_len (f1.at (by omega) hw.x9.a0) (h1.p1 (by decide) (by omega) (fun z2 f2 h2 => h2.p3 (by decide) (by omega) (fun z3 f3 h3 => h3.p8 (by decide) (by omega) (fun z4 f4 h4 => h4.p9 (by decide) (by omega) (fun z5 f5 h5 => ?_)))))
  have fr := f1.tr (f2.tr (f3.tr (f4.tr f5)))
  refine gx_recvQ h5.o (by decide) (adv_X7 (L := L) (i := 0) h5 (fr.at (by omega) hw.x9.a0) hb hL (Nat.zero_le _) (by omega) (by omega) hN rfl ?_) (fun _ z6 ⟨f6, C6, E6, h6, t6, k7, k8, k9⟩ => gx_ret ⟨C6, E6, hw.r7 (fr.tr f6) h6, t6, ?_, ?_⟩)
  · show osmin (nI L) (nI 1000) = nI L
    rw [osmin_nI (by omega) (by omega), Nat.min_eq_left hL]
  · rw [k8]; rfl
  · rw [k9]; rfl
theorem c_note_X7 (h : TW z x ad W D C E) (hA : G.2.2.1 ≤ x) : gx (qX9_noteError N x (x + 6) G z) (fun _ z' => TW z' x ad (Ws W 0 (cset (cset (W 0) 3 fun _ => C 8 0) 4 fun _ => C 9 0)) D C E) := by
  unfold qX9_noteError
  refine gx_gI h.2.o (by decide) rfl (h.1.x9.p3 (by decide) hA (fun z1 f1 h1 => ?_))
  have w1 := h.1.c9 f1 h1
  have r1 := h.2.keep f1 (by omega)
  refine gx_gI r1.o (by decide) rfl (w1.x9.p4 (by decide) hA (fun z2 f2 h2 => gx_ret ⟨?_, r1.keep f2 (by omega)⟩))
  have := w1.c9 f2 h2
  rw [Ws_ws, Ws_eq] at this
  exact this
end
section
variable {G : osG} {z : osS} {N x L : Nat} {ad : Nat → Nat} {W : Nat → Nat → Nat → Int32} {D E : Nat → Nat → Int64} {b : Nat → Nat} {C : Nat → Nat → Int32}
theorem c_begin_X3 (hw : WD z x ad W D) (hb : txB b W) (hL : L ≤ 1000) (hA : G.2.2.1 ≤ x) (hN : 5000 < N) : gx (qX6_begin N (x + 4) (x + 1) (nI L) G z) (fun _ z' => ∃ C E, MW z' x ad W D C E ∧ tkC b L 0 C E ∧ C 8 0 = 0 ∧ C 9 0 = -1) := by
  obtain ⟨tb, A, B, h⟩ := hw.rd.1
  unfold qX6_begin
  refine gx_put h.o (by decide) (Nat.le_of_ble_eq_true rfl) (by omega) ?_
  have h1 := h.w0 (x + 1)
  have f1 : osFr (x + 4) (x + 4 + 1) z (osup z (x + 4) (.inr (3, (fX3 (x + 4) tb A B).set 0 (.ref (x + 1))))) := osFr.rf.up (by omega) (by omega)
  refine gx_len (f1.at (by omega) hw.x9.a0) (h1.p1 (by decide) (by omega) (fun z2 f2 h2 => h2.p3 (by decide) (by omega) (fun z3 f3 h3 => h3.p8 (by decide) (by omega) (fun z4 f4 h4 => h4.p9 (by decide) (by omega) (fun z5 f5 h5 => ?_)))))
  have fr := f1.tr (f2.tr (f3.tr (f4.tr f5)))
  refine gx_recvQ h5.o (by decide) (adv_X3 (L := L) (i := 0) h5 (fr.at (by omega) hw.x9.a0) hb hL (Nat.zero_le _) (by omega) (by omega) hN rfl ?_) (fun _ z6 ⟨f6, C6, E6, h6, t6, k7, k8, k9⟩ => gx_ret ⟨C6, E6, hw.r3 (fr.tr f6) h6, t6, ?_, ?_⟩)
  · show osmin (nI L) (nI 1000) = nI L
    rw [osmin_nI (by omega) (by omega), Nat.min_eq_left hL]
  · rw [k8]; rfl
  · rw [k9]; rfl
theorem c_note_X3 (h : MW z x ad W D C E) (hA : G.2.2.1 ≤ x) : gx (qX9_noteError N x (x + 4) G z) (fun _ z' => MW z' x ad (Ws W 0 (cset (cset (W 0) 3 fun _ => C 8 0) 4 fun _ => C 9 0)) D C E) := by
  unfold qX9_noteError
  refine gx_gI h.2.o (by decide) rfl (h.1.x9.p3 (by decide) hA (fun z1 f1 h1 => ?_))
  have w1 := h.1.c9 f1 h1
  have r1 := h.2.keep f1 (by omega)
  refine gx_gI r1.o (by decide) rfl (w1.x9.p4 (by decide) hA (fun z2 f2 h2 => gx_ret ⟨?_, r1.keep f2 (by omega)⟩))
  have := w1.c9 f2 h2
  rw [Ws_ws, Ws_eq] at this
  exact this
end
