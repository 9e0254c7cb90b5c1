/-! retreats, builds, and a text told, in both (by program) -/
section
variable {G : osG} {z : osS} {N x n np T L i i0 a : Nat} {ad : Nat → Nat} {W : Nat → Nat → Nat → Int32} {D D' E : Nat → Nat → Int64} {b : Nat → Nat} {M0 M S C : Nat → Nat → Int32} {l : Int32}
theorem p_retreat (cx : CX G N x n np T L b W D M0) (h : ST z x ad W D b L M0 l i S C E M D') (hP : PT (W 1) (W 3) n np T S (M 4)) (h0 : W 3 0 0 = 1) (hi : i ≤ L) : gx (qX7_readRetreat N (x + 6) (ad 0) (ad 3) G z) (fun r z' => ux G (x + 129) (qX10_readRetreat N (x + 129)) M D' (fun b1 M2 D2 => PO x ad W D b L M0 l (PT (W 1) (W 3) n np T) i r z' b1 M2 D2)) := by
  obtain ⟨hI, hA, hN, hL, hb, hm, ht, hs⟩ := id cx
  have hb' : ∀ k, k < 1000 → b k < 256 := fun k hk => (hb k hk).1
  unfold qX7_readRetreat qX10_readRetreat qX10_readRetreat_136 qX10_readRetreat_141
  refine p_here cx h hi (fun z1 C1 E1 M1 D1 h1 he hr => gx_itet rfl (gx_retZ (Or.inl rfl) (ux_itet rfl (ux_retZ (Or.inl rfl) (PO_f h1 he hr rfl rfl))))) (fun a z1 C1 E1 M1 D1 ha ha16 h1 lt le e7 e19 e4 => ?_)
  have hr := h1.2.2.2.2
  have hsu := hP.2.2.2 (by rw [h0]; decide)
  have hP1 : PT (W 1) (W 3) n np T S (M1 4) := by rw [e4]; exact hP
  refine gx_itef (nI_m1 (by omega)) (gx_recvE h1.1.d1.o (by decide) (q_hasDislodgedN h1.1.d1 ha16) (sm_u (ux_itef (by decide) (ux_gI rfl (ux_gR rfl ?_)))))
  rw [e19]
  refine ux_a (fun z hz => hz.a3) (nI_sum (a := 53) (b := a) rfl rfl) (by omega) (by omega) ?_
  have e53 : M1 3 (53 + a) = S 8 a := by rw [hr.1 3 (by omega), (ht.2.1 a ha16).2.2.1, (hsu.1 a ha16).2.2.1]
  rw [e53]
  by_cases hd : S 8 a = -1
  · refine ux_itet hd (sm_g ?_)
    rw [decide_eq_true hd]
    exact gx_itet rfl (p_fail h1.1 e7 hr hA)
  have hds : ds S a = true := by unfold ds; rw [decide_eq_false hd]; rfl
  rw [decide_eq_false hd]
  refine ux_itef hd (sm_g (gx_itef (by decide) (gx_callE rfl ?_)))
  by_cases hn : tN b L (tX b L i) = 0
  · refine gx_recvE h1.1.2.o (by decide) (c_take0_X7 h1.1 h1.2.1 le hI (j := 12) (by omega) (kwb_n hn)) (gx_itet rfl (gx_callE rfl (gx_recvQ h1.1.2.o (by decide) (c_takeF0_X7 h1.1 h1.2.1 le hA hI (j := 9) (by omega) (kwb_n hn)) (fun r z2 ⟨e, h2⟩ => gx_itet e (gx_retZ (Or.inl rfl) (ux_call (ux_word h1.2.2.1 hb' hL (by omega) hN le (fun _ M2 b6 b7 r2 => ux_itet rfl (ux_retZ (Or.inl rfl) (PO_f h2 ⟨b6.symm, b7.symm⟩ (hr.k r2 dk_rf) rfl rfl))) (fun q => absurd q (by omega)))))))))
  · have hn' : 0 < tN b L (tX b L i) := by omega
    have hv := tV_lt (b := b) le
    have kf : ∀ j, ¬ tV b L (tX b L i) = kwN j → kwb b L (tX b L i) j = false := fun j q => by rw [kwb_v hn']; exact decide_eq_false q
    have ky : ∀ j, tV b L (tX b L i) = kwN j → kwb b L (tX b L i) j = true := fun j q => by rw [kwb_v hn']; exact decide_eq_true q
    refine sm_u (ux_call (ux_word h1.2.2.1 hb' hL (by omega) hN le (fun q => absurd q (by omega)) (fun _ M2 D2 t2 a3 a5 a8 r2 d2 => ux_itef (by decide) (ux_gJ rfl ?_))))
    have hr2 := hr.k (rk2_rk r2) d2
    have hP2 : PT (W 1) (W 3) n np T S (M2 4) := by rw [r2 4 (by omega)]; exact hP1
    have heq : C1 8 0 = M2 16 0 ∧ C1 9 0 = M2 17 0 := ⟨by rw [r2 16 (by omega)]; exact h1.2.2.2.1.1, by rw [r2 17 (by omega)]; exact h1.2.2.2.1.2⟩
    have hle2 := tX_le (b := b) le
    have lt2 := (tX_w (b := b) le hn').2
    rw [a8]
    by_cases q12 : tV b L (tX b L i) = kwN 12
    · refine ux_itet (lc_y kwL12 q12) (sm_g (gx_recvQ h1.1.2.o (by decide) (c_take1_X7 h1.1 hb h1.2.1 hL le hA hN hI (by omega) (ky 12 q12)) ?_))
      rintro r z2 ⟨rfl, C2, E2, h2, tc2, k2⟩
      refine gx_itef (by decide) (gx_recvQ h2.d1.o (by decide) (q_X5_giveRetreat h2.d1 (h2.hA hA) ha16) (fun _ z3 ⟨f3, d3⟩ => gx_retZ (Or.inr rfl) (ux_gR rfl (ux_s4 (by omega) (nI_sum (a := 101) (b := a) rfl rfl) (by omega) (ux_retZ (Or.inr rfl) (PO_s (i := tX b L (tX b L i)) ⟨h2.d2 f3 d3, tc2, tkR_4 t2 (fun r hr => cset_ne hr), ⟨?_, ?_⟩, hr2.k4 (fun r hr => cset_ne hr)⟩ (by omega) hle2.2 ?_))))))
      · rw [k2.2.1]; exact heq.1
      · rw [k2.2.2]; exact heq.2
      · exact PT_rt hP2 ha16 hds (Or.inl rfl) hm.n16
    refine ux_itef (lc_n kwL12 hv (by omega) q12) (ux_gJ rfl ?_)
    rw [a8]
    by_cases q9 : tV b L (tX b L i) = kwN 9
    · refine ux_itet (lc_y kwL9 q9) (sm_g (gx_recvE h1.1.2.o (by decide) (c_take0_X7 h1.1 h1.2.1 le hI (by omega) (kf 12 q12)) (gx_itet rfl (gx_callE rfl (gx_recvQ h1.1.2.o (by decide) (c_takeF1_X7 h1.1 hb h1.2.1 hL le hA hN hI (by omega) (ky 9 q9)) ?_)))))
      rintro r z2 ⟨rfl, C2, E2, h2, tc2, k2⟩
      have st : ST z2 x ad W D b L M0 l (tX b L (tX b L i)) S C2 E2 M2 D2 := ⟨h2, tc2, t2, ⟨by rw [k2.2.1]; exact heq.1, by rw [k2.2.2]; exact heq.2⟩, hr2⟩
      refine gx_itef (by decide) (p_here cx st hle2.2 (fun z3 C3 E3 M3 D3 h3 he3 hr3 => gx_itet rfl (gx_retZ (Or.inl rfl) (ux_itet rfl (ux_retZ (Or.inl rfl) (PO_f h3 he3 hr3 rfl rfl))))) (fun d z3 C3 E3 M3 D3 hd3 hd16 h3 lt3 le3 e73 e193 e43 => ?_))
      have hr3 := h3.2.2.2.2
      have em : rGb M3 a d = aRt (W 1) S a d := gbE (cpM_keep hm (hr3.1 1 (by omega)) (hr3.2.1 6 (by omega))) hs.j (by rw [hr3.1 3 (by omega)]; exact ht) hsu ha16 hd16 hds
      refine gx_itef (nI_m1 (by omega)) (gx_recvE h3.1.d1.o (by decide) (q_X5_allowsRetreat h3.1.d1 h3.1.b1 ha16 hd16) (sm_u (ux_itef (by decide) (ux_gR rfl (ux_gI rfl ?_)))))
      rw [e193]
      refine ux_s4 (by omega) (nI_sum (a := 101) (b := a) rfl rfl) (by omega) (ux_gI rfl ?_)
      rw [show (cset M3 4 (upd (M3 4) (101 + a) (nI d))) 19 0 = nI d from e193]
      refine ux_rE (fun z hz => q_X10_mayGoBack hz ha16 hd16) ?_
      rw [show rGb (cset M3 4 (upd (M3 4) (101 + a) (nI d))) a d = aRt (W 1) S a d from em]
      refine sm_g ?_
      cases aRt (W 1) S a d
      · refine gx_itet rfl (c_fail7 h3.1 hA (fun z4 C4 h4 e8 e9 => ux_itet rfl (ux_gI rfl (ux_call (ux_fails (by omega) (fun M4 b6 b7 r4 => ux_itet rfl (ux_retZ (Or.inl rfl) (PO_f h4 ⟨e8.trans b6.symm, (e9.trans e73).trans b7.symm⟩ ((hr3.k4 (fun r hr => cset_ne hr)).k (fun k hk => r4 k (by omega) (by omega)) dk_rf) rfl rfl))))))))
      · refine gx_itef (by decide) (gx_recvQ h3.1.d1.o (by decide) (q_X5_giveRetreat h3.1.d1 (h3.1.hA hA) ha16) (fun _ z4 ⟨f4, d4⟩ => gx_retZ (Or.inr rfl) (ux_itef (by decide) (ux_retZ (Or.inr rfl) (PO_s (i := tX b L (tX b L (tX b L i))) ⟨h3.1.d2 f4 d4, h3.2.1, tkR_4 h3.2.2.1 (fun r hr => cset_ne hr), h3.2.2.2.1, hr3.k4 (fun r hr => cset_ne hr)⟩ (by omega) le3 ?_)))))
        have hP3 : PT (W 1) (W 3) n np T S (M3 4) := by rw [e43]; exact hP2
        exact PT_rt hP3 ha16 hds (Or.inr ⟨d, hd3, rfl⟩) hm.n16
    refine ux_itef (lc_n kwL9 hv (by omega) q9) (sm_g (gx_recvE h1.1.2.o (by decide) (c_take0_X7 h1.1 h1.2.1 le hI (by omega) (kf 12 q12)) (gx_itet rfl (gx_callE rfl (gx_recvQ h1.1.2.o (by decide) (c_takeF0_X7 h1.1 h1.2.1 le hA hI (by omega) (kf 9 q9)) (fun r z2 ⟨e, h2⟩ => gx_itet e (gx_retZ (Or.inl rfl) (ux_gI rfl (ux_call (ux_fails (by omega) (fun M3 b6 b7 r3 => ux_retZ (Or.inl rfl) (PO_f h2 ⟨b6.symm, a3.symm.trans b7.symm⟩ (hr2.k (fun k hk => r3 k (by omega) (by omega)) dk_rf) rfl rfl))))))))))))
theorem p_gone (cx : CX G N x n np T L b W D M0) (h : ST z x ad W D b L M0 l i S C E M D') (hP : PT (W 1) (W 3) n np T S (M 4)) (h0 : W 3 0 0 = 2) (hi : i ≤ L) : gx (qX7_readRemoval N (x + 6) (ad 0) (ad 3) G z) (fun r z' => ux G (x + 129) (qX10_readGone N (x + 129)) M D' (fun b1 M2 D2 => PO x ad W D b L M0 l (PT (W 1) (W 3) n np T) i r z' b1 M2 D2)) := by
  obtain ⟨hI, hA, hN, hL, hb, hm, ht, hs⟩ := id cx
  unfold qX7_readRemoval qX10_readGone
  refine p_here cx h hi (fun z1 C1 E1 M1 D1 h1 he hr => gx_itet rfl (gx_retZ (Or.inl rfl) (ux_itet rfl (ux_retZ (Or.inl rfl) (PO_f h1 he hr rfl rfl))))) (fun a z1 C1 E1 M1 D1 ha ha16 h1 lt le e7 e19 e4 => ?_)
  have hr := h1.2.2.2.2
  have hP1 : PT (W 1) (W 3) n np T S (M1 4) := by rw [e4]; exact hP
  have hmC := cpM_keep hm (hr.1 1 (by omega)) (hr.2.1 6 (by omega))
  refine gx_itef (nI_m1 (by omega)) (gx_recvE h1.1.d1.o (by decide) (q_hasUnitN h1.1.d1 ha16) (sm_u (ux_itef (by decide) (ux_gR rfl (ux_gI rfl ?_)))))
  rw [e19]
  refine ux_E (fun z hz => q_X10_isUnit hz.a4 ha16 rfl) (sm_g ?_)
  have e21 : M1 4 (21 + a) = S 6 a := (hP1.1.2.1 a ha16).2.1
  rw [e21]
  show gx (osite (b2i (uu S a) = 0) _ _ G z1) (fun r z' => ux G (x + 129) (osite (b2i (uu S a) = 0) _ _) M1 D1 _)
  cases hu : uu S a
  · exact gx_itet rfl (sm_u (ux_itet rfl (sm_g (p_fail h1.1 e7 hr hA))))
  obtain ⟨u1, u2, u3⟩ := hP1.2.1.j.u a ha16 hu
  have hv := pw_n1 hm.p4 u2
  refine gx_itef (by decide) (gx_gR h1.1.d1.o (by decide) rfl (gx_callE (q_entryN h1.1.d1.a6 ha16 (by omega)) (gx_recvE h1.1.d1.o (by decide) (q_needsRemoval h1.1.d1 (by omega)) (sm_u (ux_itef (by decide) (ux_gR rfl (ux_gR rfl (ux_gI rfl ?_))))))))
  rw [e19]
  refine ux_a (fun z hz => hz.a4) (nI_sum (a := 21) (b := a) rfl rfl) (by omega) (by omega) ?_
  rw [e21]
  have hnu := nu12 hP1.2.1.j
  refine ux_rE (fun z hz => q_X10_buildsOf hz hz.a4 hmC.m0 hm.n16 (by rw [cnU_all hP1.2.1.j hP1.1 hm.n16]; exact hnu) (by omega)) ?_
  have hneg := rBl_neg (M := M1) (f := M1 4) (v := S 6 a) hm.n16
  rw [cnU_eq hP1.2.1.j hP1.1 hm.n16 hv, cnC_eq hmC hP1.2.1.j hP1.1 hv] at hneg
  by_cases hc : ct (S 5) (S 6 a) < ct (S 6) (S 6 a)
  · rw [decide_eq_true hc]
    have hlt : rBl M1 (M1 4) n (S 6 a) < 0 := by
      rw [Int32.lt_iff_toInt_lt]
      have : ¬ (0 : Int32) ≤ rBl M1 (M1 4) n (S 6 a) := fun q => (hneg.mp q) hc
      rw [Int32.le_iff_toInt_le] at this
      omega
    refine ux_itet hlt (ux_gR rfl (ux_gI rfl ?_))
    rw [e19]
    refine ux_s4 (by omega) (nI_sum (a := 21) (b := a) rfl rfl) (by omega) (ux_retZ (Or.inr rfl) (gx_itef (by decide) (gx_recvQ h1.1.d1.o (by decide) (q_X5_placeUnit h1.1.d1 (h1.1.hA hA) ha16) (fun _ z2 ⟨f2, d2⟩ => gx_retZ (Or.inr rfl) (PO_s (i := tX b L i) ⟨h1.1.d2 f2 d2, h1.2.1, tkR_4 h1.2.2.1 (fun r hr => cset_ne hr), h1.2.2.2.1, hr.k4 (fun r hr => cset_ne hr)⟩ lt le (PT_pl hP1 h0 ha16 hm.p4 (Or.inl ⟨rfl, rfl⟩) (fun j h21 h37 => upd_ne h21) upd_eq (fun q => absurd rfl q)))))))
  · rw [decide_eq_false hc]
    have hge : ¬ rBl M1 (M1 4) n (S 6 a) < 0 := fun q => by
      have := hneg.mpr hc
      rw [Int32.le_iff_toInt_le] at this
      rw [Int32.lt_iff_toInt_lt] at q
      omega
    exact ux_itef hge (sm_g (gx_itet rfl (p_fail h1.1 e7 hr hA)))
theorem p_build (cx : CX G N x n np T L b W D M0) (h : ST z x ad W D b L M0 l i S C E M D') (hP : PT (W 1) (W 3) n np T S (M 4)) (h0 : W 3 0 0 = 2) (hi : i ≤ L) : gx (qX7_readBuild N (x + 6) (ad 0) (ad 3) G z) (fun r z' => ux G (x + 129) (qX10_readNewUnit N (x + 129)) M D' (fun b1 M2 D2 => PO x ad W D b L M0 l (PT (W 1) (W 3) n np T) i r z' b1 M2 D2)) := by
  obtain ⟨hI, hA, hN, hL, hb, hm, ht, hs⟩ := id cx
  have hb' : ∀ k, k < 1000 → b k < 256 := fun k hk => (hb k hk).1
  unfold qX7_readBuild qX10_readNewUnit
  refine p_here cx h hi (fun z1 C1 E1 M1 D1 h1 he hr => gx_itet rfl (gx_retZ (Or.inl rfl) (ux_itet rfl (ux_retZ (Or.inl rfl) (PO_f h1 he hr rfl rfl))))) (fun a z1 C1 E1 M1 D1 ha ha16 h1 lt le e7 e19 e4 => ?_)
  have hr := h1.2.2.2.2
  have hP1 : PT (W 1) (W 3) n np T S (M1 4) := by rw [e4]; exact hP
  have hmC := cpM_keep hm (hr.1 1 (by omega)) (hr.2.1 6 (by omega))
  have hnu := nu12 hP1.2.1.j
  have e21 : M1 4 (21 + a) = S 6 a := (hP1.1.2.1 a ha16).2.1
  have e5 : M1 4 (5 + a) = S 5 a := (hP1.1.2.1 a ha16).1
  have e34 : M1 1 (34 + a) = W 1 6 a := (hmC.2.1 a ha16).2.2.1
  refine gx_itef (nI_m1 (by omega)) (gx_recvE h1.1.d1.o (by decide) (q_hasUnitN h1.1.d1 ha16) (sm_u (ux_itef (by decide) (ux_gI rfl (ux_gR rfl ?_)))))
  rw [e19]
  refine ux_a (fun z hz => hz.a1) (nI_sum (a := 34) (b := a) rfl rfl) (by omega) (by omega) (ux_gR rfl (ux_E (fun z hz => q_X10_isUnit hz.a4 ha16 rfl) (sm_g ?_)))
  rw [e21, e34]
  show gx (osite (b2i (uu S a) = 0) _ _ G z1) (fun r z' => ux G (x + 129) (osite (b2i (uu S a) = 0) _ _) M1 D1 _)
  cases hu : uu S a
  · refine gx_itet rfl (gx_recvE h1.1.d1.o (by decide) (q_X5_allowsBuild h1.1.d1 h1.1.b1 ha16 hnu (by omega)) (sm_u (ux_itet rfl (sm_g ?_))))
    have f75 : gx ((osbind (osgI [6] 7 (x + 6)) fun x1 => osbind (osrecv [6] (x + 6) (qX6_fail N (x + 6) (4 : Int32) x1)) fun x2 => osretZ x2) G z1) (fun r z' => ux G (x + 129) (qX10_readNewUnit_75 N (x + 129)) M1 D1 (fun b1 M2 D2 => PO x ad W D b L M0 l (PT (W 1) (W 3) n np T) i r z' b1 M2 D2)) := by
      unfold qX10_readNewUnit_75
      exact p_fail h1.1 e7 hr hA
    have eab : aBd (W 1) S a = (!decide (W 1 6 a = -1) && (fhP (W 1) S (W 1 6 a) a && !decide (bld (W 1) S (W 1 6 a) ≤ 0))) := by
      unfold aBd; rw [b_bs16 ha16]
    rw [eab]
    by_cases c1 : W 1 6 a = -1
    · rw [decide_eq_true c1]
      exact gx_itet rfl (sm_u (ux_itet c1 (sm_g f75)))
    rw [decide_eq_false c1]
    refine sm_u (ux_itef c1 (ux_gR rfl (ux_rE (fun z hz => q_X10_isFreeHome hz hz.a4 ha16) (sm_g ?_))))
    have eh : cnH M1 (M1 4) (W 1 6 a) a = fhP (W 1) S (W 1 6 a) a := by
      unfold cnH fhP
      rw [e34, e5, e21, Bool.and_assoc]
    rw [eh]
    cases c2 : fhP (W 1) S (W 1 6 a) a
    · exact gx_itet rfl (sm_u (ux_itet rfl (sm_g f75)))
    refine sm_u (ux_itef (by decide) (ux_gR rfl (ux_rE (fun z hz => q_X10_buildsOf hz hz.a4 hmC.m0 hm.n16 (by rw [cnU_all hP1.2.1.j hP1.1 hm.n16]; exact hnu) (by omega)) ?_)))
    rw [bl_eq hmC hP1.2.1.j hP1.1 c1]
    by_cases c3 : bld (W 1) S (W 1 6 a) ≤ 0
    · rw [decide_eq_true c3]
      refine ux_itef (fun q => ?_) (sm_g (gx_itet rfl f75))
      rw [Int32.lt_iff_toInt_lt] at q
      rw [Int32.le_iff_toInt_le] at c3
      omega
    rw [decide_eq_false c3]
    have c3' : 0 < bld (W 1) S (W 1 6 a) := by
      rw [Int32.lt_iff_toInt_lt]
      rw [Int32.le_iff_toInt_le] at c3
      omega
    have hnu2 := bld_nu c3
    obtain ⟨_, hpw, hcen⟩ := hm.2.2.2.2.2.2 a ha16 c1
    have hsea : bt (W 1 3 0) a = false := (hm.2.2.2.2.1 a (by omega)).2 (Or.inr hcen)
    refine ux_itet c3' (sm_g (gx_itef (by decide) (gx_gI h1.1.2.o (by decide) rfl (gx_callE rfl ?_))))
    by_cases hn : tN b L (tX b L i) = 0
    · refine gx_recvE h1.1.2.o (by decide) (c_take0_X7 h1.1 h1.2.1 le hI (j := 6) (by omega) (kwb_n hn)) (gx_itet rfl (gx_callE rfl (gx_recvQ h1.1.2.o (by decide) (c_takeF0_X7 h1.1 h1.2.1 le hA hI (j := 5) (by omega) (kwb_n hn)) (fun r z2 ⟨e, h2⟩ => gx_itet e (gx_retZ (Or.inl rfl) (ux_call (ux_word h1.2.2.1 hb' hL (by omega) hN le (fun _ M2 b6 b7 r2 => ux_itet rfl (ux_retZ (Or.inl rfl) (PO_f h2 ⟨b6.symm, b7.symm⟩ (hr.k r2 dk_rf) rfl rfl))) (fun q => absurd q (by omega)))))))))
    have hn' : 0 < tN b L (tX b L i) := by omega
    have hv := tV_lt (b := b) le
    have kf : ∀ j, ¬ tV b L (tX b L i) = kwN j → kwb b L (tX b L i) j = false := fun j q => by rw [kwb_v hn']; exact decide_eq_false q
    have ky : ∀ j, tV b L (tX b L i) = kwN j → kwb b L (tX b L i) j = true := fun j q => by rw [kwb_v hn']; exact decide_eq_true q
    refine sm_u (ux_call (ux_word h1.2.2.1 hb' hL (by omega) hN le (fun q => absurd q (by omega)) (fun _ M2 D2 t2 a3 a5 a8 r2 d2 => ux_itef (by decide) (ux_gJ rfl ?_))))
    have hr2 := hr.k (rk2_rk r2) d2
    have hP2 : PT (W 1) (W 3) n np T S (M2 4) := by rw [r2 4 (by omega)]; exact hP1
    have heq : C1 8 0 = M2 16 0 ∧ C1 9 0 = M2 17 0 := ⟨by rw [r2 16 (by omega)]; exact h1.2.2.2.1.1, by rw [r2 17 (by omega)]; exact h1.2.2.2.1.2⟩
    have hle2 := tX_le (b := b) le
    have lt2 := (tX_w (b := b) le hn').2
    have hmC2 := cpM_keep hm (hr2.1 1 (by omega)) (hr2.2.1 6 (by omega))
    have e6 : C1 6 0 = nI (tS b L (tX b L i)) := h1.2.1.2.2.2.2.1
    -- a unit is put there
    have put : ∀ (kd : Int32) (z2 : osS) (C2 : Nat → Nat → Int32) (E2 : Nat → Nat → Int64), (kd = 0 ∨ kd = 1) → suit (W 1) a kd = true → (lg_cmp (lN (tV b L (tX b L i))) (6689972 : Int64) = 0 ↔ kd = 1) → TW z2 x ad (Ws W 4 S) D C2 E2 → tkC b L (tX b L (tX b L i)) C2 E2 → k789 C1 C2 → gx (qX7_readBuild_92 N (x + 6) (ad 0) (ad 3) (nI a) (C1 6 0) kd G z2) (fun r z' => ux G (x + 129) (qX10_readNewUnit_155 N (x + 129) (nI a) (W 1 6 a)) M2 D2 (fun b1 M2 D2 => PO x ad W D b L M0 l (PT (W 1) (W 3) n np T) i r z' b1 M2 D2)) := by
      intro kd z2 C2 E2 hk hsu hkd h2 tc2 k2
      unfold qX7_readBuild_92 qX10_readNewUnit_155
      refine gx_recvE h2.b1.o (by decide) (q_suits h2.b1 ha16) ?_
      rw [hsu]
      refine gx_itef (by decide) (gx_gR h2.b1.o (by decide) rfl (gx_callE (q_entryN h2.b1.a6 ha16 (by omega)) (gx_recvQ h2.d1.o (by decide) (q_X5_placeUnit h2.d1 (h2.hA hA) ha16) (fun _ z3 ⟨f3, d3⟩ => gx_retZ (Or.inr rfl) (ux_gR rfl (ux_s4 (by omega) (nI_sum (a := 21) (b := a) rfl rfl) (by omega) (ux_gR rfl (ux_gJ rfl ?_))))))))
      rw [a8]
      have fin : ux G (x + 129) (qX10_readNewUnit_189 N kd ((37 : Int32) + nI a) (x + 129 + 4)) (cset M2 4 (upd (M2 4) (21 + a) (W 1 6 a))) D2 (fun b1 M2 D2 => PO x ad W D b L M0 l (PT (W 1) (W 3) n np T) i 1 z3 b1 M2 D2) := by
        unfold qX10_readNewUnit_189
        refine ux_s4 (by omega) (nI_sum (a := 37) (b := a) rfl rfl) (by omega) (ux_retZ (Or.inr rfl) (PO_s (i := tX b L (tX b L i)) ⟨h2.d2 f3 d3, tc2, tkR_4 t2 (fun r hr => by rw [cset_ne hr, cset_ne hr]), ⟨by rw [k2.2.1]; exact heq.1, by rw [k2.2.2]; exact heq.2⟩, hr2.k4 (fun r hr => by rw [cset_ne hr, cset_ne hr])⟩ (by omega) hle2.2 (PT_pl hP2 h0 ha16 hm.p4 (Or.inr ⟨hpw, hk, ha, hnu2⟩) (fun j j21 j37 => ?_) ?_ (fun _ => upd_eq))))
        · show upd (upd (M2 4) (21 + a) (W 1 6 a)) (37 + a) kd j = M2 4 j
          rw [upd_ne j37, upd_ne j21]
        · show upd (upd (M2 4) (21 + a) (W 1 6 a)) (37 + a) kd (21 + a) = W 1 6 a
          rw [upd_ne (by omega), upd_eq]
      rcases hk with rfl | rfl
      · exact ux_itef (fun q => absurd (hkd.mp q) (by decide)) fin
      · exact ux_itet (hkd.mpr rfl) fin
    rw [a8]
    by_cases q5 : tV b L (tX b L i) = kwN 5
    · have nf : ¬ tV b L (tX b L i) = kwN 6 := fun q => absurd (q5.symm.trans q) (by decide)
      refine ux_itet (lc_y kwL5 q5) ?_
      unfold qX10_readNewUnit_126
      refine ux_gJ rfl ?_
      rw [a8]
      refine ux_itef (lc_n kwL6 hv (by omega) nf) (sm_g (gx_recvE h1.1.2.o (by decide) (c_take0_X7 h1.1 h1.2.1 le hI (by omega) (kf 6 nf)) (gx_itet rfl (gx_callE rfl (gx_recvQ h1.1.2.o (by decide) (c_takeF1_X7 h1.1 hb h1.2.1 hL le hA hN hI (by omega) (ky 5 q5)) ?_)))))
      rintro r z2 ⟨rfl, C2, E2, h2, tc2, k2⟩
      unfold qX7_readBuild_82
      refine gx_itef (by decide) (gx_itet rfl (put 0 z2 C2 E2 (Or.inl rfl) ?_ ⟨fun q => absurd q (lc_n kwL6 hv (by omega) nf), fun q => absurd q (by decide)⟩ h2 tc2 k2))
      unfold suit
      rw [if_neg (by decide), hsea]; rfl
    refine ux_itef (lc_n kwL5 hv (by omega) q5) (ux_gJ rfl ?_)
    rw [a8]
    by_cases q6 : tV b L (tX b L i) = kwN 6
    · refine ux_itet (lc_y kwL6 q6) ?_
      unfold qX10_readNewUnit_126
      refine ux_gJ rfl ?_
      rw [a8]
      refine ux_itet (lc_y kwL6 q6) (ux_rE (fun z hz => q_X10_isCoast hz ha16) ?_)
      rw [kd1 hmC2 ha16]
      refine sm_g (gx_recvQ h1.1.2.o (by decide) (c_take1_X7 h1.1 hb h1.2.1 hL le hA hN hI (by omega) (ky 6 q6)) ?_)
      rintro r z2 ⟨rfl, C2, E2, h2, tc2, k2⟩
      unfold qX7_readBuild_82
      refine gx_itef (by decide) (gx_itef (by decide) ?_)
      cases hco : bt (W 1 2 0) a
      · unfold qX7_readBuild_92
        refine gx_recvE h2.b1.o (by decide) (q_suits h2.b1 ha16) ?_
        rw [show suit (W 1) a 1 = false by unfold suit; rw [if_pos rfl, hsea, hco]; rfl]
        refine gx_itet rfl (gx_recvQ h2.2.o (by decide) (c_fail_X7 h2 hA) (fun r z3 ⟨e, p⟩ => gx_retZ (Or.inl e) (ux_itet rfl (ux_gI rfl (ux_call (ux_fails (by omega) (fun M3 b6 b7 r3 => ux_retZ (Or.inl rfl) (PO_f p ⟨b6.symm, ?_⟩ (hr2.k (fun k hk => r3 k (by omega) (by omega)) dk_rf) e rfl))))))))
        rw [b7]
        exact e6.trans a3.symm
      · exact sm_u (ux_itef (by decide) (sm_g (put 1 z2 C2 E2 (Or.inr rfl) (by unfold suit; rw [if_pos rfl, hsea, hco]; rfl) ⟨fun _ => rfl, fun _ => lc_y kwL6 q6⟩ h2 tc2 k2)))
    refine ux_itef (lc_n kwL6 hv (by omega) q6) (sm_g (gx_recvE h1.1.2.o (by decide) (c_take0_X7 h1.1 h1.2.1 le hI (by omega) (kf 6 q6)) (gx_itet rfl (gx_callE rfl (gx_recvQ h1.1.2.o (by decide) (c_takeF0_X7 h1.1 h1.2.1 le hA hI (by omega) (kf 5 q5)) (fun r z2 ⟨e, h2⟩ => gx_itet e (gx_retZ (Or.inl rfl) (ux_gI rfl (ux_call (ux_fails (by omega) (fun M3 b6 b7 r3 => ux_retZ (Or.inl rfl) (PO_f h2 ⟨b6.symm, a3.symm.trans b7.symm⟩ (hr2.k (fun k hk => r3 k (by omega) (by omega)) dk_rf) rfl rfl))))))))))))
  · exact gx_itef (by decide) (sm_u (ux_itef (by decide) (sm_g (p_fail h1.1 e7 hr hA))))
end
