/-! retreats and builds told, in both (by program) -/
section
variable {C U S : Nat → Nat → Int32} {n np T a : Nat} {f g : Nat → Int32} {v w : Int32}
theorem PT_rt (h : PT C U n np T S f) (ha : a < 16) (hd : ds S a = true) (hv : v = -1 ∨ ∃ d, d < n ∧ v = nI d) (h16 : n ≤ 16) : PT C U n np T (cset S 11 (upd (S 11) a v)) (upd f (101 + a) v) := by
  obtain ⟨ht, hi, e0, hs⟩ := h
  obtain ⟨⟨c0, c1, c2, c3, c4⟩, h1, h2, h3, h4⟩ := ht
  have no : ∀ j, ¬ j = 101 + a → upd f (101 + a) v j = f j := fun j hj => upd_ne hj
  have e11 : ∀ j, (cset S 11 (upd (S 11) a v)) 11 j = if j = a then v else S 11 j := fun _ => rfl
  refine ⟨⟨⟨?_, ?_, ?_, ?_, ?_⟩, fun j hj => ?_, fun j hj q => ?_, fun j hj q => ?_, fun j w2 hj hw => ?_⟩, ⟨?_, hi.ph, hi.d1, hi.o⟩, e0, hs⟩
  · rw [no _ (by omega)]; exact c0
  · rw [no _ (by omega)]; exact c1
  · rw [no _ (by omega)]; exact c2
  · rw [no _ (by omega)]; exact c3
  · rw [no _ (by omega)]; exact c4
  · obtain ⟨t1, t2, t3, t4, t5, t6, t7⟩ := h1 j hj
    rw [no (5 + j) (by omega), no (21 + j) (by omega), no (53 + j) (by omega), no (117 + j) (by omega), no (133 + j) (by omega), no (149 + j) (by omega), e11]
    refine ⟨t1, t2, t3, ?_, t5, t6, t7⟩
    show (if 101 + j = 101 + a then v else f (101 + j)) = _
    by_cases e : j = a
    · rw [if_pos e, if_pos (by omega)]
    · rw [if_neg e, if_neg (by omega)]; exact t4
  · rw [no _ (by omega)]; exact h2 j hj q
  · rw [no _ (by omega), no _ (by omega)]; exact h3 j hj q
  · rw [no _ (by omega)]; exact h4 j w2 hj hw
  · obtain ⟨i2, i3, i4, i5, i6, i7, i8, i9, i10⟩ := hi.j
    refine ⟨i2, i3, i4, i5, i6, fun j hj q => ?_, i8, i9, fun j hj q => ?_⟩
    · have q' : ds S j = false := q
      have hne : ¬ j = a := fun e => by rw [e, hd] at q'; cases q'
      refine ⟨(i7 j hj q').1, ?_⟩
      rw [e11, if_neg hne]; exact (i7 j hj q').2
    · rw [e11] at q ⊢
      by_cases e : j = a
      · rw [if_pos e] at q ⊢
        rcases hv with rfl | ⟨d, hd2, rfl⟩
        · exact absurd rfl q
        · have : tn (nI d) = d := nI_clamp (by omega)
          rw [this]; exact ⟨rfl, hd2⟩
      · rw [if_neg e] at q ⊢; exact i10 j hj q
theorem cpT_place (h : cpT S f) (ha : a < 16) (hg : ∀ j, ¬ j = 21 + a → ¬ j = 37 + a → g j = f j) (h21 : g (21 + a) = v) (h37 : ¬ v = -1 → g (37 + a) = w) : cpT (placed S a v w) g := by
  obtain ⟨⟨c0, c1, c2, c3, c4⟩, h1, h2, h3, h4⟩ := h
  have e6 : ∀ j, placed S a v w 6 j = if j = a then v else S 6 j := fun _ => rfl
  have e7 : ∀ j, placed S a v w 7 j = if j = a then w else S 7 j := fun _ => rfl
  refine ⟨⟨?_, ?_, ?_, ?_, ?_⟩, fun j hj => ?_, fun j hj q => ?_, fun j hj q => ?_, fun j w2 hj hw => ?_⟩
  · rw [hg _ (by omega) (by omega)]; exact c0
  · rw [hg _ (by omega) (by omega)]; exact c1
  · rw [hg _ (by omega) (by omega)]; exact c2
  · rw [hg _ (by omega) (by omega)]; exact c3
  · rw [hg _ (by omega) (by omega)]; exact c4
  · obtain ⟨t1, t2, t3, t4, t5, t6, t7⟩ := h1 j hj
    rw [hg (5 + j) (by omega) (by omega), hg (53 + j) (by omega) (by omega), hg (101 + j) (by omega) (by omega), hg (117 + j) (by omega) (by omega), hg (133 + j) (by omega) (by omega), hg (149 + j) (by omega) (by omega), e6]
    refine ⟨t1, ?_, t3, t4, t5, t6, t7⟩
    by_cases e : j = a
    · rw [if_pos e, e]; exact h21
    · rw [if_neg e, hg _ (by omega) (by omega)]; exact t2
  · have q' : (!decide (placed S a v w 6 j = -1)) = true := q
    rw [e6] at q'
    rw [e7]
    by_cases e : j = a
    · rw [if_pos e] at q' ⊢
      rw [e]
      exact h37 (fun c => by rw [c] at q'; exact absurd q' (by decide))
    · rw [if_neg e] at q' ⊢
      rw [hg _ (by omega) (by omega)]
      exact h2 j hj q'
  · rw [hg _ (by omega) (by omega), hg _ (by omega) (by omega)]; exact h3 j hj q
  · rw [hg _ (by omega) (by omega)]; exact h4 j w2 hj hw
theorem stI_place (hi : stI C S n np T) (h2 : S 0 0 = 2) (ha : a < 16) (h4 : np ≤ 4) (hc : (v = -1 ∧ w = -1) ∨ (pw np v ∧ (w = 0 ∨ w = 1) ∧ a < n ∧ nu S < 12)) : stI C (placed S a v w) n np T := by
  have e6 : ∀ j, placed S a v w 6 j = if j = a then v else S 6 j := fun _ => rfl
  have e7 : ∀ j, placed S a v w 7 j = if j = a then w else S 7 j := fun _ => rfl
  have eu : uu (placed S a v w) = fun j => if j = a then !decide (v = -1) else uu S j := by
    funext j
    show (!decide (placed S a v w 6 j = -1)) = _
    rw [e6]
    by_cases e : j = a
    · rw [if_pos e, if_pos e]
    · rw [if_neg e, if_neg e]; rfl
  have hds : ∀ j, j < 16 → ds S j = false := fun j hj => by
    cases q : ds S j
    · rfl
    · have := hi.d1 j hj q
      rw [h2] at this; exact absurd this (by decide)
  obtain ⟨i2, i3, i4, i5, i6, i7, i8, i9, i10⟩ := hi.j
  refine ⟨⟨i2, i3, fun j hj q => ?_, fun j hj q => ?_, i6, i7, ?_, i9, i10⟩, hi.ph, hi.d1, fun q => ?_⟩
  · rw [eu] at q
    rw [e7]
    by_cases e : j = a
    · rw [if_pos e]
      simp only [if_pos e] at q
      rcases hc with ⟨_, rfl⟩ | ⟨hp, _⟩
      · rfl
      · rw [decide_eq_false (pw_n1 h4 hp)] at q; cases q
    · rw [if_neg e]
      simp only [if_neg e] at q
      exact i4 j hj q
  · rw [eu] at q
    rw [e6, e7]
    by_cases e : j = a
    · rw [if_pos e, if_pos e]
      simp only [if_pos e] at q
      rcases hc with ⟨rfl, _⟩ | ⟨hp, hw, hn, _⟩
      · exact absurd q (by decide)
      · exact ⟨by omega, hp, hw⟩
    · rw [if_neg e, if_neg e]
      simp only [if_neg e] at q
      exact i5 j hj q
  · have z0 : fb_ct (ds S) 16 = 0 := fb_ct_zero.mpr hds
    show fb_ct (uu (placed S a v w)) 16 + fb_ct (ds S) 16 ≤ 12
    rw [eu, z0]
    have h := fb_ct_upd (uu S) (!decide (v = -1)) (i := a) (n := 16) ha
    rw [z0] at i8
    rcases hc with ⟨rfl, _⟩ | ⟨_, _, _, hnu⟩
    · have : (if (!decide ((-1 : Int32) = -1)) = true then 1 else 0) = 0 := rfl
      omega
    · rw [nu_uu] at hnu
      have : (if (!decide (v = -1)) = true then 1 else 0) ≤ 1 := by split <;> omega
      omega
  · have q' : S 0 0 = 0 := q
    rw [h2] at q'; exact absurd q' (by decide)
theorem PT_pl (h : PT C U n np T S f) (h2 : U 0 0 = 2) (ha : a < 16) (h4 : np ≤ 4) (hc : (v = -1 ∧ w = -1) ∨ (pw np v ∧ (w = 0 ∨ w = 1) ∧ a < n ∧ nu S < 12)) (hg : ∀ j, ¬ j = 21 + a → ¬ j = 37 + a → g j = f j) (h21 : g (21 + a) = v) (h37 : ¬ v = -1 → g (37 + a) = w) : PT C U n np T (placed S a v w) g := by
  obtain ⟨ht, hi, e0, hs⟩ := h
  exact ⟨cpT_place ht ha hg h21 h37, stI_place hi (e0.trans h2) ha h4 hc, e0, fun q => absurd h2 q⟩
theorem bld_nu (h : ¬ bld C S v ≤ 0) : nu S < 12 := by
  refine Nat.not_le.mp (fun q => h ?_)
  unfold bld
  by_cases c : ct (S 6) v < ct (S 5) v
  · rw [if_pos c, show 12 - nu S = 0 by omega, Nat.min_zero, Nat.min_zero]; decide
  · rw [if_neg c]
    have h3 := ct_le (S 5) v
    have h4 := ct_le (S 6) v
    exact (sbn _ (by omega) _ (by omega)).2.2.1.mpr (by omega)
end
section
variable {G : osG} {z : osS} {N x n np T L i i0 a : Nat} {ad : Nat → Nat} {W : Nat → Nat → Nat → Int32} {D D' E : Nat → Nat → Int64} {b : Nat → Nat} {M0 M S C : Nat → Nat → Int32} {l : Int32}
theorem PO_01 {P : (Nat → Nat → Int32) → (Nat → Int32) → Prop} {r1 r2 : Int32} (h : PO x ad W D b L M0 l P i0 r1 z r2 M D') : (r1 = 0 ∨ r1 = 1) ∧ (r2 = 0 ∨ r2 = 1) ∧ r1 = r2 := by
  obtain ⟨_, _, _, _, _, _, ⟨rfl, rfl⟩ | ⟨rfl, rfl, _⟩⟩ := h
  · exact ⟨Or.inl rfl, Or.inl rfl, rfl⟩
  · exact ⟨Or.inr rfl, Or.inr rfl, rfl⟩
theorem PO_mv {P : (Nat → Nat → Int32) → (Nat → Int32) → Prop} {i1 : Nat} {r1 r2 : Int32} (h : PO x ad W D b L M0 l P i1 r1 z r2 M D') (hi : i0 ≤ i1) : PO x ad W D b L M0 l P i0 r1 z r2 M D' := by
  obtain ⟨a1, S, C, E, a2, a3, a4⟩ := h
  refine ⟨a1, S, C, E, a2, a3, ?_⟩
  rcases a4 with q | ⟨q1, q2, i', q3, q4⟩
  · exact Or.inl q
  · exact Or.inr ⟨q1, q2, i', by omega, q4⟩
theorem ux_01 {P : (Nat → Nat → Int32) → (Nat → Int32) → Prop} {m : Nat} {f : osM Int32} {r1 : Int32} (h : ux G m f M D' (fun b1 M2 D2 => PO x ad W D b L M0 l P i0 r1 z b1 M2 D2)) : r1 = 0 ∨ r1 = 1 := by
  obtain ⟨_, _, _, _, q⟩ := h
  exact (PO_01 q).1
theorem lc_y {v j : Nat} {w : Int64} (ew : w = lN (kwN j)) (q : v = kwN j) : lg_cmp (lN v) w = 0 := by rw [ew, q]; exact lcmp_0.mpr rfl
theorem lc_n {v j : Nat} {w : Int64} (ew : w = lN (kwN j)) (hv : v < 2 ^ 35) (hj : j < 15) (q : ¬ v = kwN j) : ¬ lg_cmp (lN v) w = 0 := fun c => q ((fb_lN_inj (by omega) (by have := (kw_pk j hj).2.2; omega)).mp ((lcmp_0.mp c).trans ew))
theorem p_orderT (cx : CX G N x n np T L b W D M0) (h : ST z x ad W D b L M0 l i S C E M D') (hP : PT (W 1) (W 3) n np T S (M 4)) (h0 : W 3 0 0 = 0) (hi : i ≤ L) : gx (qX7_readOrder N (x + 6) (ad 0) (ad 3) G z) (fun r z' => ux G (x + 129) (qX10_readOrder N (x + 129)) M D' (fun b1 M2 D2 => PO x ad W D b L M0 l (PT (W 1) (W 3) n np T) i r z' b1 M2 D2)) := by
  obtain ⟨hI, hA, hN, hL, hb, hm, ht, hs⟩ := id cx
  have hb' : ∀ k, k < 1000 → b k < 256 := fun k hk => (hb k hk).1
  unfold qX7_readOrder qX7_readOrder_111 qX7_readOrder_112 qX10_readOrder qX10_readOrder_157
  refine p_here cx h hi (fun z1 C1 E1 M1 D1 h1 he hr => gx_itet rfl (gx_retZ (Or.inl rfl) (ux_itet rfl (ux_retZ (Or.inl rfl) (PO_f h1 he hr rfl rfl))))) (fun a z1 C1 E1 M1 D1 ha ha16 h1 lt le e7 e19 e4 => ?_)
  have hr := h1.2.2.2.2
  have hsu := hP.2.2.2 (by rw [h0]; decide)
  have hP1 : PT (W 1) (W 3) n np T S (M1 4) := by rw [e4]; exact hP
  refine gx_itef (nI_m1 (by omega)) (gx_recvE h1.1.d1.o (by decide) (q_hasUnitN h1.1.d1 ha16) (sm_u (ux_itef (by decide) (ux_gI rfl (ux_gR rfl ?_)))))
  rw [e19]
  refine ux_E (fun z hz => q_X10_isUnit hz.a3 ha16 rfl) (sm_g ?_)
  have eu : (!decide (M1 3 (21 + a) = -1)) = uu S a := by
    rw [hr.1 3 (by omega), (ht.2.1 a ha16).2.1, ← (hsu.1 a ha16).1]; rfl
  rw [eu]
  show gx (osite (b2i (uu S a) = 0) _ _ G z1) _
  cases hu : uu S a
  · exact gx_itet rfl (sm_u (ux_itet rfl (sm_g (p_fail h1.1 e7 hr hA))))
  refine gx_itef (by decide) (gx_callE rfl (sm_u (ux_itef (by decide) (sm_g ?_))))
  by_cases hn : tN b L (tX b L i) = 0
  · refine gx_recvE h1.1.2.o (by decide) (c_take0_X7 h1.1 h1.2.1 le hI (j := 8) (by omega) (kwb_n hn)) (gx_itet rfl (gx_callE rfl (gx_recvE h1.1.2.o (by decide) (c_take0_X7 h1.1 h1.2.1 le hI (j := 9) (by omega) (kwb_n hn)) (gx_itet rfl (gx_callE rfl (gx_recvE h1.1.2.o (by decide) (c_take0_X7 h1.1 h1.2.1 le hI (j := 10) (by omega) (kwb_n hn)) (gx_itet rfl (gx_callE rfl (gx_recvQ h1.1.2.o (by decide) (c_takeF0_X7 h1.1 h1.2.1 le hA hI (j := 11) (by omega) (kwb_n hn)) (fun r z2 ⟨e, h2⟩ => gx_itet e (gx_retZ (Or.inl rfl) (ux_call (ux_word h1.2.2.1 hb' hL (by omega) hN le (fun _ M2 b6 b7 r2 => ux_itet rfl (ux_retZ (Or.inl rfl) (PO_f h2 ⟨b6.symm, b7.symm⟩ (hr.k r2 dk_rf) rfl rfl))) (fun q => absurd q (by omega)))))))))))))))
  · have hn' : 0 < tN b L (tX b L i) := by omega
    have hv := tV_lt (b := b) le
    have kf : ∀ j, ¬ tV b L (tX b L i) = kwN j → kwb b L (tX b L i) j = false := fun j q => by rw [kwb_v hn']; exact decide_eq_false q
    have ky : ∀ j, tV b L (tX b L i) = kwN j → kwb b L (tX b L i) j = true := fun j q => by rw [kwb_v hn']; exact decide_eq_true q
    refine sm_u (ux_call (ux_word h1.2.2.1 hb' hL (by omega) hN le (fun q => absurd q (by omega)) (fun _ M2 D2 t2 a3 a5 a8 r2 d2 => ux_itef (by decide) (ux_gJ rfl ?_))))
    have hr2 := hr.k (rk2_rk r2) d2
    have hP2 : PT (W 1) (W 3) n np T S (M2 4) := by rw [r2 4 (by omega)]; exact hP1
    have heq : C1 8 0 = M2 16 0 ∧ C1 9 0 = M2 17 0 := ⟨by rw [r2 16 (by omega)]; exact h1.2.2.2.1.1, by rw [r2 17 (by omega)]; exact h1.2.2.2.1.2⟩
    have hle2 := tX_le (b := b) le
    have lt2 := (tX_w (b := b) le hn').2
    have st : ∀ {z2 : osS} {C2 : Nat → Nat → Int32} {E2 : Nat → Nat → Int64}, TW z2 x ad (Ws W 4 S) D C2 E2 → tkC b L (tX b L (tX b L i)) C2 E2 → k789 C1 C2 → ST z2 x ad W D b L M0 l (tX b L (tX b L i)) S C2 E2 M2 D2 := fun h2 tc2 k2 => ⟨h2, tc2, t2, ⟨by rw [k2.2.1]; exact heq.1, by rw [k2.2.2]; exact heq.2⟩, hr2⟩
    rw [a8]
    by_cases q8 : tV b L (tX b L i) = kwN 8
    · refine ux_itet (lc_y kwL8 q8) (sm_g (gx_recvQ h1.1.2.o (by decide) (c_take1_X7 h1.1 hb h1.2.1 hL le hA hN hI (by omega) (ky 8 q8)) ?_))
      rintro r z2 ⟨rfl, C2, E2, h2, tc2, k2⟩
      refine gx_itef (by decide) (gx_recvQ h2.d1.o (by decide) (q_X5_giveOrder h2.d1 (h2.hA hA) ha16) (fun _ z3 ⟨f3, d3⟩ => gx_retZ (Or.inr rfl) (ux_call (ux_orders (ok := true) ha16 (by omega) (fun q => nomatch q) (fun _ M3 b4 r3 => ux_retZ (Or.inr rfl) (PO_s (i := tX b L (tX b L i)) ⟨h2.d2 f3 d3, tc2, tkR_4 t2 r3, ⟨?_, ?_⟩, hr2.k4 r3⟩ (by omega) hle2.2 ?_))))))
      · rw [k2.2.1, r3 16 (by omega)]; exact heq.1
      · rw [k2.2.2, r3 17 (by omega)]; exact heq.2
      · rw [b4]
        exact PT_or hP2 hm.n16 ha16 h0 (Or.inl ⟨rfl, rfl, rfl⟩)
    refine ux_itef (lc_n kwL8 hv (by omega) q8) (ux_gJ rfl ?_)
    rw [a8]
    by_cases q9 : tV b L (tX b L i) = kwN 9
    · refine ux_itet (lc_y kwL9 q9) (sm_g (gx_recvE h1.1.2.o (by decide) (c_take0_X7 h1.1 h1.2.1 le hI (by omega) (kf 8 q8)) (gx_itet rfl (gx_callE rfl (gx_recvQ h1.1.2.o (by decide) (c_take1_X7 h1.1 hb h1.2.1 hL le hA hN hI (by omega) (ky 9 q9)) ?_)))))
      rintro r z2 ⟨rfl, C2, E2, h2, tc2, k2⟩
      exact gx_itef (by decide) (gx_recvQ h2.2.o (by decide) (p_move (i0 := i) cx (st h2 tc2 k2) hP2 h0 ha16 hu (by omega) hle2.2) (fun r z3 hx => gx_retZ (ux_01 hx) hx))
    refine ux_itef (lc_n kwL9 hv (by omega) q9) (ux_gJ rfl ?_)
    rw [a8]
    by_cases q10 : tV b L (tX b L i) = kwN 10
    · refine ux_itet (lc_y kwL10 q10) (sm_g (gx_recvE h1.1.2.o (by decide) (c_take0_X7 h1.1 h1.2.1 le hI (by omega) (kf 8 q8)) (gx_itet rfl (gx_callE rfl (gx_recvE h1.1.2.o (by decide) (c_take0_X7 h1.1 h1.2.1 le hI (by omega) (kf 9 q9)) (gx_itet rfl (gx_callE rfl (gx_recvQ h1.1.2.o (by decide) (c_take1_X7 h1.1 hb h1.2.1 hL le hA hN hI (by omega) (ky 10 q10)) ?_))))))))
      rintro r z2 ⟨rfl, C2, E2, h2, tc2, k2⟩
      exact gx_itef (by decide) (sm_call h2.2.o (by decide) (p_support (i0 := i) cx (st h2 tc2 k2) hP2 h0 ha16 hu (by omega) hle2.2) (fun r1 z3 r3 M3 D3 hx => gx_retZ (PO_01 hx).1 (ux_retZ (PO_01 hx).2.1 hx)))
    refine ux_itef (lc_n kwL10 hv (by omega) q10) (ux_gJ rfl ?_)
    rw [a8]
    by_cases q11 : tV b L (tX b L i) = kwN 11
    · refine ux_itet (lc_y kwL11 q11) (sm_g (gx_recvE h1.1.2.o (by decide) (c_take0_X7 h1.1 h1.2.1 le hI (by omega) (kf 8 q8)) (gx_itet rfl (gx_callE rfl (gx_recvE h1.1.2.o (by decide) (c_take0_X7 h1.1 h1.2.1 le hI (by omega) (kf 9 q9)) (gx_itet rfl (gx_callE rfl (gx_recvE h1.1.2.o (by decide) (c_take0_X7 h1.1 h1.2.1 le hI (by omega) (kf 10 q10)) (gx_itet rfl (gx_callE rfl (gx_recvQ h1.1.2.o (by decide) (c_takeF1_X7 h1.1 hb h1.2.1 hL le hA hN hI (by omega) (ky 11 q11)) ?_)))))))))))
      rintro r z2 ⟨rfl, C2, E2, h2, tc2, k2⟩
      refine gx_itef (by decide) (sm_call h2.2.o (by decide) (p_convoy (i0 := i) cx (st h2 tc2 k2) hP2 h0 ha16 hu (by omega) hle2.2) (fun r1 z3 r3 M3 D3 hx => ?_))
      rcases (PO_01 hx).1 with e | e
      · exact gx_itet e (gx_retZ (Or.inl rfl) (ux_retZ (PO_01 hx).2.1 (by rw [e] at hx; exact hx)))
      · exact gx_itef (by rw [e]; decide) (gx_retZ (Or.inr rfl) (ux_retZ (PO_01 hx).2.1 (by rw [e] at hx; exact hx)))
    refine ux_itef (lc_n kwL11 hv (by omega) q11) (sm_g (gx_recvE h1.1.2.o (by decide) (c_take0_X7 h1.1 h1.2.1 le hI (by omega) (kf 8 q8)) (gx_itet rfl (gx_callE rfl (gx_recvE h1.1.2.o (by decide) (c_take0_X7 h1.1 h1.2.1 le hI (by omega) (kf 9 q9)) (gx_itet rfl (gx_callE rfl (gx_recvE h1.1.2.o (by decide) (c_take0_X7 h1.1 h1.2.1 le hI (by omega) (kf 10 q10)) (gx_itet rfl (gx_callE rfl (gx_recvQ h1.1.2.o (by decide) (c_takeF0_X7 h1.1 h1.2.1 le hA hI (by omega) (kf 11 q11)) (fun r z2 ⟨e, h2⟩ => gx_itet e (gx_retZ (Or.inl rfl) (ux_gI rfl (ux_call (ux_fails (by omega) (fun M3 b6 b7 r3 => ux_retZ (Or.inl rfl) (PO_f h2 ⟨b6.symm, ?_⟩ (hr2.k (fun k hk => r3 k (by omega) (by omega)) dk_rf) rfl rfl))))))))))))))))))
    exact a3.symm.trans b7.symm
end
