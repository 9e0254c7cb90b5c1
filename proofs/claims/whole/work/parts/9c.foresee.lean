/-! foresee (by program) -/
theorem IV_cls {W W' : Nat → Nat → Nat → Int32} {D : Nat → Nat → Int64} {n np T : Nat} (h : IVn W D n np T) (e : ∀ k, k = 0 ∨ k = 1 ∨ k = 3 ∨ 7 ≤ k → W' k = W k) : IVn W' D n np T := by
  obtain ⟨h1, h2, h3, h4, h5, ⟨u, h6, h7, h8, h9⟩, h10⟩ := h
  refine ⟨?_, ?_, ?_, ?_, ?_, ⟨u, h6, ?_, ?_, fun i hi => ?_⟩, ?_⟩
  · rw [e 1 (by omega), e 20 (by omega)]; exact h1
  · rw [e 3 (by omega), e 20 (by omega)]; exact h2
  · rw [e 1 (by omega), e 3 (by omega)]; exact h3
  · rw [e 0 (by omega), e 20 (by omega)]; exact h4
  · rw [e 0 (by omega), e 20 (by omega)]; exact h5
  · rw [e 0 (by omega)]; exact h7
  · rw [e 20 (by omega)]; exact h8
  · rw [e 1 (by omega), e 20 (by omega), e (8 + i) (by omega)]; exact h9 i hi
  · rw [e 7 (by omega), e 20 (by omega)]; exact h10
theorem c_foresee {G : osG} {z : osS} {N x n np T : Nat} {ad : Nat → Nat} {W : Nat → Nat → Nat → Int32} {D : Nat → Nat → Int64} {v w : Int32} (hw : WD z x ad W D) (hi : IVn W D n np T) (hA : G.2.2.1 ≤ x) (hN : 5000 < N) : callT G z x T [(2, (1 : Int32)), (1, (2 : Int32)), (0, (3 : Int32))] (qX9_foresee N x v w) (qX10_foresee N (x + 129) v w) := by
  have hm := hi.m
  have hs := hi.s
  have h16 := hm.n16
  have c0 := hm.c0
  have m0 := hm.m0
  have hA' : G.2.2.1 ≤ x + 129 := by omega
  cases ca : aB n v
  · refine call_of hw (pair_of hi (.inl 2) ?_ (fun z1 ad1 hw1 => ?_))
    · unfold qX9_foresee
      exact gx_reqA hw c0 h16 (fun _ => ⟨rfl, rfl⟩) (fun q => by rw [ca] at q; cases q)
    · unfold qX10_foresee qX10_foresee_40
      refine gx_recvE hw1.m.o (by decide) (q_X10_isAreaB hw1.m m0 h16) ?_
      rw [ca]
      refine gx_itet rfl ?_
      exact gx_refT hw1.m hA' (by decide) (fun z2 f2 h2 => gx_ret ⟨f2, _, h2, k0_ok, agrT (j := 2) (q := (2, 1)) rfl rfl (by decide)⟩)
  · obtain ⟨a, ha, rfl⟩ := aB_t (by omega) ca
    have ha16 : a < 16 := by omega
    cases cr : aB 6 w
    · refine call_of hw (pair_of hi (.inl 1) ?_ (fun z1 ad1 hw1 => ?_))
      · unfold qX9_foresee
        exact gx_reqA hw c0 h16 (fun q => by rw [ca] at q; cases q) (fun _ => gx_reqR hw (q := 6) rfl (fun _ => ⟨rfl, rfl⟩) (fun q => by rw [cr] at q; cases q))
      · unfold qX10_foresee qX10_foresee_40
        refine gx_recvE hw1.m.o (by decide) (q_X10_isAreaB hw1.m m0 h16) ?_
        rw [ca]
        refine gx_itef (by decide) (gx_callE (q_X10_inB (k := 6) rfl (by omega) (by omega)) ?_)
        rw [cr]
        refine gx_itet rfl ?_
        exact gx_refT hw1.m hA' (by decide) (fun z2 f2 h2 => gx_ret ⟨f2, _, h2, k0_ok, agrT (j := 1) (q := (1, 2)) rfl rfl (by decide)⟩)
    · obtain ⟨c, hc, rfl⟩ := aB_t (by omega) cr
      by_cases ph : W 3 0 0 = 0
      · have ho := okO_of (hi.i.o ph) h16
        refine ⟨fun r _ W1 D1 => r = .inr (exW (W 1) (W 3) (seaF (W 1) (W 3)) (xF (W 1) (W 3)) a c) ∧ D1 = D ∧ ∃ J L, W1 = Ws (Ws W 5 J) 6 L, ?_, ?_⟩
        · unfold qX9_foresee
          refine gx_reqA hw c0 h16 (fun q => by rw [ca] at q; cases q) (fun _ => gx_reqR hw (q := 6) rfl (fun q => by rw [cr] at q; cases q) (fun _ => gx_reqPh hw (fun q => absurd ph q) (fun _ => ?_)))
          refine gx_gR hw.x9.o (by decide) rfl (gx_gR hw.x9.o (by decide) rfl (gx_gR hw.x9.o (by decide) rfl (gx_decide hw ho hA hN (fun z2 J L w2 hk hi10 hWJ hJ7 => ?_))))
          have j2 := w2.x1
          have l2 := w2.x2
          rw [Ws_ne (by omega), Ws_eq] at j2
          rw [Ws_eq] at l2
          refine gx_gR w2.x9.o (by decide) rfl (gx_recvE w2.x1.o (by decide) (q_X1_explain j2 l2 ha16 hc (LK_hi8 hk) hi10) (gx_Rt (gx_ret ⟨ad, _, D, w2, ?_, rfl, J, L, rfl⟩)))
          rw [exV_eq hk ho hWJ ha16 hc]; rfl
        · rintro r z1 ad1 W1 D1 hw1 ⟨rfl, rfl, J, L, rfl⟩
          have hm1 := hw1.m
          rw [Ws_ne (by omega), Ws_ne (by omega)] at hm1
          unfold qX10_foresee qX10_foresee_40
          refine gx_recvE hm1.o (by decide) (q_X10_isAreaB hm1 m0 h16) ?_
          rw [ca]
          refine gx_itef (by decide) (gx_callE (q_X10_inB (k := 6) rfl (by omega) (by omega)) ?_)
          rw [cr]
          refine gx_itef (by decide) (gx_gR hm1.o (by decide) rfl (gx_aE (i := 0) hm1.a3 rfl (by omega) (Nat.le_of_ble_eq_true rfl) ?_))
          rw [hs.1.1, ph]
          refine gx_itet rfl (gx_refF hm1 hA' (fun z2 f2 h2 => ?_))
          have cm2 : cpM (W 1) (cset (W 20) 0 fun _ => (0 : Int32)) D1 n np := cpM_keep hm rfl rfl
          have cs2 := cpS_of cm2 (show cpT (W 3) ((cset (W 20) 0 fun _ => (0 : Int32)) 3) from hs) hi.i ph
          refine gx_recvQ h2.o (by decide) (q_X10_decides h2 hA' cs2 (by omega)) (fun _ z4 ⟨f4, M4, h4, r4, dt, dsa, dx, _⟩ => ?_)
          have cs4 := cpS_keep cs2 (r4 1 (by omega)) (r4 3 (by omega))
          refine gx_recvE h4.o (by decide) (q_X10_said h4 cs4 dt dsa ha hc) (gx_ret ⟨f2.tr f4, ad1, _, D1, hw1.ref (f2.tr f4) h4, ⟨n, np, IV_ref (IV_cls hi (fun k hk => by rw [Ws_ne (by omega), Ws_ne (by omega)])) (fun k hk => ?_)⟩, ?_⟩)
          · rw [r4 k (by omega), Ws_ne (by omega), Ws_ne (by omega)]; exact cset_ne (by omega)
          · rw [Ws_eq]
            refine ⟨by rw [r4 0 (by omega)]; rfl, ?_⟩
            rw [dx]; rfl
      · refine call_of hw (pair_of hi (.inl 0) ?_ (fun z1 ad1 hw1 => ?_))
        · unfold qX9_foresee
          exact gx_reqA hw c0 h16 (fun q => by rw [ca] at q; cases q) (fun _ => gx_reqR hw (q := 6) rfl (fun q => by rw [cr] at q; cases q) (fun _ => gx_reqPh hw (fun _ => ⟨rfl, rfl⟩) (fun q => absurd q ph)))
        · unfold qX10_foresee qX10_foresee_40
          refine gx_recvE hw1.m.o (by decide) (q_X10_isAreaB hw1.m m0 h16) ?_
          rw [ca]
          refine gx_itef (by decide) (gx_callE (q_X10_inB (k := 6) rfl (by omega) (by omega)) ?_)
          rw [cr]
          refine gx_itef (by decide) (gx_gR hw1.m.o (by decide) rfl (gx_aE (i := 0) hw1.m.a3 rfl (by omega) (Nat.le_of_ble_eq_true rfl) ?_))
          rw [hs.1.1]
          refine gx_itef ph ?_
          exact gx_refT hw1.m hA' (by decide) (fun z2 f2 h2 => gx_ret ⟨f2, _, h2, k0_ok, agrT (j := 0) (q := (0, 3)) rfl rfl (by decide)⟩)
