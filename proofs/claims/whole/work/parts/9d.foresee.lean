/-! foreseeMove (by program) -/
section
variable {C S S' M M' : Nat → Nat → Int32} {D : Nat → Nat → Int64} {n np T a b : Nat}
theorem ordOK_mv (ho : ordOK S n) (h6 : ∀ j, j < 16 → S' 6 j = S 6 j) (h12 : ∀ j, j < 16 → S' 12 j = if j = a then 1 else S 12 j) (h13 : ∀ j, j < 16 → S' 13 j = if j = a then nI b else S 13 j) (h14 : ∀ j, j < 16 → S' 14 j = if j = a then -1 else S 14 j) (hb : b < n) (h16 : n ≤ 16) : ordOK S' n := fun j hj hu => by
  have eu : ∀ j, j < 16 → uu S' j = uu S j := fun j hj => by unfold uu; rw [h6 j hj]
  rw [eu j hj] at hu
  by_cases e : j = a
  · subst e
    have e12 : S' 12 j = 1 := by rw [h12 j hj, if_pos rfl]
    have e13 : S' 13 j = nI b := by rw [h13 j hj, if_pos rfl]
    have eg : gof S' j = b := by unfold gof; rw [e13]; exact nI_clamp (by omega)
    rw [e12, e13, eg]
    exact ⟨Or.inr (Or.inl rfl), fun q => absurd q (by decide), fun _ => ⟨rfl, hb⟩, fun q => absurd q (by decide), fun _ => by rw [h14 j hj, if_pos rfl], fun q => absurd q (by decide)⟩
  · have e12 : S' 12 j = S 12 j := by rw [h12 j hj, if_neg e]
    have e13 : S' 13 j = S 13 j := by rw [h13 j hj, if_neg e]
    have e14 : S' 14 j = S 14 j := by rw [h14 j hj, if_neg e]
    have eg : gof S' j = gof S j := by unfold gof; rw [e13]
    have es : sof S' j = sof S j := by unfold sof; rw [e14]
    obtain ⟨o1, o2, o3, o4, o5, o6⟩ := ho j hj hu
    rw [e12, e13, e14, eg, es]
    exact ⟨o1, o2, o3, o4, o5, fun q => by rw [eu _ (by have := (o3 (by rw [q]; decide)).2; omega)]; exact o6 q⟩
theorem cpS_mv (hm : cpM C M D n np) (ht : cpT S (M 3)) (hi : stI C S n np T) (h0 : S 0 0 = 0) (h6 : ∀ j, j < 16 → S' 6 j = S 6 j) (h7 : ∀ j, j < 16 → S' 7 j = S 7 j) (h12 : ∀ j, j < 16 → S' 12 j = if j = a then 1 else S 12 j) (h13 : ∀ j, j < 16 → S' 13 j = if j = a then nI b else S 13 j) (h14 : ∀ j, j < 16 → S' 14 j = if j = a then -1 else S 14 j) (hb : b < n) (ha : a < 16) (e1 : M' 1 = M 1) (e3 : ∀ j, M' 3 j = if j = 133 + a then nI b else if j = 117 + a then 1 else M 3 j) : cpS C S' M' n := by
  have h16 := hm.n16
  have ho := ordOK_mv (hi.o h0) h6 h12 h13 h14 hb h16
  have eu : ∀ j, j < 16 → uu S' j = uu S j := fun j hj => by unfold uu; rw [h6 j hj]
  refine ⟨⟨by rw [e1]; exact hm.m0, h16⟩, fun j hj => ?_, fun j hj hu => ?_, okO_of ho h16, ?_⟩
  · obtain ⟨t1, t2, t3, t4, t5, t6, t7⟩ := ht.2.1 j hj
    obtain ⟨m1, m2, m3⟩ := hm.2.1 j hj
    rw [e1, e3, e3, e3, if_neg (by omega), if_neg (by omega), if_neg (by omega), t2, t5, t6, h6 j hj, h12 j hj, h13 j hj]
    refine ⟨rfl, ?_, ?_, m1, m2⟩
    · by_cases q : j = a
      · subst q; rw [if_pos rfl, if_pos rfl]
      · rw [if_neg q, if_neg (by omega)]
    · by_cases q : j = a
      · subst q; rw [if_pos rfl, if_pos rfl]
      · rw [if_neg q, if_neg (by omega), if_neg (by omega)]
  · have hu0 := hu
    rw [eu j hj] at hu
    obtain ⟨u1, u2, u3⟩ := hi.j.u j hj hu
    obtain ⟨o1, o2, o3, o4, o5, o6⟩ := ho j hj hu0
    rw [e3, if_neg (by omega), if_neg (by omega), h7 j hj]
    refine ⟨u1, ht.2.2.1 j hj hu, u3, fun q => ?_, o6, fun q => (o3 q).2⟩
    rw [e3, if_neg (by omega), if_neg (by omega), (ht.2.1 j hj).2.2.2.2.2.2, h14 j hj]
    rw [h12 j hj] at q
    by_cases e : j = a
    · subst e; rw [if_pos rfl] at q; exact absurd q (by decide)
    · rw [if_neg e]
  · have h1 := mv_le (S := S')
    have h2 := hi.j.c12
    rw [fb_ct_cong (fun j hj => eu j hj)] at h1
    omega
theorem kd1 (hm : cpM C M D n np) {a : Nat} (ha : a < 16) : decide (M 1 (2 + a) = 1) = bt (C 2 0) a := by
  obtain ⟨_, _, _, q2, _⟩ := hm.2.1 a ha
  rw [q2]
  unfold kdOf
  have h := (hm.2.2.2.2.1 a (by omega)).2
  cases h3 : bt (C 3 0) a
  · rw [if_neg (by decide)]
    cases h2 : bt (C 2 0) a
    · rfl
    · rfl
  · cases h2 : bt (C 2 0) a
    · rfl
    · rw [h (Or.inl h2)] at h3; cases h3
theorem kd2 (hm : cpM C M D n np) {a : Nat} (ha : a < 16) : decide (M 1 (2 + a) = 2) = bt (C 3 0) a := by
  obtain ⟨_, _, _, q2, _⟩ := hm.2.1 a ha
  rw [q2]
  unfold kdOf
  cases h3 : bt (C 3 0) a
  · cases h2 : bt (C 2 0) a <;> rfl
  · rfl
theorem psg_S (hm : cpM C M D n np) (hj : stJ C S n np T) (ht : cpT S (M 3)) {a : Nat} (ha : a < 16) (hu : uu S a = true) : psg M a (M 3 (37 + a)) = bd C a (S 7 a) := by
  rw [ht.2.2.1 a ha hu]
  rcases (hj.u a ha hu).2.2 with e | e <;> rw [e]
  · exact psg_b hm ha false
  · exact psg_b hm ha true
theorem cg_u (hj : stJ C S n np T) {a b : Nat} (ha : a < 16) (hu : uu S a = true) : cg C S a b = bt (bd C a (S 7 a)) b := by
  unfold cg
  rcases (hj.u a ha hu).2.2 with e | e <;> rw [e] <;> rfl
theorem mv_eq (hm : cpM C M D n np) (hj : stJ C S n np T) (ht : cpT S (M 3)) (ha : a < 16) (hb : b < 16) (hu : uu S a = true) : rMv M a b = aMv C S a b := by
  unfold rMv aMv jc
  rw [psg_S hm hj ht ha hu, cg_u hj ha hu, ht.2.2.1 a ha hu, kd1 hm ha, kd1 hm hb]
  cases bt (C 2 0) a <;> cases bt (C 2 0) b <;> cases decide (a = b) <;> rfl
end
section
variable {G : osG} {z : osS} {N x n np T : Nat} {ad : Nat → Nat} {W : Nat → Nat → Nat → Int32} {D : Nat → Nat → Int64} {v w : Int32}
theorem gx_decideD {β : Type} {f : Unit → osM β} {Q : β → osS → Prop} (hw : WD z x ad W D) (ho : okO (W 4)) (hA : G.2.2.1 ≤ x) (hN : 5000 < N) (k : ∀ z1 J L, WD z1 x ad (Ws (Ws W 5 J) 6 L) D → LK (W 1) (W 4) L → (∀ a, a < 16 → hi0 (L 10 a)) → WJ (W 1) (W 4) (seaF (W 1) (W 4)) (srs (W 1) (W 4) (seaF (W 1) (W 4))).1 J → gx (f () G z1) Q) : gx (osbind (osrecv [1] (x + 8) (qX1_decide N (x + 8) (ad 0) (ad 3))) f G z) Q := by
  have hb9 := hw.ok.b
  have hs9 := hw.ok.s
  exact gx_recvQ hw.x1.o (by decide) (q_X1_decide hw.x1 hw.x2 hw.bd hw.dr (by omega) (by omega) (by omega) ho (by omega)) (fun _ z1 ⟨f1, J, L, h1, h2, a1, a2, a3, a4⟩ => k z1 J L (hw.c12 f1 h1 h2) a1 a2 a3)
theorem c_foreseeMove (hw : WD z x ad W D) (hi : IVn W D n np T) (hA : G.2.2.1 ≤ x) (hN : 5000 < N) : callT G z x T [(2, (1 : Int32)), (1, (2 : Int32)), (0, (3 : Int32))] (qX9_foreseeMove N x v w) (qX10_foreseeMove N (x + 129) v w) := by
  have hm := hi.m
  have hs := hi.s
  have hj := hi.i.j
  have h16 := hm.n16
  have c0 := hm.c0
  have m0 := hm.m0
  have hA' : G.2.2.1 ≤ x + 129 := by omega
  have hp : ∀ a, a < 16 → W 20 3 (21 + a) = W 3 6 a := fun a ha => (hs.2.1 a ha).2.1
  cases ca : uB n (W 3) v
  · refine call_of hw (pair_of hi (.inl 2) ?_ (fun z1 ad1 hw1 => ?_))
    · unfold qX9_foreseeMove
      exact gx_reqU hw c0 h16 (fun _ => ⟨rfl, rfl⟩) (fun q => by rw [ca] at q; cases q)
    · unfold qX10_foreseeMove qX10_foreseeMove_20 qX10_foreseeMove_21 qX10_foreseeMove_58
      refine gx_recvE hw1.m.o (by decide) (q_X10_hasUnitB hw1.m m0 h16 hp) ?_
      rw [ca]
      refine gx_itet rfl (gx_itet rfl ?_)
      exact gx_refT hw1.m hA' (by decide) (fun z2 f2 h2 => gx_ret ⟨f2, _, h2, k0_ok, agrT (j := 2) (q := (2, 1)) rfl rfl (by decide)⟩)
  · obtain ⟨a, ha, rfl, hu⟩ := uB_t (by omega) ca
    have ha16 : a < 16 := by omega
    cases cb : aB n w
    · refine call_of hw (pair_of hi (.inl 2) ?_ (fun z1 ad1 hw1 => ?_))
      · unfold qX9_foreseeMove
        exact gx_reqU hw c0 h16 (fun q => by rw [ca] at q; cases q) (fun _ => gx_reqA hw c0 h16 (fun _ => ⟨rfl, rfl⟩) (fun q => by rw [cb] at q; cases q))
      · unfold qX10_foreseeMove qX10_foreseeMove_20 qX10_foreseeMove_21 qX10_foreseeMove_58
        refine gx_recvE hw1.m.o (by decide) (q_X10_hasUnitB hw1.m m0 h16 hp) ?_
        rw [ca]
        refine gx_itef (by decide) (gx_recvE hw1.m.o (by decide) (q_X10_isAreaB hw1.m m0 h16) ?_)
        rw [cb]
        refine gx_itet rfl (gx_itet rfl ?_)
        exact gx_refT hw1.m hA' (by decide) (fun z2 f2 h2 => gx_ret ⟨f2, _, h2, k0_ok, agrT (j := 2) (q := (2, 1)) rfl rfl (by decide)⟩)
    · obtain ⟨b, hb, rfl⟩ := aB_t (by omega) cb
      have hb16 : b < 16 := by omega
      have emv := mv_eq (b := b) hm hj hs ha16 hb16 hu
      cases cm : aMv (W 1) (W 3) a b
      · refine call_of hw (pair_of hi (.inl 1) ?_ (fun z1 ad1 hw1 => ?_))
        · unfold qX9_foreseeMove
          refine gx_reqU hw c0 h16 (fun q => by rw [ca] at q; cases q) (fun _ => gx_reqA hw c0 h16 (fun q => by rw [cb] at q; cases q) (fun _ => gx_gR hw.x9.o (by decide) rfl (gx_gR hw.x9.o (by decide) rfl (gx_recvE hw.nw.o (by decide) (q_allowsMove hw.nw hw.bd ha16 hb16) ?_))))
          rw [cm]
          exact gx_itet rfl (gx_throw hw.nz ⟨rfl, rfl⟩)
        · unfold qX10_foreseeMove qX10_foreseeMove_20 qX10_foreseeMove_21 qX10_foreseeMove_58
          refine gx_recvE hw1.m.o (by decide) (q_X10_hasUnitB hw1.m m0 h16 hp) ?_
          rw [ca]
          refine gx_itef (by decide) (gx_recvE hw1.m.o (by decide) (q_X10_isAreaB hw1.m m0 h16) ?_)
          rw [cb]
          refine gx_itef (by decide) (gx_itef (by decide) (gx_recvE hw1.m.o (by decide) (q_X10_mayMove hw1.m ha16 hb16) ?_))
          rw [emv, cm]
          refine gx_itet rfl ?_
          exact gx_refT hw1.m hA' (by decide) (fun z2 f2 h2 => gx_ret ⟨f2, _, h2, k0_ok, agrT (j := 1) (q := (1, 2)) rfl rfl (by decide)⟩)
      · by_cases ph : W 3 0 0 = 0
        · refine ⟨fun r _ W1 D1 => ∃ U, sE (W 3) U ∧ r = .inr (b2i (xF (W 1) (ordered U a 1 (nI b) (-1)) a)) ∧ D1 = D ∧ ∀ k, k = 0 ∨ k = 1 ∨ k = 3 ∨ 7 ≤ k → W1 k = W k, ?_, ?_⟩
          · unfold qX9_foreseeMove qX9_foreseeMove_98
            refine gx_reqU hw c0 h16 (fun q => by rw [ca] at q; cases q) (fun _ => gx_reqA hw c0 h16 (fun q => by rw [cb] at q; cases q) (fun _ => gx_gR hw.x9.o (by decide) rfl (gx_gR hw.x9.o (by decide) rfl (gx_recvE hw.nw.o (by decide) (q_allowsMove hw.nw hw.bd ha16 hb16) ?_))))
            rw [cm]
            refine gx_itef (by decide) (gx_reqPh hw (fun q => absurd ph q) (fun _ => ?_))
            have hs9 := hw.ok.s
            refine gx_gR hw.x9.o (by decide) rfl (gx_gR hw.x9.o (by decide) rfl (gx_recvQ hw.dr.o (by decide) (q_X5_copyFrom hw.dr hw.nw (by omega) (by omega) hj.b2) (fun _ z1 ⟨f1, U, h1, e1, e2, e3⟩ => ?_)))
            have w1 := hw.cd f1 h1
            have hsE : sE (W 3) U := ⟨e1, e2, e3⟩
            have d1 := w1.dr
            rw [Ws_eq] at d1
            refine gx_gR w1.x9.o (by decide) rfl (gx_recvQ w1.dr.o (by decide) (q_X5_giveOrder (u := 1) (v := nI b) (w := -1) d1 (by omega) ha16) (fun _ z2 ⟨f2, h2⟩ => ?_))
            have w2 := w1.cd f2 h2
            have ho : okO (ordered U a 1 (nI b) (-1)) := okO_of (ordOK_mv (a := a) (b := b) (hi.i.o ph) (fun j hj => hsE.2.1 6 (by omega) (by omega) j hj) (fun j hj => ?_) (fun j hj => ?_) (fun j hj => ?_) hb h16) h16
            · refine gx_gR w2.x9.o (by decide) rfl (gx_gR w2.x9.o (by decide) rfl (gx_gR w2.x9.o (by decide) rfl (gx_decideD w2 (by rw [Ws_eq]; exact ho) hA hN (fun z3 J L w3 hk hi10 hWJ => ?_))))
              have j3 := w3.x1
              rw [Ws_ne (by omega), Ws_eq] at j3
              have e5 : J 5 0 = (srs (W 1) (ordered U a 1 (nI b) (-1)) (seaF (W 1) (ordered U a 1 (nI b) (-1)))).1 := by
                have := hWJ.1
                rw [Ws_eq, Ws_ne (by omega), Ws_ne (by omega)] at this
                exact this
              refine gx_gR w3.x9.o (by decide) rfl (gx_gI j3.o (by decide) rfl (gx_callE (q_hasN (by omega)) ?_))
              rw [e5]
              have fin : ∀ k, k = 0 ∨ k = 1 ∨ k = 3 ∨ 7 ≤ k → Ws (Ws (Ws (Ws W 4 U) 4 (ordered U a 1 (nI b) (-1))) 5 J) 6 L k = W k := fun k hk => by rw [Ws_ne (by omega), Ws_ne (by omega), Ws_ne (by omega), Ws_ne (by omega)]
              refine gx_iteB (fun c => gx_Rt (gx_ret ⟨ad, _, D, w3, U, hsE, ?_, rfl, fin⟩)) (fun c => gx_Rt (gx_ret ⟨ad, _, D, w3, U, hsE, ?_, rfl, fin⟩))
              · show _ = Sum.inr (b2i (bt _ a)); rw [c]; rfl
              · show _ = Sum.inr (b2i (bt _ a)); rw [c]; rfl
            · show (if j = a then (1 : Int32) else U 12 j) = _
              rw [hsE.2.1 12 (by omega) (by omega) j hj]
            · show (if j = a then nI b else U 13 j) = _
              rw [hsE.2.1 13 (by omega) (by omega) j hj]
            · show (if j = a then (-1 : Int32) else U 14 j) = _
              rw [hsE.2.1 14 (by omega) (by omega) j hj]
          · rintro r z1 ad1 W1 D1 hw1 ⟨U, hsE, rfl, rfl, hk⟩
            have hm1 := hw1.m
            rw [hk 20 (by omega)] at hm1
            unfold qX10_foreseeMove qX10_foreseeMove_20 qX10_foreseeMove_21 qX10_foreseeMove_58 qX10_foreseeMove_155
            refine gx_recvE hm1.o (by decide) (q_X10_hasUnitB hm1 m0 h16 hp) ?_
            rw [ca]
            refine gx_itef (by decide) (gx_recvE hm1.o (by decide) (q_X10_isAreaB hm1 m0 h16) ?_)
            rw [cb]
            refine gx_itef (by decide) (gx_itef (by decide) (gx_recvE hm1.o (by decide) (q_X10_mayMove hm1 ha16 hb16) ?_))
            rw [emv, cm]
            refine gx_itef (by decide) (gx_gR hm1.o (by decide) rfl (gx_aE (i := 0) hm1.a3 rfl (by omega) (Nat.le_of_ble_eq_true rfl) ?_))
            rw [hs.1.1, ph]
            refine gx_itet rfl (gx_refF hm1 hA' (fun z2 f2 h2 => ?_))
            refine gx_gR h2.o (by decide) rfl (gx_aE h2.a3 (nI_sum (a := 117) (b := a) rfl rfl) (by omega) (Nat.le_of_ble_eq_true rfl) (gx_gR h2.o (by decide) rfl (gx_aE h2.a3 (nI_sum (a := 133) (b := a) rfl rfl) (by omega) (Nat.le_of_ble_eq_true rfl) (gx_gR h2.o (by decide) rfl (h2.s3 (nI_sum (a := 117) (b := a) rfl rfl) (by omega) hA' (fun z3 f3 h3 => gx_gR h3.o (by decide) rfl (h3.s3 (nI_sum (a := 133) (b := a) rfl rfl) (by omega) hA' (fun z4 f4 h4 => ?_))))))))
            have cm2 : cpM (W 1) (cset (W 20) 0 fun _ => (0 : Int32)) D1 n np := cpM_keep hm rfl rfl
            have cs4 : cpS (W 1) (ordered U a 1 (nI b) (-1)) _ n := cpS_mv (a := a) (b := b) (S' := ordered U a 1 (nI b) (-1)) (M' := cset (cset (cset (W 20) 0 fun _ => (0 : Int32)) 3 (upd ((cset (W 20) 0 fun _ => (0 : Int32)) 3) (117 + a) 1)) 3 (upd ((cset (cset (W 20) 0 fun _ => (0 : Int32)) 3 (upd ((cset (W 20) 0 fun _ => (0 : Int32)) 3) (117 + a) 1)) 3) (133 + a) (nI b))) cm2 (show cpT (W 3) ((cset (W 20) 0 fun _ => (0 : Int32)) 3) from hs) hi.i ph (fun j hj => hsE.2.1 6 (by omega) (by omega) j hj) (fun j hj => hsE.2.1 7 (by omega) (by omega) j hj) (fun j hj => ?_) (fun j hj => ?_) (fun j hj => ?_) hb ha16 rfl (fun j => rfl)
            · refine gx_recvQ h4.o (by decide) (q_X10_decides h4 hA' cs4 (by omega)) (fun _ z5 ⟨f5, M5, h5, r5, dt, dsa, dx, _⟩ => ?_)
              have cs5 := cpS_keep cs4 (r5 1 (by omega)) (r5 3 (by omega))
              refine gx_gR h5.o (by decide) rfl (h5.s3 (nI_sum (a := 117) (b := a) rfl rfl) (by omega) hA' (fun z6 f6 h6 => gx_gR h6.o (by decide) rfl (h6.s3 (nI_sum (a := 133) (b := a) rfl rfl) (by omega) hA' (fun z7 f7 h7 => ?_))))
              refine gx_gR h7.o (by decide) rfl (gx_aE h7.a24 rfl ha16 (Nat.le_of_ble_eq_true rfl) (gx_recvE h7.o (by decide) (q_X10_succeeds h7 (scs_h (M := M5) cs5 dt ha16 : ¬ M5 24 a = -1 → M5 24 a = nI (tn (M5 24 a)) ∧ tn (M5 24 a) < 12)) ?_))
              have esc : ∀ A B c, scs (cset (cset M5 3 A) 3 B) c = scs M5 c := fun A B c => rfl
              rw [esc]
              show gx ((osite (b2i (scs M5 (M5 24 a)) = 0) _ _) G z7) _
              rw [scs_eq cs5 dt ha16, dx]
              have fr := f2.tr (f3.tr (f4.tr (f5.tr (f6.tr f7))))
              have fin : ∀ z8 b8, z8 = z7 → b2i (xF (W 1) (ordered U a 1 (nI b) (-1)) a) = b8 → RF x T [(2, (1 : Int32)), (1, (2 : Int32)), (0, (3 : Int32))] (.inr (b2i (xF (W 1) (ordered U a 1 (nI b) (-1)) a))) z1 b8 z8 := fun z8 b8 e8 eb => by
                subst e8
                refine ⟨fr, ad1, _, D1, hw1.ref fr h7, ⟨n, np, IV_ref (IV_cls hi hk) (fun k hk2 => ?_)⟩, ?_⟩
                · rw [hk 20 (by omega)]
                  by_cases q : k = 3
                  · subst q
                    funext j
                    show (if j = 133 + a then W 20 3 (133 + a) else if j = 117 + a then W 20 3 (117 + a) else M5 3 j) = W 20 3 j
                    by_cases q1 : j = 133 + a
                    · rw [if_pos q1, q1]
                    · rw [if_neg q1]
                      by_cases q2 : j = 117 + a
                      · rw [if_pos q2, q2]
                      · rw [if_neg q2, r5 3 (by omega)]
                        show (if j = 133 + a then nI b else if j = 117 + a then (1 : Int32) else W 20 3 j) = _
                        rw [if_neg q1, if_neg q2]
                  · rw [cset_ne q, cset_ne q, r5 k (by omega), cset_ne q, cset_ne q]; exact cset_ne (by omega)
                · rw [Ws_eq]
                  exact ⟨by show M5 0 0 = 0; rw [r5 0 (by omega)]; rfl, eb⟩
              refine gx_iteB (fun c => gx_ret (fin _ _ rfl ?_)) (fun c => gx_ret (fin _ _ rfl ?_))
              · show b2i (bt _ a) = _; rw [c]; rfl
              · show b2i (bt _ a) = _; rw [c]; rfl
            · show (if j = a then (1 : Int32) else U 12 j) = _
              rw [hsE.2.1 12 (by omega) (by omega) j hj]
            · show (if j = a then nI b else U 13 j) = _
              rw [hsE.2.1 13 (by omega) (by omega) j hj]
            · show (if j = a then (-1 : Int32) else U 14 j) = _
              rw [hsE.2.1 14 (by omega) (by omega) j hj]
        · refine call_of hw (pair_of hi (.inl 0) ?_ (fun z1 ad1 hw1 => ?_))
          · unfold qX9_foreseeMove
            refine gx_reqU hw c0 h16 (fun q => by rw [ca] at q; cases q) (fun _ => gx_reqA hw c0 h16 (fun q => by rw [cb] at q; cases q) (fun _ => gx_gR hw.x9.o (by decide) rfl (gx_gR hw.x9.o (by decide) rfl (gx_recvE hw.nw.o (by decide) (q_allowsMove hw.nw hw.bd ha16 hb16) ?_))))
            rw [cm]
            exact gx_itef (by decide) (gx_reqPh hw (fun _ => ⟨rfl, rfl⟩) (fun q => absurd q ph))
          · unfold qX10_foreseeMove qX10_foreseeMove_20 qX10_foreseeMove_21 qX10_foreseeMove_58
            refine gx_recvE hw1.m.o (by decide) (q_X10_hasUnitB hw1.m m0 h16 hp) ?_
            rw [ca]
            refine gx_itef (by decide) (gx_recvE hw1.m.o (by decide) (q_X10_isAreaB hw1.m m0 h16) ?_)
            rw [cb]
            refine gx_itef (by decide) (gx_itef (by decide) (gx_recvE hw1.m.o (by decide) (q_X10_mayMove hw1.m ha16 hb16) ?_))
            rw [emv, cm]
            refine gx_itef (by decide) (gx_gR hw1.m.o (by decide) rfl (gx_aE (i := 0) hw1.m.a3 rfl (by omega) (Nat.le_of_ble_eq_true rfl) ?_))
            rw [hs.1.1]
            refine gx_itef ph ?_
            exact gx_refT hw1.m hA' (by decide) (fun z2 f2 h2 => gx_ret ⟨f2, _, h2, k0_ok, agrT (j := 0) (q := (0, 3)) rfl rfl (by decide)⟩)
end
