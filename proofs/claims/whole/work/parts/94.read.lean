/-! the face: the calls that read (1) (by program) -/
theorem agrT {L : List (Nat × Int32)} {j : Nat} {M : Nat → Nat → Int32} {c b : Int32} {q : Nat × Int32} (h : L.find? (fun x => x.1 == j) = some q) (h2 : q.2 = c) (h3 : ¬ c = 0) : agr L (.inl j) ((cset M 0 fun _ => c) 0 0) b := ⟨⟨q, h, h2⟩, h3⟩
theorem agrV {L : List (Nat × Int32)} {M : Nat → Nat → Int32} {v b : Int32} (h : v = b) : agr L (.inr v) ((cset M 0 fun _ => (0 : Int32)) 0 0) b := ⟨rfl, h⟩
theorem p_area {G : osG} {z : osS} {N x n np T : Nat} {ad : Nat → Nat} {W : Nat → Nat → Nat → Int32} {D : Nat → Nat → Int64} {v w : Int32} (hw : WD z x ad W D) (hi : IVn W D n np T) (hA : G.2.2.1 ≤ x) (hN : 5000 < N) : pairT G z x T W D [(2, (1 : Int32)), (1, (2 : Int32))] (qX9_area N x v w) (qX10_area N (x + 129) v w) := by
  have hm := hi.m
  have hs := hi.s
  have hj := hi.i.j
  have h16 := hm.n16
  have h4 := hm.p4
  have c0 := hm.c0
  have c1 := hm.c1
  have m0 := hm.m0
  have m1 := hm.m1
  have hA' : G.2.2.1 ≤ x + 129 := by omega
  cases ca : aB n v
  · refine pair_of hi (.inl 2) ?_ (fun z1 ad1 hw1 => ?_)
    · unfold qX9_area
      exact gx_reqA hw c0 h16 (fun _ => ⟨rfl, rfl⟩) (fun q => by rw [ca] at q; cases q)
    · unfold qX10_area qX10_area_28
      refine gx_recvE hw1.m.o (by decide) (q_X10_isAreaB hw1.m m0 h16) ?_
      rw [ca]
      refine gx_itet rfl ?_
      exact gx_refT hw1.m hA' (by decide) (fun z2 f2 h2 => gx_ret ⟨f2, _, h2, k0_ok, agrT (j := 2) (q := (2, 1)) rfl rfl (by decide)⟩)
  · obtain ⟨a, ha, rfl⟩ := aB_t (by omega) ca
    have ha16 : a < 16 := by omega
    obtain ⟨t5, t21, t53, t101, _⟩ := hs.2.1 a ha16
    obtain ⟨q66, q82, q34, q2, q18⟩ := hm.2.1 a ha16
    cases cr : aB 8 w
    · refine pair_of hi (.inl 1) ?_ (fun z1 ad1 hw1 => ?_)
      · unfold qX9_area
        exact gx_reqA hw c0 h16 (fun q => by rw [ca] at q; cases q) (fun _ => gx_reqR hw (q := 8) rfl (fun _ => ⟨rfl, rfl⟩) (fun q => by rw [cr] at q; cases q))
      · unfold qX10_area qX10_area_28
        refine gx_recvE hw1.m.o (by decide) (q_X10_isAreaB hw1.m m0 h16) ?_
        rw [ca]
        refine gx_itef (by decide) (gx_callE (q_X10_inB (k := 8) rfl (by omega) (by omega)) ?_)
        rw [cr]
        refine gx_itet rfl ?_
        exact gx_refT hw1.m hA' (by decide) (fun z2 f2 h2 => gx_ret ⟨f2, _, h2, k0_ok, agrT (j := 1) (q := (1, 2)) rfl rfl (by decide)⟩)
    · obtain ⟨c, hc, rfl⟩ := aB_t (by omega) cr
      have cls : ∀ val, gx (osswitch (nI c) 0 _ _ G z) (fun r z' => r = Sum.inr val ∧ z' = z) → gx (qX9_area N x (nI a) (nI c) G z) (fun r z' => r = Sum.inr val ∧ z' = z) := fun val h => by
        unfold qX9_area
        exact gx_reqA hw c0 h16 (fun q => by rw [ca] at q; cases q) (fun _ => gx_reqR hw (q := 8) rfl (fun q => by rw [cr] at q; cases q) (fun _ => h))
      have rf : ∀ val z1 ad1, WD z1 x ad1 W D → (∀ z2, osFr (x + 129) (x + 129 + 21) z1 z2 → rX10 z2 (x + 129) (cset (W 20) 0 fun _ => (0 : Int32)) D → gx (osswitch (nI c) 0 _ _ G z2) (RFm x [(2, (1 : Int32)), (1, (2 : Int32))] (.inr val) (W 20) D z1)) → gx (qX10_area N (x + 129) (nI a) (nI c) G z1) (RFm x [(2, (1 : Int32)), (1, (2 : Int32))] (.inr val) (W 20) D z1) := fun val z1 ad1 hw1 h => by
        unfold qX10_area qX10_area_28
        refine gx_recvE hw1.m.o (by decide) (q_X10_isAreaB hw1.m m0 h16) ?_
        rw [ca]
        refine gx_itef (by decide) (gx_callE (q_X10_inB (k := 8) rfl (by omega) (by omega)) ?_)
        rw [cr]
        exact gx_itef (by decide) (gx_refF hw1.m hA' h)
      rcases (show c = 0 ∨ c = 1 ∨ c = 2 ∨ c = 3 ∨ c = 4 ∨ c = 5 ∨ c = 6 ∨ c = 7 by omega) with e | e | e | e | e | e | e | e <;> subst e
      · refine pair_of hi (.inr (kdOf (W 1) a)) (cls _ (gx_swN (c := 0) (Nat.le_of_ble_eq_true rfl) (by omega) (gx_gR hw.x9.o (by decide) rfl (gx_recvE hw.bd.o (by decide) (q_kindOf hw.bd ha16) (gx_Rt (gx_ret ⟨rfl, rfl⟩)))))) (fun z1 ad1 hw1 => rf _ z1 ad1 hw1 (fun z2 f2 h2 => gx_swN (c := 0) (Nat.le_of_ble_eq_true rfl) (by omega) (?_)))
        exact gx_gR h2.o (by decide) rfl (gx_aE h2.a1 (nI_sum (a := 2) (b := a) rfl rfl) (by omega) (Nat.le_of_ble_eq_true rfl) (gx_ret ⟨f2, _, h2, k0_ok, agrV q2.symm⟩))
      · refine pair_of hi (.inr (b2i (bt (W 1 4 0) a))) (cls _ (gx_swN (c := 1) (Nat.le_of_ble_eq_true rfl) (by omega) (gx_gR hw.x9.o (by decide) rfl (gx_gI hw.bd.o (by decide) rfl (gx_callE (q_hasN (by omega)) (gx_iteB (fun c => gx_Rt (gx_ret ⟨by rw [c]; rfl, rfl⟩)) (fun c => gx_Rt (gx_ret ⟨by rw [c]; rfl, rfl⟩)))))))) (fun z1 ad1 hw1 => rf _ z1 ad1 hw1 (fun z2 f2 h2 => gx_swN (c := 1) (Nat.le_of_ble_eq_true rfl) (by omega) (?_)))
        exact gx_gR h2.o (by decide) rfl (gx_aE h2.a1 (nI_sum (a := 18) (b := a) rfl rfl) (by omega) (Nat.le_of_ble_eq_true rfl) (gx_ret ⟨f2, _, h2, k0_ok, agrV q18.symm⟩))
      · refine pair_of hi (.inr (W 1 6 a)) (cls _ (gx_swN (c := 2) (Nat.le_of_ble_eq_true rfl) (by omega) (gx_gR hw.x9.o (by decide) rfl (gx_gR hw.bd.o (by decide) rfl (gx_callE (q_entryN hw.bd.a6 ha16 (by omega)) (gx_Rt (gx_ret ⟨rfl, rfl⟩))))))) (fun z1 ad1 hw1 => rf _ z1 ad1 hw1 (fun z2 f2 h2 => gx_swN (c := 2) (Nat.le_of_ble_eq_true rfl) (by omega) (?_)))
        exact gx_gR h2.o (by decide) rfl (gx_aE h2.a1 (nI_sum (a := 34) (b := a) rfl rfl) (by omega) (Nat.le_of_ble_eq_true rfl) (gx_ret ⟨f2, _, h2, k0_ok, agrV q34.symm⟩))
      · refine pair_of hi (.inr (W 3 5 a)) (cls _ (gx_swN (c := 3) (Nat.le_of_ble_eq_true rfl) (by omega) (gx_gR hw.x9.o (by decide) rfl (gx_gR hw.nw.o (by decide) rfl (gx_callE (q_entryN hw.nw.a5 ha16 (by omega)) (gx_Rt (gx_ret ⟨rfl, rfl⟩))))))) (fun z1 ad1 hw1 => rf _ z1 ad1 hw1 (fun z2 f2 h2 => gx_swN (c := 3) (Nat.le_of_ble_eq_true rfl) (by omega) (?_)))
        exact gx_gR h2.o (by decide) rfl (gx_aE h2.a3 (nI_sum (a := 5) (b := a) rfl rfl) (by omega) (Nat.le_of_ble_eq_true rfl) (gx_ret ⟨f2, _, h2, k0_ok, agrV t5.symm⟩))
      · refine pair_of hi (.inr (W 3 6 a)) (cls _ (gx_swN (c := 4) (Nat.le_of_ble_eq_true rfl) (by omega) (gx_gR hw.x9.o (by decide) rfl (gx_gR hw.nw.o (by decide) rfl (gx_callE (q_entryN hw.nw.a6 ha16 (by omega)) (gx_Rt (gx_ret ⟨rfl, rfl⟩))))))) (fun z1 ad1 hw1 => rf _ z1 ad1 hw1 (fun z2 f2 h2 => gx_swN (c := 4) (Nat.le_of_ble_eq_true rfl) (by omega) (?_)))
        exact gx_gR h2.o (by decide) rfl (gx_aE h2.a3 (nI_sum (a := 21) (b := a) rfl rfl) (by omega) (Nat.le_of_ble_eq_true rfl) (gx_ret ⟨f2, _, h2, k0_ok, agrV t21.symm⟩))
      · refine pair_of hi (.inr (W 3 7 a)) (cls _ (gx_swN (c := 5) (Nat.le_of_ble_eq_true rfl) (by omega) (gx_gR hw.x9.o (by decide) rfl (gx_gR hw.nw.o (by decide) rfl (gx_callE (q_entryN hw.nw.a7 ha16 (by omega)) (gx_Rt (gx_ret ⟨rfl, rfl⟩))))))) (fun z1 ad1 hw1 => rf _ z1 ad1 hw1 (fun z2 f2 h2 => gx_swN (c := 5) (Nat.le_of_ble_eq_true rfl) (by omega) (?_)))
        refine gx_gR h2.o (by decide) rfl (gx_callE (q_X10_isUnit h2.a3 ha16 rfl) ?_)
        unfold qX10_area_152
        rw [show (cset (W 20) 0 fun _ => (0 : Int32)) 3 (21 + a) = W 3 6 a from t21]
        refine gx_iteB (fun q => gx_ret ⟨f2, _, h2, k0_ok, agrV (hj.k7 a ha16 q)⟩) (fun q => gx_gR h2.o (by decide) rfl (gx_aE h2.a3 (nI_sum (a := 37) (b := a) rfl rfl) (by omega) (Nat.le_of_ble_eq_true rfl) (gx_ret ⟨f2, _, h2, k0_ok, agrV (hs.2.2.1 a ha16 q).symm⟩)))
      · refine pair_of hi (.inr (W 3 8 a)) (cls _ (gx_swN (c := 6) (Nat.le_of_ble_eq_true rfl) (by omega) (gx_gR hw.x9.o (by decide) rfl (gx_gR hw.nw.o (by decide) rfl (gx_callE (q_entryN hw.nw.a8 ha16 (by omega)) (gx_Rt (gx_ret ⟨rfl, rfl⟩))))))) (fun z1 ad1 hw1 => rf _ z1 ad1 hw1 (fun z2 f2 h2 => gx_swN (c := 6) (Nat.le_of_ble_eq_true rfl) (by omega) (?_)))
        exact gx_gR h2.o (by decide) rfl (gx_aE h2.a3 (nI_sum (a := 53) (b := a) rfl rfl) (by omega) (Nat.le_of_ble_eq_true rfl) (gx_ret ⟨f2, _, h2, k0_ok, agrV t53.symm⟩))
      · refine pair_of hi (.inr (W 3 9 a)) (cls _ (gx_swD (c := 7) (Nat.le_refl 7) (by omega) (gx_gR hw.x9.o (by decide) rfl (gx_gR hw.nw.o (by decide) rfl (gx_callE (q_entryN hw.nw.a9 ha16 (by omega)) (gx_Rt (gx_ret ⟨rfl, rfl⟩))))))) (fun z1 ad1 hw1 => rf _ z1 ad1 hw1 (fun z2 f2 h2 => gx_swD (c := 7) (Nat.le_refl 7) (by omega) (?_)))
        refine gx_gR h2.o (by decide) rfl (gx_aE h2.a3 (nI_sum (a := 53) (b := a) rfl rfl) (by omega) (Nat.le_of_ble_eq_true rfl) ?_)
        unfold qX10_area_189
        rw [show (cset (W 20) 0 fun _ => (0 : Int32)) 3 (53 + a) = W 3 8 a from t53]
        refine gx_ite (fun q => gx_ret ⟨f2, _, h2, k0_ok, agrV (hj.nd a ha16 (by unfold ds; rw [decide_eq_true q]; rfl)).1⟩) (fun q => gx_gR h2.o (by decide) rfl (gx_aE h2.a3 (nI_sum (a := 69) (b := a) rfl rfl) (by omega) (Nat.le_of_ble_eq_true rfl) (gx_ret ⟨f2, _, h2, k0_ok, agrV (hs.2.2.2.1 a ha16 (by unfold ds; rw [decide_eq_false q]; rfl)).1.symm⟩)))
theorem p_order {G : osG} {z : osS} {N x n np T : Nat} {ad : Nat → Nat} {W : Nat → Nat → Nat → Int32} {D : Nat → Nat → Int64} {v w : Int32} (hw : WD z x ad W D) (hi : IVn W D n np T) (hA : G.2.2.1 ≤ x) (hN : 5000 < N) : pairT G z x T W D [(2, (1 : Int32)), (1, (2 : Int32)), (0, (3 : Int32))] (qX9_order N x v w) (qX10_order N (x + 129) v w) := by
  have hm := hi.m
  have hs := hi.s
  have hj := hi.i.j
  have h16 := hm.n16
  have h4 := hm.p4
  have c0 := hm.c0
  have c1 := hm.c1
  have m0 := hm.m0
  have m1 := hm.m1
  have hA' : G.2.2.1 ≤ x + 129 := by omega
  have hp : ∀ a, a < 16 → W 20 3 (21 + a) = W 3 6 a := fun a ha => (hs.2.1 a ha).2.1
  cases ca : uB n (W 3) v
  · refine pair_of hi (.inl 2) ?_ (fun z1 ad1 hw1 => ?_)
    · unfold qX9_order
      exact gx_reqU hw c0 h16 (fun _ => ⟨rfl, rfl⟩) (fun q => by rw [ca] at q; cases q)
    · unfold qX10_order qX10_order_40
      refine gx_recvE hw1.m.o (by decide) (q_X10_hasUnitB hw1.m m0 h16 hp) ?_
      rw [ca]
      refine gx_itet rfl ?_
      exact gx_refT hw1.m hA' (by decide) (fun z2 f2 h2 => gx_ret ⟨f2, _, h2, k0_ok, agrT (j := 2) (q := (2, 1)) rfl rfl (by decide)⟩)
  · obtain ⟨a, ha, rfl, hu⟩ := uB_t (by omega) ca
    have ha16 : a < 16 := by omega
    obtain ⟨_, _, _, _, t117, t133, t149⟩ := hs.2.1 a ha16
    cases cr : aB 3 w
    · refine pair_of hi (.inl 1) ?_ (fun z1 ad1 hw1 => ?_)
      · unfold qX9_order
        exact gx_reqU hw c0 h16 (fun q => by rw [ca] at q; cases q) (fun _ => gx_reqR hw (q := 3) rfl (fun _ => ⟨rfl, rfl⟩) (fun q => by rw [cr] at q; cases q))
      · unfold qX10_order qX10_order_40
        refine gx_recvE hw1.m.o (by decide) (q_X10_hasUnitB hw1.m m0 h16 hp) ?_
        rw [ca]
        refine gx_itef (by decide) (gx_callE (q_X10_inB (k := 3) rfl (by omega) (by omega)) ?_)
        rw [cr]
        refine gx_itet rfl ?_
        exact gx_refT hw1.m hA' (by decide) (fun z2 f2 h2 => gx_ret ⟨f2, _, h2, k0_ok, agrT (j := 1) (q := (1, 2)) rfl rfl (by decide)⟩)
    · obtain ⟨c, hc, rfl⟩ := aB_t (by omega) cr
      by_cases ph : W 3 0 0 = 0
      · have rf : ∀ val z1 ad1, WD z1 x ad1 W D → (∀ z2, osFr (x + 129) (x + 129 + 21) z1 z2 → rX10 z2 (x + 129) (cset (W 20) 0 fun _ => (0 : Int32)) D → gx (osite (nI c = 0) (qX10_order_81 N ((117 : Int32) + nI a) (x + 129 + 3)) (osite (nI c = (1 : Int32)) (qX10_order_81 N ((133 : Int32) + nI a) (x + 129 + 3)) (qX10_order_81 N ((149 : Int32) + nI a) (x + 129 + 3))) G z2) (RFm x [(2, (1 : Int32)), (1, (2 : Int32)), (0, (3 : Int32))] (.inr val) (W 20) D z1)) → gx (qX10_order N (x + 129) (nI a) (nI c) G z1) (RFm x [(2, (1 : Int32)), (1, (2 : Int32)), (0, (3 : Int32))] (.inr val) (W 20) D z1) := fun val z1 ad1 hw1 h => by
          unfold qX10_order qX10_order_40
          refine gx_recvE hw1.m.o (by decide) (q_X10_hasUnitB hw1.m m0 h16 hp) ?_
          rw [ca]
          refine gx_itef (by decide) (gx_callE (q_X10_inB (k := 3) rfl (by omega) (by omega)) ?_)
          rw [cr]
          refine gx_itef (by decide) (gx_gR hw1.m.o (by decide) rfl (gx_aE (i := 0) hw1.m.a3 rfl (by omega) (Nat.le_of_ble_eq_true rfl) ?_))
          rw [hs.1.1, ph]
          exact gx_itet rfl (gx_refF hw1.m hA' (fun z2 f2 h2 => gx_gR h2.o (by decide) rfl (h z2 f2 h2)))
        have cls : ∀ val, gx ((osite ((nI c).toInt = 0) (osbind (osgR [7] 12 x) fun x1 => osbind (osgR [5] 12 x1) fun x2 => osbind (qX9_entry N x2 (nI a)) fun x3 => osRt (osret x3)) (osite ((nI c).toInt = 1) (osbind (osgR [7] 12 x) fun x4 => osbind (osgR [5] 13 x4) fun x5 => osbind (qX9_entry N x5 (nI a)) fun x6 => osRt (osret x6)) (osbind (osgR [7] 12 x) fun x7 => osbind (osgR [5] 14 x7) fun x8 => osbind (qX9_entry N x8 (nI a)) fun x9 => osRt (osret x9)))) G z) (fun r z' => r = Sum.inr val ∧ z' = z) → gx (qX9_order N x (nI a) (nI c) G z) (fun r z' => r = Sum.inr val ∧ z' = z) := fun val h => by
          unfold qX9_order
          exact gx_reqU hw c0 h16 (fun q => by rw [ca] at q; cases q) (fun _ => gx_reqR hw (q := 3) rfl (fun q => by rw [cr] at q; cases q) (fun _ => gx_reqPh hw (fun q => absurd ph q) (fun _ => h)))
        have ec : (nI c).toInt = (c : Int) := nI_toInt (by omega)
        rcases (show c = 0 ∨ c = 1 ∨ c = 2 by omega) with e | e | e <;> subst e
        · refine pair_of hi (.inr (W 3 12 a)) (cls _ (gx_itet (by rw [ec]; rfl) (gx_gR hw.x9.o (by decide) rfl (gx_gR hw.nw.o (by decide) rfl (gx_callE (q_entryN hw.nw.a12 ha16 (by omega)) (gx_Rt (gx_ret ⟨rfl, rfl⟩))))))) (fun z1 ad1 hw1 => rf _ z1 ad1 hw1 (fun z2 f2 h2 => gx_itet (by decide) ?_))
          unfold qX10_order_81
          exact gx_aE h2.a3 (nI_sum (a := 117) (b := a) rfl rfl) (by omega) (Nat.le_of_ble_eq_true rfl) (gx_ret ⟨f2, _, h2, k0_ok, agrV t117.symm⟩)
        · refine pair_of hi (.inr (W 3 13 a)) (cls _ (gx_itef (by rw [ec]; decide) (gx_itet (by rw [ec]; rfl) (gx_gR hw.x9.o (by decide) rfl (gx_gR hw.nw.o (by decide) rfl (gx_callE (q_entryN hw.nw.a13 ha16 (by omega)) (gx_Rt (gx_ret ⟨rfl, rfl⟩)))))))) (fun z1 ad1 hw1 => rf _ z1 ad1 hw1 (fun z2 f2 h2 => gx_itef (by decide) (gx_itet (by decide) ?_)))
          unfold qX10_order_81
          exact gx_aE h2.a3 (nI_sum (a := 133) (b := a) rfl rfl) (by omega) (Nat.le_of_ble_eq_true rfl) (gx_ret ⟨f2, _, h2, k0_ok, agrV t133.symm⟩)
        · refine pair_of hi (.inr (W 3 14 a)) (cls _ (gx_itef (by rw [ec]; decide) (gx_itef (by rw [ec]; decide) (gx_gR hw.x9.o (by decide) rfl (gx_gR hw.nw.o (by decide) rfl (gx_callE (q_entryN hw.nw.a14 ha16 (by omega)) (gx_Rt (gx_ret ⟨rfl, rfl⟩)))))))) (fun z1 ad1 hw1 => rf _ z1 ad1 hw1 (fun z2 f2 h2 => gx_itef (by decide) (gx_itef (by decide) ?_)))
          unfold qX10_order_81
          exact gx_aE h2.a3 (nI_sum (a := 149) (b := a) rfl rfl) (by omega) (Nat.le_of_ble_eq_true rfl) (gx_ret ⟨f2, _, h2, k0_ok, agrV t149.symm⟩)
      · refine pair_of hi (.inl 0) ?_ (fun z1 ad1 hw1 => ?_)
        · unfold qX9_order
          exact gx_reqU hw c0 h16 (fun q => by rw [ca] at q; cases q) (fun _ => gx_reqR hw (q := 3) rfl (fun q => by rw [cr] at q; cases q) (fun _ => gx_reqPh hw (fun _ => ⟨rfl, rfl⟩) (fun q => absurd q ph)))
        · unfold qX10_order qX10_order_40
          refine gx_recvE hw1.m.o (by decide) (q_X10_hasUnitB hw1.m m0 h16 hp) ?_
          rw [ca]
          refine gx_itef (by decide) (gx_callE (q_X10_inB (k := 3) rfl (by omega) (by omega)) ?_)
          rw [cr]
          refine gx_itef (by decide) (gx_gR hw1.m.o (by decide) rfl (gx_aE (i := 0) hw1.m.a3 rfl (by omega) (Nat.le_of_ble_eq_true rfl) ?_))
          rw [hs.1.1]
          refine gx_itef ph ?_
          exact gx_refT hw1.m hA' (by decide) (fun z2 f2 h2 => gx_ret ⟨f2, _, h2, k0_ok, agrT (j := 0) (q := (0, 3)) rfl rfl (by decide)⟩)
theorem p_result {G : osG} {z : osS} {N x n np T : Nat} {ad : Nat → Nat} {W : Nat → Nat → Nat → Int32} {D : Nat → Nat → Int64} {v w : Int32} (hw : WD z x ad W D) (hi : IVn W D n np T) (hA : G.2.2.1 ≤ x) (hN : 5000 < N) : pairT G z x T W D [(2, (1 : Int32)), (1, (2 : Int32)), (0, (3 : Int32))] (qX9_result N x v w) (qX10_result N (x + 129) v w) := by
  have hm := hi.m
  have hs := hi.s
  have hj := hi.i.j
  have h16 := hm.n16
  have h4 := hm.p4
  have c0 := hm.c0
  have c1 := hm.c1
  have m0 := hm.m0
  have m1 := hm.m1
  have hA' : G.2.2.1 ≤ x + 129 := by omega
  cases ca : aB n v
  · refine pair_of hi (.inl 2) ?_ (fun z1 ad1 hw1 => ?_)
    · unfold qX9_result
      exact gx_reqA hw c0 h16 (fun _ => ⟨rfl, rfl⟩) (fun q => by rw [ca] at q; cases q)
    · unfold qX10_result qX10_result_40
      refine gx_recvE hw1.m.o (by decide) (q_X10_isAreaB hw1.m m0 h16) ?_
      rw [ca]
      refine gx_itet rfl ?_
      exact gx_refT hw1.m hA' (by decide) (fun z2 f2 h2 => gx_ret ⟨f2, _, h2, k0_ok, agrT (j := 2) (q := (2, 1)) rfl rfl (by decide)⟩)
  · obtain ⟨a, ha, rfl⟩ := aB_t (by omega) ca
    have ha16 : a < 16 := by omega
    cases cr : aB 6 w
    · refine pair_of hi (.inl 1) ?_ (fun z1 ad1 hw1 => ?_)
      · unfold qX9_result
        exact gx_reqA hw c0 h16 (fun q => by rw [ca] at q; cases q) (fun _ => gx_reqR hw (q := 6) rfl (fun _ => ⟨rfl, rfl⟩) (fun q => by rw [cr] at q; cases q))
      · unfold qX10_result qX10_result_40
        refine gx_recvE hw1.m.o (by decide) (q_X10_isAreaB hw1.m m0 h16) ?_
        rw [ca]
        refine gx_itef (by decide) (gx_callE (q_X10_inB (k := 6) rfl (by omega) (by omega)) ?_)
        rw [cr]
        refine gx_itet rfl ?_
        exact gx_refT hw1.m hA' (by decide) (fun z2 f2 h2 => gx_ret ⟨f2, _, h2, k0_ok, agrT (j := 1) (q := (1, 2)) rfl rfl (by decide)⟩)
    · obtain ⟨c, hc, rfl⟩ := aB_t (by omega) cr
      by_cases ps : W 3 2 0 = 0
      · refine pair_of hi (.inl 0) ?_ (fun z1 ad1 hw1 => ?_)
        · unfold qX9_result
          exact gx_reqA hw c0 h16 (fun q => by rw [ca] at q; cases q) (fun _ => gx_reqR hw (q := 6) rfl (fun q => by rw [cr] at q; cases q) (fun _ => gx_reqS hw (fun _ => ⟨rfl, rfl⟩) (fun q => absurd ps q)))
        · unfold qX10_result qX10_result_40
          refine gx_recvE hw1.m.o (by decide) (q_X10_isAreaB hw1.m m0 h16) ?_
          rw [ca]
          refine gx_itef (by decide) (gx_callE (q_X10_inB (k := 6) rfl (by omega) (by omega)) ?_)
          rw [cr]
          refine gx_itef (by decide) (gx_gR hw1.m.o (by decide) rfl (gx_aE (i := 2) hw1.m.a3 rfl (by omega) (Nat.le_of_ble_eq_true rfl) ?_))
          rw [hs.1.2.2.1]
          refine gx_itet ps ?_
          exact gx_refT hw1.m hA' (by decide) (fun z2 f2 h2 => gx_ret ⟨f2, _, h2, k0_ok, agrT (j := 0) (q := (0, 3)) rfl rfl (by decide)⟩)
      · refine pair_of hi (.inr (W 3 15 (6 * a + c))) ?_ (fun z1 ad1 hw1 => ?_)
        · unfold qX9_result
          refine gx_reqA hw c0 h16 (fun q => by rw [ca] at q; cases q) (fun _ => gx_reqR hw (q := 6) rfl (fun q => by rw [cr] at q; cases q) (fun _ => gx_reqS hw (fun q => absurd q ps) (fun _ => gx_gR hw.x9.o (by decide) rfl (gx_gR hw.nw.o (by decide) rfl ?_))))
          rw [show nI a * (6 : Int32) + nI c = nI (6 * a + c) by rw [show nI a * (6 : Int32) = nI (a * 6) from nI_prod (b := 6) rfl rfl, nI_add, Nat.mul_comm]]
          exact gx_callE (q_entryN hw.nw.a15 (by omega) (by omega)) (gx_Rt (gx_ret ⟨rfl, rfl⟩))
        · unfold qX10_result qX10_result_40
          refine gx_recvE hw1.m.o (by decide) (q_X10_isAreaB hw1.m m0 h16) ?_
          rw [ca]
          refine gx_itef (by decide) (gx_callE (q_X10_inB (k := 6) rfl (by omega) (by omega)) ?_)
          rw [cr]
          refine gx_itef (by decide) (gx_gR hw1.m.o (by decide) rfl (gx_aE (i := 2) hw1.m.a3 rfl (by omega) (Nat.le_of_ble_eq_true rfl) ?_))
          rw [hs.1.2.2.1]
          refine gx_itef ps (gx_refF hw1.m hA' (fun z2 f2 h2 => gx_gR h2.o (by decide) rfl (gx_aE (i := 165 + 6 * a + c) h2.a3 (nI_sum (nI_sum (a := 165) rfl (nI_prod (a := 6) rfl rfl)) rfl) (by omega) (Nat.le_of_ble_eq_true rfl) (gx_ret ⟨f2, _, h2, k0_ok, agrV (hs.2.2.2.2 a c ha16 hc).symm⟩))))
theorem p_outcomes {G : osG} {z : osS} {N x n np T : Nat} {ad : Nat → Nat} {W : Nat → Nat → Nat → Int32} {D : Nat → Nat → Int64} (hw : WD z x ad W D) (hi : IVn W D n np T) (hA : G.2.2.1 ≤ x) (hN : 5000 < N) : pairT G z x T W D [(0, (1 : Int32))] (qX9_outcomes N x) (qX10_outcomes N (x + 129)) := by
  have hm := hi.m
  have hs := hi.s
  have hj := hi.i.j
  have h16 := hm.n16
  have h4 := hm.p4
  have c0 := hm.c0
  have c1 := hm.c1
  have m0 := hm.m0
  have m1 := hm.m1
  have hA' : G.2.2.1 ≤ x + 129 := by omega
  by_cases ps : W 3 2 0 = 0
  · refine pair_of hi (.inl 0) ?_ (fun z1 ad1 hw1 => ?_)
    · unfold qX9_outcomes
      exact gx_reqS hw (fun _ => ⟨rfl, rfl⟩) (fun q => absurd ps q)
    · unfold qX10_outcomes qX10_outcomes_15 qX10_outcomes_31
      refine gx_gR hw1.m.o (by decide) rfl (gx_aE (i := 2) hw1.m.a3 rfl (by omega) (Nat.le_of_ble_eq_true rfl) ?_)
      rw [hs.1.2.2.1]
      refine gx_itet ps ?_
      exact gx_refT hw1.m hA' (by decide) (fun z2 f2 h2 => gx_ret ⟨f2, _, h2, k0_ok, agrT (j := 0) (q := (0, 1)) rfl rfl (by decide)⟩)
  · refine pair_of hi (.inr (W 3 3 0)) ?_ (fun z1 ad1 hw1 => ?_)
    · unfold qX9_outcomes
      exact gx_reqS hw (fun q => absurd q ps) (fun _ => gx_gR hw.x9.o (by decide) rfl (gx_gI hw.nw.o (by decide) rfl (gx_Rt (gx_ret ⟨rfl, rfl⟩))))
    · unfold qX10_outcomes qX10_outcomes_15 qX10_outcomes_31
      refine gx_gR hw1.m.o (by decide) rfl (gx_aE (i := 2) hw1.m.a3 rfl (by omega) (Nat.le_of_ble_eq_true rfl) ?_)
      rw [hs.1.2.2.1]
      exact gx_itef ps (gx_refF hw1.m hA' (fun z2 f2 h2 => gx_gR h2.o (by decide) rfl (gx_aE (i := 3) h2.a3 rfl (by omega) (Nat.le_of_ble_eq_true rfl) (gx_ret ⟨f2, _, h2, k0_ok, agrV hs.1.2.2.2.1.symm⟩))))
theorem p_isContested {G : osG} {z : osS} {N x n np T : Nat} {ad : Nat → Nat} {W : Nat → Nat → Nat → Int32} {D : Nat → Nat → Int64} {v : Int32} (hw : WD z x ad W D) (hi : IVn W D n np T) (hA : G.2.2.1 ≤ x) (hN : 5000 < N) : pairT G z x T W D [(2, (1 : Int32)), (0, (2 : Int32))] (qX9_isContested N x v) (qX10_isContested N (x + 129) v) := by
  have hm := hi.m
  have hs := hi.s
  have hj := hi.i.j
  have h16 := hm.n16
  have h4 := hm.p4
  have c0 := hm.c0
  have c1 := hm.c1
  have m0 := hm.m0
  have m1 := hm.m1
  have hA' : G.2.2.1 ≤ x + 129 := by omega
  cases ca : aB n v
  · refine pair_of hi (.inl 2) ?_ (fun z1 ad1 hw1 => ?_)
    · unfold qX9_isContested
      exact gx_reqA hw c0 h16 (fun _ => ⟨rfl, rfl⟩) (fun q => by rw [ca] at q; cases q)
    · unfold qX10_isContested qX10_isContested_27 qX10_isContested_50 qX10_isContested_51
      refine gx_recvE hw1.m.o (by decide) (q_X10_isAreaB hw1.m m0 h16) ?_
      rw [ca]
      refine gx_itet rfl ?_
      exact gx_refT hw1.m hA' (by decide) (fun z2 f2 h2 => gx_retZ (Or.inl rfl) ⟨f2, _, h2, k0_ok, agrT (j := 2) (q := (2, 1)) rfl rfl (by decide)⟩)
  · obtain ⟨a, ha, rfl⟩ := aB_t (by omega) ca
    have ha16 : a < 16 := by omega
    by_cases ps : W 3 2 0 = 0
    · refine pair_of hi (.inl 0) ?_ (fun z1 ad1 hw1 => ?_)
      · unfold qX9_isContested
        exact gx_reqA hw c0 h16 (fun q => by rw [ca] at q; cases q) (fun _ => gx_reqS hw (fun _ => ⟨rfl, rfl⟩) (fun q => absurd ps q))
      · unfold qX10_isContested qX10_isContested_27 qX10_isContested_50 qX10_isContested_51
        refine gx_recvE hw1.m.o (by decide) (q_X10_isAreaB hw1.m m0 h16) ?_
        rw [ca]
        refine gx_itef (by decide) (gx_gR hw1.m.o (by decide) rfl (gx_aE (i := 2) hw1.m.a3 rfl (by omega) (Nat.le_of_ble_eq_true rfl) ?_))
        rw [hs.1.2.2.1]
        refine gx_itet ps ?_
        exact gx_refT hw1.m hA' (by decide) (fun z2 f2 h2 => gx_retZ (Or.inl rfl) ⟨f2, _, h2, k0_ok, agrT (j := 0) (q := (0, 2)) rfl rfl (by decide)⟩)
    · refine pair_of hi (.inr (b2i (bt (W 3 4 0) a))) ?_ (fun z1 ad1 hw1 => ?_)
      · unfold qX9_isContested
        exact gx_reqA hw c0 h16 (fun q => by rw [ca] at q; cases q) (fun _ => gx_reqS hw (fun q => absurd q ps) (fun _ => gx_gR hw.x9.o (by decide) rfl (gx_gI hw.nw.o (by decide) rfl (gx_callE (q_hasN (by omega)) (gx_Rt (gx_retZ (b2i_01 _) ⟨rfl, rfl⟩))))))
      · unfold qX10_isContested qX10_isContested_27 qX10_isContested_50 qX10_isContested_51
        refine gx_recvE hw1.m.o (by decide) (q_X10_isAreaB hw1.m m0 h16) ?_
        rw [ca]
        refine gx_itef (by decide) (gx_gR hw1.m.o (by decide) rfl (gx_aE (i := 2) hw1.m.a3 rfl (by omega) (Nat.le_of_ble_eq_true rfl) ?_))
        rw [hs.1.2.2.1]
        refine gx_itef ps (gx_refF hw1.m hA' (fun z2 f2 h2 => gx_gR h2.o (by decide) rfl (gx_aE (i := 4) h2.a3 rfl (by omega) (Nat.le_of_ble_eq_true rfl) (gx_callE (q_X10_has (by omega) rfl) ?_))))
        rw [show (cset (W 20) 0 fun _ => (0 : Int32)) 3 4 = W 3 4 0 from hs.1.2.2.2.2]
        exact gx_iteB (fun c => gx_retZ (Or.inl rfl) ⟨f2, _, h2, k0_ok, agrV (by rw [c]; rfl)⟩) (fun c => gx_retZ (Or.inr rfl) ⟨f2, _, h2, k0_ok, agrV (by rw [c]; rfl)⟩)
