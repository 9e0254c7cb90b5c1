/-! the face: the calls that read (2) (by program) -/
section
variable {C S M : Nat → Nat → Int32} {D : Nat → Nat → Int64} {n np T : Nat}
theorem psg_b (hm : cpM C M D n np) {a : Nat} (ha : a < 16) (o : Bool) : psg M a (b2i o) = bd C a (b2i o) := by
  obtain ⟨q1, q2, _⟩ := hm.2.1 a ha
  cases o
  · exact q1
  · exact q2
theorem wid_bt {f : Nat → Int32} {k : Nat} {s : Int32} {i : Nat} : bt (wid f k s) i = (bt s i || exn (fun c => bt s c && bt (f c) i) k) := by
  unfold wid
  exact bt_gath
theorem wid_psg (hm : cpM C M D n np) (o : Bool) {s : Int32} (hs : ∀ i, i < 32 → bt s i = true → i < n) : osit (stRW M s (b2i o)) 0 n s = wid (fun a => bd C a (b2i o)) 16 s := b_ext (fun i hi => by
  have h16 := hm.n16
  rw [wid_bt]
  have e : bt (osit (stRW M s (b2i o)) 0 n s) i = (bt s i || exn (fun c => bt s c && bt (psg M c (b2i o)) i) n) := bt_gath (P := bt s) (f := fun c => psg M c (b2i o)) (g0 := s) (i := i) (n := n)
  rw [e]
  congr 1
  rw [Bool.eq_iff_iff, exn_iff, exn_iff]
  constructor
  · rintro ⟨c, h1, h2⟩
    exact ⟨c, by omega, by rw [← psg_b hm (by omega) o]; exact h2⟩
  · rintro ⟨c, h1, h2⟩
    have h3 := h2
    rw [Bool.and_eq_true] at h3
    exact ⟨c, hs c (by omega) h3.1, by rw [psg_b hm h1 o]; exact h2⟩)
theorem wid_n (hm : cpM C M D n np) (o : Bool) {s : Int32} (hs : ∀ i, i < 32 → bt s i = true → i < n) : ∀ i, i < 32 → bt (wid (fun a => bd C a (b2i o)) 16 s) i = true → i < n := fun i hi h => by
  rw [wid_bt] at h
  cases h1 : bt s i
  · rw [h1, Bool.false_or] at h
    obtain ⟨c, hc, h2⟩ := exn_iff.mp h
    rw [Bool.and_eq_true] at h2
    refine (hm.2.2.2.2.2.1 c i hc hi ?_).2.1
    cases o
    · exact Or.inl h2.2
    · exact Or.inr h2.2
  · exact hs i hi h1
theorem homes_eq (hm : cpM C M D n np) {v : Int32} (hv : ¬ v = -1) : fb_ct (fun a => decide (M 1 (34 + a) = v)) n = fb_ct (fun i => decide (C 6 i = v)) 16 := by
  have h16 := hm.n16
  rw [fb_ct_cut (q := fun i => decide (C 6 i = v)) h16 (fun i h1 h2 => decide_eq_false (fun q => by
    have := (hm.2.2.2.2.2.2 i h2 (by rw [q]; exact hv)).1; omega))]
  exact fb_ct_cong (fun i hi => by rw [(hm.2.1 i (by omega)).2.2.1])
theorem rch_eq (hm : cpM C M D n np) (ht : cpT S (M 3)) (hj : stJ C S n np T) {i : Nat} (hi : i < 16) {v : Int32} (o : Bool) : fb_ct (cnR M i v o) n = fb_ct (carP C S i v o) 16 := by
  have h16 := hm.n16
  rw [fb_ct_cut (q := carP C S i v o) h16 (fun a h1 h2 => by
    cases hu : uu S a
    · unfold uu at hu
      unfold carP
      rw [hu]; rfl
    · have := (hj.u a h2 hu).1; omega)]
  refine fb_ct_cong (fun a ha => ?_)
  have ha16 : a < 16 := by omega
  unfold cnR carP
  rw [(ht.2.1 a ha16).2.1]
  cases hu : uu S a
  · unfold uu at hu
    rw [hu]; simp
  · have hk := (hj.u a ha16 hu).2.2
    have e7 : M 3 (37 + a) = S 7 a := ht.2.2.1 a ha16 hu
    have ep : bt (psg M a (M 3 (37 + a))) i = cg C S a i := by
      rw [e7]
      unfold cg
      rcases hk with e | e
      · rw [e, show psg M a 0 = bd C a 0 from psg_b hm ha16 false]; rfl
      · rw [e, show psg M a 1 = bd C a 1 from psg_b hm ha16 true]; rfl
    rw [ep]
    by_cases e : a = i
    · subst e
      have : cg C S a a = false := by
        cases q : cg C S a a
        · rfl
        · unfold cg at q
          rw [Bool.and_eq_true] at q
          have hb : bt (C 7 a) a = true ∨ bt (C 8 a) a = true := by
            rcases hk with e | e <;> rw [e] at q
            · exact Or.inl q.2
            · exact Or.inr q.2
          exact absurd rfl (hm.2.2.2.2.2.1 a a ha16 (by omega) hb).2.2
      rw [this]; simp
    · rw [decide_eq_false e]; rfl
end
theorem q_X10_distance_38 {G : osG} {z : osS} {N m n np i j : Nat} {C M : Nat → Nat → Int32} {D : Nat → Nat → Int64} (hm : rX10 z m M D) (hc : cpM C M D n np) (hi : i < n) (hj : j < n) (o : Bool) (hN : 20 < N) : qX10_distance_38 N (m, nI j, b2i o, osshl (1 : Int32) (nI i), (0 : Int32)) G z = some (dst (wid (fun a => bd C a (b2i o)) 16) j 0 16 (sg i), z) := by
  have h16 := hc.n16
  refine gx_eq ?_
  generalize hD : dst (wid (fun a => bd C a (b2i o)) 16) j 0 16 (sg i) = D0
  unfold qX10_distance_38
  refine gx_loop 16 (fun t p z' => z' = z ∧ ∃ s, p = (m, nI j, b2i o, s, nI t) ∧ (∀ k, k < 32 → bt s k = true → k < n) ∧ D0 = dst (wid (fun a => bd C a (b2i o)) 16) j t (16 - t) s) ?_ ?_ N 0 _ z (Nat.zero_le _) (by omega) ⟨rfl, sg i, rfl, fun k hk h => by rw [b_sg (by omega) hk] at h; have := of_decide_eq_true h; omega, hD.symm⟩
  · rintro ih t p z' ht ⟨rfl, s, rfl, hs, e⟩ k
    show gx (bX10_distance_38 N ih m (nI j) (b2i o) s (nI t) G z') _
    rw [show 16 - t = (16 - (t + 1)) + 1 by omega] at e
    unfold dst at e
    unfold bX10_distance_38 qX10_distance_69
    refine gx_itef (ge16 ht) (gx_callE (q_X10_has (by omega) rfl) (gx_iteB (fun c => ?_) (fun c => gx_ret ⟨?_, rfl⟩)))
    · rw [c, if_neg (by decide)] at e
      have go : gx ((osbind (osrecv [8] m (qX10_widened N m s (b2i o))) fun x1 => ih (m, nI j, b2i o, x1, nI t + 1)) G z') (fun a z1 => a = D0 ∧ z1 = z') := by
        refine gx_recvE hm.o (by decide) (q_X10_widened hm hc.m0 h16 (by omega)) ?_
        rw [wid_psg hc o hs, nI_1]
        exact k _ _ ⟨rfl, _, rfl, wid_n hc o hs, e⟩
      cases o
      · exact gx_itet rfl go
      · exact gx_itef (by decide) go
    · rw [c, if_pos rfl] at e
      exact e.symm
  · rintro ih p z' ⟨rfl, s, rfl, hs, e⟩
    show gx (bX10_distance_38 N ih m (nI j) (b2i o) s (nI 16) G z') _
    unfold bX10_distance_38
    unfold dst at e
    exact gx_itet le16 (gx_ret ⟨e.symm, rfl⟩)
theorem p_passes {G : osG} {z : osS} {N x n np T : Nat} {ad : Nat → Nat} {W : Nat → Nat → Nat → Int32} {D : Nat → Nat → Int64} {v w : Int32} (o : Bool) (hw : WD z x ad W D) (hi : IVn W D n np T) (hA : G.2.2.1 ≤ x) (hN : 5000 < N) : pairT G z x T W D [(2, (1 : Int32))] (qX9_passes N x v w (b2i o)) (qX10_passes_ N (x + 129) v w (b2i o)) := by
  have hm := hi.m
  have hs := hi.s
  have hj := hi.i.j
  have h16 := hm.n16
  have h4 := hm.p4
  have c0 := hm.c0
  have c1 := hm.c1
  have m0 := hm.m0
  have m1 := hm.m1
  have hA' : G.2.2.1 ≤ x + 129 := by omega
  have ref1 : ∀ z1 ad1, WD z1 x ad1 W D → (aB n v && aB n w) = false → gx (qX10_passes_ N (x + 129) v w (b2i o) G z1) (RFm x [(2, (1 : Int32))] (.inl 2) (W 20) D z1) := fun z1 ad1 hw1 hno => by
    unfold qX10_passes_ qX10_passes__21 qX10_passes__22 qX10_passes__44 qX10_passes__54 qX10_passes__55
    have one : gx ((osbind (osput [8] 0 (x + 129) (.int (1 : Int32))) fun _ => osbind (osgI [8] 0 (x + 129)) fun x1 => osite (x1 = 0) (osite (b2i o = 0) (osbind (osrecv [8] (x + 129) (qX10_canGo N (x + 129) v w (0 : Int32))) fun x1 => osite (x1 = 0) (osretZ (0 : Int32)) (osretZ (1 : Int32))) (osbind (osrecv [8] (x + 129) (qX10_canGo N (x + 129) v w (1 : Int32))) fun x1 => osite (x1 = 0) (osretZ (0 : Int32)) (osretZ (1 : Int32)))) (osretZ (0 : Int32))) G z1) (RFm x [(2, (1 : Int32))] (.inl 2) (W 20) D z1) := hw1.m.p0 (by decide) hA' (fun z2 f2 h2 => gx_gI h2.o (by decide) rfl (gx_itef (show ¬ (1 : Int32) = 0 by decide) (gx_retZ (Or.inl rfl) ⟨f2, _, h2, k0_ok, agrT (j := 2) (q := (2, 1)) rfl rfl (by decide)⟩)))
    refine gx_recvE hw1.m.o (by decide) (q_X10_isAreaB hw1.m m0 h16) (gx_iteB (fun _ => one) (fun c1 => gx_recvE hw1.m.o (by decide) (q_X10_isAreaB hw1.m m0 h16) (gx_iteB (fun _ => one) (fun c2 => ?_))))
    rw [c1, c2] at hno; cases hno
  cases ca : aB n v
  · refine pair_of hi (.inl 2) ?_ (fun z1 ad1 hw1 => ref1 z1 ad1 hw1 (by rw [ca]; rfl))
    unfold qX9_passes
    exact gx_reqA hw c0 h16 (fun _ => ⟨rfl, rfl⟩) (fun q => by rw [ca] at q; cases q)
  · cases cb : aB n w
    · refine pair_of hi (.inl 2) ?_ (fun z1 ad1 hw1 => ref1 z1 ad1 hw1 (by rw [cb, Bool.and_false]))
      unfold qX9_passes
      exact gx_reqA hw c0 h16 (fun q => by rw [ca] at q; cases q) (fun _ => gx_reqA hw c0 h16 (fun _ => ⟨rfl, rfl⟩) (fun q => by rw [cb] at q; cases q))
    · obtain ⟨a, ha, rfl⟩ := aB_t (by omega) ca
      obtain ⟨b, hb, rfl⟩ := aB_t (by omega) cb
      have ha16 : a < 16 := by omega
      have hb16 : b < 16 := by omega
      refine pair_of hi (.inr (b2i (bt (bd (W 1) a (b2i o)) b))) ?_ (fun z1 ad1 hw1 => ?_)
      · unfold qX9_passes qX9_passes_25
        refine gx_reqA hw c0 h16 (fun q => by rw [ca] at q; cases q) (fun _ => gx_reqA hw c0 h16 (fun q => by rw [cb] at q; cases q) (fun _ => gx_gR hw.x9.o (by decide) rfl ?_))
        cases o
        · exact gx_itet rfl (gx_recvE hw.bd.o (by decide) (q_letsPass hw.bd ha16 hb16) (gx_Rt (gx_retZ (b2i_01 _) ⟨rfl, rfl⟩)))
        · exact gx_itef (by decide) (gx_recvE hw.bd.o (by decide) (q_letsPass hw.bd ha16 hb16) (gx_Rt (gx_retZ (b2i_01 _) ⟨rfl, rfl⟩)))
      · unfold qX10_passes_ qX10_passes__21 qX10_passes__22 qX10_passes__44 qX10_passes__54 qX10_passes__55
        refine gx_recvE hw1.m.o (by decide) (q_X10_isAreaB hw1.m m0 h16) ?_
        rw [ca]
        refine gx_itef (by decide) (gx_recvE hw1.m.o (by decide) (q_X10_isAreaB hw1.m m0 h16) ?_)
        rw [cb]
        refine gx_itef (by decide) (hw1.m.p0 (by decide) hA' (fun z2 f2 h2 => gx_gI h2.o (by decide) rfl (gx_itet rfl ?_)))
        have go : gx ((osbind (osrecv [8] (x + 129) (qX10_canGo N (x + 129) (nI a) (nI b) (b2i o))) fun x1 => osite (x1 = 0) (osretZ (0 : Int32)) (osretZ (1 : Int32))) G z2) (RFm x [(2, (1 : Int32))] (.inr (b2i (bt (bd (W 1) a (b2i o)) b))) (W 20) D z1) := by
          refine gx_recvE h2.o (by decide) (q_X10_canGo h2 ha16 hb16) ?_
          rw [show psg (cset (W 20) 0 fun _ => (0 : Int32)) a (b2i o) = psg (W 20) a (b2i o) from rfl, psg_b hm ha16 o]
          exact gx_iteB (fun c => gx_retZ (Or.inl rfl) ⟨f2, _, h2, k0_ok, agrV (by rw [c]; rfl)⟩) (fun c => gx_retZ (Or.inr rfl) ⟨f2, _, h2, k0_ok, agrV (by rw [c]; rfl)⟩)
        cases o
        · exact gx_itet rfl go
        · exact gx_itef (by decide) go
theorem p_distance {G : osG} {z : osS} {N x n np T : Nat} {ad : Nat → Nat} {W : Nat → Nat → Nat → Int32} {D : Nat → Nat → Int64} {v w : Int32} (o : Bool) (hw : WD z x ad W D) (hi : IVn W D n np T) (hA : G.2.2.1 ≤ x) (hN : 5000 < N) : pairT G z x T W D [(2, (1 : Int32))] (qX9_distance N x v w (b2i o)) (qX10_distance N (x + 129) v w (b2i o)) := by
  have hm := hi.m
  have hs := hi.s
  have hj := hi.i.j
  have h16 := hm.n16
  have h4 := hm.p4
  have c0 := hm.c0
  have c1 := hm.c1
  have m0 := hm.m0
  have m1 := hm.m1
  have hA' : G.2.2.1 ≤ x + 129 := by omega
  cases ca : aB n v
  · refine pair_of hi (.inl 2) ?_ (fun z1 ad1 hw1 => ?_)
    · unfold qX9_distance
      exact gx_reqA hw c0 h16 (fun _ => ⟨rfl, rfl⟩) (fun q => by rw [ca] at q; cases q)
    · unfold qX10_distance qX10_distance_21 qX10_distance_22
      refine gx_recvE hw1.m.o (by decide) (q_X10_isAreaB hw1.m m0 h16) ?_
      rw [ca]
      refine gx_itet rfl ?_
      exact gx_refT hw1.m hA' (by decide) (fun z2 f2 h2 => gx_ret ⟨f2, _, h2, k0_ok, agrT (j := 2) (q := (2, 1)) rfl rfl (by decide)⟩)
  · cases cb : aB n w
    · refine pair_of hi (.inl 2) ?_ (fun z1 ad1 hw1 => ?_)
      · unfold qX9_distance
        exact gx_reqA hw c0 h16 (fun q => by rw [ca] at q; cases q) (fun _ => gx_reqA hw c0 h16 (fun _ => ⟨rfl, rfl⟩) (fun q => by rw [cb] at q; cases q))
      · unfold qX10_distance qX10_distance_21 qX10_distance_22
        refine gx_recvE hw1.m.o (by decide) (q_X10_isAreaB hw1.m m0 h16) ?_
        rw [ca]
        refine gx_itef (by decide) (gx_recvE hw1.m.o (by decide) (q_X10_isAreaB hw1.m m0 h16) ?_)
        rw [cb]
        refine gx_itet rfl ?_
        exact gx_refT hw1.m hA' (by decide) (fun z2 f2 h2 => gx_ret ⟨f2, _, h2, k0_ok, agrT (j := 2) (q := (2, 1)) rfl rfl (by decide)⟩)
    · obtain ⟨a, ha, rfl⟩ := aB_t (by omega) ca
      obtain ⟨b, hb, rfl⟩ := aB_t (by omega) cb
      have ha16 : a < 16 := by omega
      have hb16 : b < 16 := by omega
      refine pair_of hi (.inr (dst (wid (fun a => bd (W 1) a (b2i o)) 16) b 0 16 (sg a))) ?_ (fun z1 ad1 hw1 => ?_)
      · unfold qX9_distance qX9_distance_25
        refine gx_reqA hw c0 h16 (fun q => by rw [ca] at q; cases q) (fun _ => gx_reqA hw c0 h16 (fun q => by rw [cb] at q; cases q) (fun _ => gx_gR hw.x9.o (by decide) rfl ?_))
        cases o
        · exact gx_itet rfl (gx_recvE hw.bd.o (by decide) (q_countBorders hw.bd ha16 hb16 (by omega)) (gx_Rt (gx_ret ⟨rfl, rfl⟩)))
        · exact gx_itef (by decide) (gx_recvE hw.bd.o (by decide) (q_countBorders hw.bd ha16 hb16 (by omega)) (gx_Rt (gx_ret ⟨rfl, rfl⟩)))
      · unfold qX10_distance qX10_distance_21 qX10_distance_22
        refine gx_recvE hw1.m.o (by decide) (q_X10_isAreaB hw1.m m0 h16) ?_
        rw [ca]
        refine gx_itef (by decide) (gx_recvE hw1.m.o (by decide) (q_X10_isAreaB hw1.m m0 h16) ?_)
        rw [cb]
        refine gx_itef (by decide) (gx_refF hw1.m hA' (fun z2 f2 h2 => ?_))
        exact gx_of (q_X10_distance_38 h2 (cpM_keep hm rfl rfl) ha hb o (by omega)) ⟨f2, _, h2, k0_ok, agrV rfl⟩
theorem p_power {G : osG} {z : osS} {N x n np T : Nat} {ad : Nat → Nat} {W : Nat → Nat → Nat → Int32} {D : Nat → Nat → Int64} {v w : Int32} (hw : WD z x ad W D) (hi : IVn W D n np T) (hA : G.2.2.1 ≤ x) (hN : 5000 < N) : pairT G z x T W D [(2, (1 : Int32)), (1, (2 : Int32))] (qX9_power N x v w) (qX10_power N (x + 129) v w) := by
  have hm := hi.m
  have hs := hi.s
  have hj := hi.i.j
  have h16 := hm.n16
  have h4 := hm.p4
  have c0 := hm.c0
  have c1 := hm.c1
  have m0 := hm.m0
  have m1 := hm.m1
  have hA' : G.2.2.1 ≤ x + 129 := by omega
  cases ca : aB np v
  · refine pair_of hi (.inl 2) ?_ (fun z1 ad1 hw1 => ?_)
    · unfold qX9_power
      exact gx_reqP hw c1 (fun _ => ⟨rfl, rfl⟩) (fun q => by rw [ca] at q; cases q)
    · unfold qX10_power qX10_power_27
      refine gx_recvE hw1.m.o (by decide) (q_X10_isPowerB hw1.m m1 h4) ?_
      rw [ca]
      refine gx_itet rfl ?_
      exact gx_refT hw1.m hA' (by decide) (fun z2 f2 h2 => gx_ret ⟨f2, _, h2, k0_ok, agrT (j := 2) (q := (2, 1)) rfl rfl (by decide)⟩)
  · obtain ⟨a, ha, rfl⟩ := aB_t (by omega) ca
    have hv : ¬ nI a = -1 := nI_m1 (by omega)
    cases cr : aB 4 w
    · refine pair_of hi (.inl 1) ?_ (fun z1 ad1 hw1 => ?_)
      · unfold qX9_power
        exact gx_reqP hw c1 (fun q => by rw [ca] at q; cases q) (fun _ => gx_reqR hw (q := 4) rfl (fun _ => ⟨rfl, rfl⟩) (fun q => by rw [cr] at q; cases q))
      · unfold qX10_power qX10_power_27
        refine gx_recvE hw1.m.o (by decide) (q_X10_isPowerB hw1.m m1 h4) ?_
        rw [ca]
        refine gx_itef (by decide) (gx_callE (q_X10_inB (k := 4) rfl (by omega) (by omega)) ?_)
        rw [cr]
        refine gx_itet rfl ?_
        exact gx_refT hw1.m hA' (by decide) (fun z2 f2 h2 => gx_ret ⟨f2, _, h2, k0_ok, agrT (j := 1) (q := (1, 2)) rfl rfl (by decide)⟩)
    · obtain ⟨c, hc, rfl⟩ := aB_t (by omega) cr
      have cls : ∀ val, gx (osswitch (nI c) 0 _ _ G z) (fun r z' => r = Sum.inr val ∧ z' = z) → gx (qX9_power N x (nI a) (nI c) G z) (fun r z' => r = Sum.inr val ∧ z' = z) := fun val h => by
        unfold qX9_power
        exact gx_reqP hw c1 (fun q => by rw [ca] at q; cases q) (fun _ => gx_reqR hw (q := 4) rfl (fun q => by rw [cr] at q; cases q) (fun _ => h))
      have rf : ∀ val z1 ad1, WD z1 x ad1 W D → (∀ z2, osFr (x + 129) (x + 129 + 21) z1 z2 → rX10 z2 (x + 129) (cset (W 20) 0 fun _ => (0 : Int32)) D → gx (osswitch (nI c) 0 _ _ G z2) (RFm x [(2, (1 : Int32)), (1, (2 : Int32))] (.inr val) (W 20) D z1)) → gx (qX10_power N (x + 129) (nI a) (nI c) G z1) (RFm x [(2, (1 : Int32)), (1, (2 : Int32))] (.inr val) (W 20) D z1) := fun val z1 ad1 hw1 h => by
        unfold qX10_power qX10_power_27
        refine gx_recvE hw1.m.o (by decide) (q_X10_isPowerB hw1.m m1 h4) ?_
        rw [ca]
        refine gx_itef (by decide) (gx_callE (q_X10_inB (k := 4) rfl (by omega) (by omega)) ?_)
        rw [cr]
        exact gx_itef (by decide) (gx_refF hw1.m hA' h)
      have hu12 := nu12 hj
      rcases (show c = 0 ∨ c = 1 ∨ c = 2 ∨ c = 3 by omega) with e | e | e | e <;> subst e
      · refine pair_of hi (.inr (nI (ct (W 3 5) (nI a)))) (cls _ (gx_swN (c := 0) (Nat.le_of_ble_eq_true rfl) (by omega) (gx_gR hw.x9.o (by decide) rfl (gx_recvE hw.nw.o (by decide) (q_countCenters hw.nw (by omega)) (gx_Rt (gx_ret ⟨rfl, rfl⟩)))))) (fun z1 ad1 hw1 => rf _ z1 ad1 hw1 (fun z2 f2 h2 => gx_swN (c := 0) (Nat.le_of_ble_eq_true rfl) (by omega) (gx_gR h2.o (by decide) rfl (gx_recvE h2.o (by decide) (q_X10_centersOf h2 h2.a3 m0 h16 (by omega)) (gx_ret ⟨f2, _, h2, k0_ok, agrV ?_⟩)))))
        rw [show fb_ct (cnC (cset (W 20) 0 fun _ => (0 : Int32)) ((cset (W 20) 0 fun _ => (0 : Int32)) 3) (nI a)) n = ct (W 3 5) (nI a) from cnC_eq hm hj hs hv]
      · refine pair_of hi (.inr (nI (ct (W 3 6) (nI a)))) (cls _ (gx_swN (c := 1) (Nat.le_of_ble_eq_true rfl) (by omega) (gx_gR hw.x9.o (by decide) rfl (gx_recvE hw.nw.o (by decide) (q_countUnits hw.nw (by omega)) (gx_Rt (gx_ret ⟨rfl, rfl⟩)))))) (fun z1 ad1 hw1 => rf _ z1 ad1 hw1 (fun z2 f2 h2 => gx_swN (c := 1) (Nat.le_of_ble_eq_true rfl) (by omega) (gx_gR h2.o (by decide) rfl (gx_recvE h2.o (by decide) (q_X10_unitsOf h2 h2.a3 m0 h16 (by omega)) (gx_ret ⟨f2, _, h2, k0_ok, agrV ?_⟩)))))
        rw [show fb_ct (cnU ((cset (W 20) 0 fun _ => (0 : Int32)) 3) (nI a)) n = ct (W 3 6) (nI a) from cnU_eq hj hs h16 hv]
      · refine pair_of hi (.inr (nI (fb_ct (fun i => decide (W 1 6 i = nI a)) 16))) (cls _ (gx_swN (c := 2) (Nat.le_of_ble_eq_true rfl) (by omega) (gx_gR hw.x9.o (by decide) rfl (gx_recvE hw.bd.o (by decide) (q_countHomes hw.bd (by omega)) (gx_Rt (gx_ret ⟨rfl, rfl⟩)))))) (fun z1 ad1 hw1 => rf _ z1 ad1 hw1 (fun z2 f2 h2 => gx_swN (c := 2) (Nat.le_of_ble_eq_true rfl) (by omega) (gx_recvE h2.o (by decide) (q_X10_homesOf (n := n) h2 m0 h16 (by omega)) (gx_ret ⟨f2, _, h2, k0_ok, agrV ?_⟩))))
        rw [show fb_ct (fun b => decide ((cset (W 20) 0 fun _ => (0 : Int32)) 1 (34 + b) = nI a)) n = fb_ct (fun i => decide (W 1 6 i = nI a)) 16 from homes_eq hm hv]
      · refine pair_of hi (.inr (bld (W 1) (W 3) (nI a))) (cls _ (gx_swD (c := 3) (Nat.le_refl 3) (by omega) (gx_gR hw.x9.o (by decide) rfl (gx_gR hw.x9.o (by decide) rfl (gx_recvE hw.nw.o (by decide) (q_countBuilds hw.nw hw.bd hu12 (by omega)) (gx_Rt (gx_ret ⟨rfl, rfl⟩))))))) (fun z1 ad1 hw1 => rf _ z1 ad1 hw1 (fun z2 f2 h2 => gx_swD (c := 3) (Nat.le_refl 3) (by omega) (gx_gR h2.o (by decide) rfl (gx_recvE h2.o (by decide) (q_X10_buildsOf h2 h2.a3 m0 h16 (by show fb_ct (cnU (W 20 3) (-1)) n ≤ 12; rw [cnU_all hj hs h16]; exact hu12) (by omega)) (gx_ret ⟨f2, _, h2, k0_ok, agrV ?_⟩)))))
        exact (bl_eq hm hj hs hv).symm
theorem p_mayRetreat {G : osG} {z : osS} {N x n np T : Nat} {ad : Nat → Nat} {W : Nat → Nat → Nat → Int32} {D : Nat → Nat → Int64} {v w : Int32} (hw : WD z x ad W D) (hi : IVn W D n np T) (hA : G.2.2.1 ≤ x) (hN : 5000 < N) : pairT G z x T W D [(2, (1 : Int32))] (qX9_mayRetreat N x v w) (qX10_mayRetreat N (x + 129) v w) := by
  have hm := hi.m
  have hs := hi.s
  have hj := hi.i.j
  have h16 := hm.n16
  have h4 := hm.p4
  have c0 := hm.c0
  have c1 := hm.c1
  have m0 := hm.m0
  have m1 := hm.m1
  have hA' : G.2.2.1 ≤ x + 129 := by omega
  cases ca : aB n v
  · refine pair_of hi (.inl 2) ?_ (fun z1 ad1 hw1 => ?_)
    · unfold qX9_mayRetreat
      exact gx_reqA hw c0 h16 (fun _ => ⟨rfl, rfl⟩) (fun q => by rw [ca] at q; cases q)
    · unfold qX10_mayRetreat qX10_mayRetreat_33 qX10_mayRetreat_34 qX10_mayRetreat_45 qX10_mayRetreat_64 qX10_mayRetreat_65
      refine gx_recvE hw1.m.o (by decide) (q_X10_isAreaB hw1.m m0 h16) ?_
      rw [ca]
      refine gx_itet rfl (gx_itet rfl ?_)
      exact gx_refT hw1.m hA' (by decide) (fun z2 f2 h2 => gx_retZ (Or.inl rfl) ⟨f2, _, h2, k0_ok, agrT (j := 2) (q := (2, 1)) rfl rfl (by decide)⟩)
  · cases cb : aB n w
    · refine pair_of hi (.inl 2) ?_ (fun z1 ad1 hw1 => ?_)
      · unfold qX9_mayRetreat
        exact gx_reqA hw c0 h16 (fun q => by rw [ca] at q; cases q) (fun _ => gx_reqA hw c0 h16 (fun _ => ⟨rfl, rfl⟩) (fun q => by rw [cb] at q; cases q))
      · unfold qX10_mayRetreat qX10_mayRetreat_33 qX10_mayRetreat_34 qX10_mayRetreat_45 qX10_mayRetreat_64 qX10_mayRetreat_65
        refine gx_recvE hw1.m.o (by decide) (q_X10_isAreaB hw1.m m0 h16) ?_
        rw [ca]
        refine gx_itef (by decide) (gx_recvE hw1.m.o (by decide) (q_X10_isAreaB hw1.m m0 h16) ?_)
        rw [cb]
        refine gx_itet rfl (gx_itet rfl ?_)
        exact gx_refT hw1.m hA' (by decide) (fun z2 f2 h2 => gx_retZ (Or.inl rfl) ⟨f2, _, h2, k0_ok, agrT (j := 2) (q := (2, 1)) rfl rfl (by decide)⟩)
    · obtain ⟨a, ha, rfl⟩ := aB_t (by omega) ca
      obtain ⟨b, hb, rfl⟩ := aB_t (by omega) cb
      have ha16 : a < 16 := by omega
      have hb16 : b < 16 := by omega
      have t53 : W 20 3 (53 + a) = W 3 8 a := (hs.2.1 a ha16).2.2.1
      by_cases hd : W 3 8 a = -1
      · refine pair_of hi (.inl 2) ?_ (fun z1 ad1 hw1 => ?_)
        · unfold qX9_mayRetreat
          refine gx_reqA hw c0 h16 (fun q => by rw [ca] at q; cases q) (fun _ => gx_reqA hw c0 h16 (fun q => by rw [cb] at q; cases q) (fun _ => gx_gR hw.x9.o (by decide) rfl (gx_recvE hw.nw.o (by decide) (q_hasDislodgedN hw.nw ha16) ?_)))
          rw [decide_eq_true hd]
          exact gx_itet rfl (gx_throw hw.nz ⟨rfl, rfl⟩)
        · unfold qX10_mayRetreat qX10_mayRetreat_33 qX10_mayRetreat_34 qX10_mayRetreat_45 qX10_mayRetreat_64 qX10_mayRetreat_65
          refine gx_recvE hw1.m.o (by decide) (q_X10_isAreaB hw1.m m0 h16) ?_
          rw [ca]
          refine gx_itef (by decide) (gx_recvE hw1.m.o (by decide) (q_X10_isAreaB hw1.m m0 h16) ?_)
          rw [cb]
          refine gx_itef (by decide) (gx_gR hw1.m.o (by decide) rfl (gx_aE hw1.m.a3 (nI_sum (a := 53) (b := a) rfl rfl) (by omega) (Nat.le_of_ble_eq_true rfl) ?_))
          rw [t53]
          refine gx_itet hd (gx_itet rfl ?_)
          exact gx_refT hw1.m hA' (by decide) (fun z2 f2 h2 => gx_retZ (Or.inl rfl) ⟨f2, _, h2, k0_ok, agrT (j := 2) (q := (2, 1)) rfl rfl (by decide)⟩)
      · have hds : ds (W 3) a = true := by unfold ds; rw [decide_eq_false hd]; rfl
        obtain ⟨e9, e10⟩ := hs.2.2.2.1 a ha16 hds
        have hk := (hj.d a ha16 hds).2.2
        have eq : rGb (W 20) a b = aRt (W 1) (W 3) a b := by
          unfold rGb aRt
          rw [e9, e10, (hs.2.1 b hb16).2.1, hs.1.2.2.2.2, decide_eq_false hd]
          rcases hk with e | e
          · rw [e, show psg (W 20) a 0 = bd (W 1) a 0 from psg_b hm ha16 false]; rfl
          · rw [e, show psg (W 20) a 1 = bd (W 1) a 1 from psg_b hm ha16 true]; rfl
        refine pair_of hi (.inr (b2i (aRt (W 1) (W 3) a b))) ?_ (fun z1 ad1 hw1 => ?_)
        · unfold qX9_mayRetreat
          refine gx_reqA hw c0 h16 (fun q => by rw [ca] at q; cases q) (fun _ => gx_reqA hw c0 h16 (fun q => by rw [cb] at q; cases q) (fun _ => gx_gR hw.x9.o (by decide) rfl (gx_recvE hw.nw.o (by decide) (q_hasDislodgedN hw.nw ha16) ?_)))
          rw [decide_eq_false hd]
          exact gx_itef (by decide) (gx_gR hw.x9.o (by decide) rfl (gx_gR hw.x9.o (by decide) rfl (gx_recvE hw.nw.o (by decide) (q_X5_allowsRetreat hw.nw hw.bd ha16 hb16) (gx_Rt (gx_retZ (b2i_01 _) ⟨rfl, rfl⟩)))))
        · unfold qX10_mayRetreat qX10_mayRetreat_33 qX10_mayRetreat_34 qX10_mayRetreat_45 qX10_mayRetreat_64 qX10_mayRetreat_65
          refine gx_recvE hw1.m.o (by decide) (q_X10_isAreaB hw1.m m0 h16) ?_
          rw [ca]
          refine gx_itef (by decide) (gx_recvE hw1.m.o (by decide) (q_X10_isAreaB hw1.m m0 h16) ?_)
          rw [cb]
          refine gx_itef (by decide) (gx_gR hw1.m.o (by decide) rfl (gx_aE hw1.m.a3 (nI_sum (a := 53) (b := a) rfl rfl) (by omega) (Nat.le_of_ble_eq_true rfl) ?_))
          rw [t53]
          refine gx_itef hd (gx_itef (by decide) (gx_refF hw1.m hA' (fun z2 f2 h2 => gx_recvE h2.o (by decide) (q_X10_mayGoBack h2 ha16 hb16) ?_)))
          rw [show rGb (cset (W 20) 0 fun _ => (0 : Int32)) a b = aRt (W 1) (W 3) a b from eq]
          exact gx_iteB (fun c => gx_retZ (Or.inl rfl) ⟨f2, _, h2, k0_ok, agrV (by rw [c]; rfl)⟩) (fun c => gx_retZ (Or.inr rfl) ⟨f2, _, h2, k0_ok, agrV (by rw [c]; rfl)⟩)
theorem p_reach {G : osG} {z : osS} {N x n np T : Nat} {ad : Nat → Nat} {W : Nat → Nat → Nat → Int32} {D : Nat → Nat → Int64} {v w : Int32} (o : Bool) (hw : WD z x ad W D) (hi : IVn W D n np T) (hA : G.2.2.1 ≤ x) (hN : 5000 < N) : pairT G z x T W D [(2, (1 : Int32))] (qX9_reach N x v w (b2i o)) (qX10_reach N (x + 129) v w (b2i o)) := by
  have hm := hi.m
  have hs := hi.s
  have hj := hi.i.j
  have h16 := hm.n16
  have h4 := hm.p4
  have c0 := hm.c0
  have c1 := hm.c1
  have m0 := hm.m0
  have m1 := hm.m1
  have hA' : G.2.2.1 ≤ x + 129 := by omega
  cases ca : aB n v
  · refine pair_of hi (.inl 2) ?_ (fun z1 ad1 hw1 => ?_)
    · unfold qX9_reach
      exact gx_reqA hw c0 h16 (fun _ => ⟨rfl, rfl⟩) (fun q => by rw [ca] at q; cases q)
    · unfold qX10_reach qX10_reach_21 qX10_reach_22 qX10_reach_39
      refine gx_recvE hw1.m.o (by decide) (q_X10_isAreaB hw1.m m0 h16) ?_
      rw [ca]
      refine gx_itet rfl ?_
      exact gx_refT hw1.m hA' (by decide) (fun z2 f2 h2 => gx_ret ⟨f2, _, h2, k0_ok, agrT (j := 2) (q := (2, 1)) rfl rfl (by decide)⟩)
  · cases cb : aB np w
    · refine pair_of hi (.inl 2) ?_ (fun z1 ad1 hw1 => ?_)
      · unfold qX9_reach
        exact gx_reqA hw c0 h16 (fun q => by rw [ca] at q; cases q) (fun _ => gx_reqP hw c1 (fun _ => ⟨rfl, rfl⟩) (fun q => by rw [cb] at q; cases q))
      · unfold qX10_reach qX10_reach_21 qX10_reach_22 qX10_reach_39
        refine gx_recvE hw1.m.o (by decide) (q_X10_isAreaB hw1.m m0 h16) ?_
        rw [ca]
        refine gx_itef (by decide) (gx_recvE hw1.m.o (by decide) (q_X10_isPowerB hw1.m m1 h4) ?_)
        rw [cb]
        refine gx_itet rfl ?_
        exact gx_refT hw1.m hA' (by decide) (fun z2 f2 h2 => gx_ret ⟨f2, _, h2, k0_ok, agrT (j := 2) (q := (2, 1)) rfl rfl (by decide)⟩)
    · obtain ⟨a, ha, rfl⟩ := aB_t (by omega) ca
      have ha16 : a < 16 := by omega
      refine pair_of hi (.inr (nI (fb_ct (carP (W 1) (W 3) a w o) 16))) ?_ (fun z1 ad1 hw1 => ?_)
      · unfold qX9_reach
        exact gx_reqA hw c0 h16 (fun q => by rw [ca] at q; cases q) (fun _ => gx_reqP hw c1 (fun q => by rw [cb] at q; cases q) (fun _ => gx_gR hw.x9.o (by decide) rfl (gx_gR hw.x9.o (by decide) rfl (gx_recvE hw.nw.o (by decide) (q_X5_countArrivals hw.nw hw.bd ha16 (by omega)) (gx_Rt (gx_ret ⟨rfl, rfl⟩))))))
      · unfold qX10_reach qX10_reach_21 qX10_reach_22 qX10_reach_39
        refine gx_recvE hw1.m.o (by decide) (q_X10_isAreaB hw1.m m0 h16) ?_
        rw [ca]
        refine gx_itef (by decide) (gx_recvE hw1.m.o (by decide) (q_X10_isPowerB hw1.m m1 h4) ?_)
        rw [cb]
        refine gx_itef (by decide) (gx_refF hw1.m hA' (fun z2 f2 h2 => gx_recvE h2.o (by decide) (q_X10_reaching h2 m0 h16 ha16 (by omega)) (gx_ret ⟨f2, _, h2, k0_ok, agrV ?_⟩)))
        rw [show fb_ct (cnR (cset (W 20) 0 fun _ => (0 : Int32)) a w o) n = fb_ct (carP (W 1) (W 3) a w o) 16 from rch_eq hm hs hj ha16 o]
theorem p_isThreatened {G : osG} {z : osS} {N x n np T : Nat} {ad : Nat → Nat} {W : Nat → Nat → Nat → Int32} {D : Nat → Nat → Int64} {v : Int32} (hw : WD z x ad W D) (hi : IVn W D n np T) (hA : G.2.2.1 ≤ x) (hN : 5000 < N) : pairT G z x T W D [(2, (1 : Int32))] (qX9_isThreatened N x v) (qX10_isThreatened N (x + 129) v) := by
  have hm := hi.m
  have hs := hi.s
  have hj := hi.i.j
  have h16 := hm.n16
  have h4 := hm.p4
  have c0 := hm.c0
  have c1 := hm.c1
  have m0 := hm.m0
  have m1 := hm.m1
  have hA' : G.2.2.1 ≤ x + 129 := by omega
  have hp : ∀ a, a < 16 → W 20 3 (21 + a) = W 3 6 a := fun a ha => (hs.2.1 a ha).2.1
  cases ca : uB n (W 3) v
  · refine pair_of hi (.inl 2) ?_ (fun z1 ad1 hw1 => ?_)
    · unfold qX9_isThreatened
      exact gx_reqU hw c0 h16 (fun _ => ⟨rfl, rfl⟩) (fun q => by rw [ca] at q; cases q)
    · unfold qX10_isThreatened qX10_isThreatened_14 qX10_isThreatened_56
      refine gx_recvE hw1.m.o (by decide) (q_X10_hasUnitB hw1.m m0 h16 hp) ?_
      rw [ca]
      refine gx_itet rfl ?_
      exact gx_refT hw1.m hA' (by decide) (fun z2 f2 h2 => gx_retZ (Or.inl rfl) ⟨f2, _, h2, k0_ok, agrT (j := 2) (q := (2, 1)) rfl rfl (by decide)⟩)
  · obtain ⟨a, ha, rfl, hu⟩ := uB_t (by omega) ca
    have ha16 : a < 16 := by omega
    refine pair_of hi (.inr (b2i (!decide (nI (fb_ct (carP (W 1) (W 3) a (W 3 6 a) true) 16) ≤ (1 : Int32) + nI (fb_ct (carP (W 1) (W 3) a (W 3 6 a) false) 16))))) ?_ (fun z1 ad1 hw1 => ?_)
    · unfold qX9_isThreatened qX9_isThreatened_61
      refine gx_reqU hw c0 h16 (fun q => by rw [ca] at q; cases q) (fun _ => gx_gR hw.x9.o (by decide) rfl (gx_gR hw.nw.o (by decide) rfl (gx_callE (q_entryN hw.nw.a6 ha16 (by omega)) (gx_gR hw.x9.o (by decide) rfl (gx_gR hw.x9.o (by decide) rfl (gx_recvE hw.nw.o (by decide) (q_X5_countArrivals (o := true) hw.nw hw.bd ha16 (by omega)) (gx_gR hw.x9.o (by decide) rfl (gx_gR hw.x9.o (by decide) rfl (gx_recvE hw.nw.o (by decide) (q_X5_countArrivals (o := false) hw.nw hw.bd ha16 (by omega)) (gx_ite (fun c => gx_Rt (gx_retZ (Or.inl rfl) ⟨?_, rfl⟩)) (fun c => gx_Rt (gx_retZ (Or.inr rfl) ⟨?_, rfl⟩))))))))))))
      · rw [decide_eq_true c]; rfl
      · rw [decide_eq_false c]; rfl
    · unfold qX10_isThreatened qX10_isThreatened_14 qX10_isThreatened_56
      refine gx_recvE hw1.m.o (by decide) (q_X10_hasUnitB hw1.m m0 h16 hp) ?_
      rw [ca]
      refine gx_itef (by decide) (gx_refF hw1.m hA' (fun z2 f2 h2 => gx_gR h2.o (by decide) rfl (gx_aE h2.a3 (nI_sum (a := 21) (b := a) rfl rfl) (by omega) (Nat.le_of_ble_eq_true rfl) ?_)))
      rw [show (cset (W 20) 0 fun _ => (0 : Int32)) 3 (21 + a) = W 3 6 a from hp a ha16]
      refine gx_recvE h2.o (by decide) (q_X10_reaching (o := true) h2 m0 h16 ha16 (by omega)) (gx_recvE h2.o (by decide) (q_X10_reaching (o := false) h2 m0 h16 ha16 (by omega)) ?_)
      rw [show fb_ct (cnR (cset (W 20) 0 fun _ => (0 : Int32)) a (W 3 6 a) true) n = fb_ct (carP (W 1) (W 3) a (W 3 6 a) true) 16 from rch_eq hm hs hj ha16 true, show fb_ct (cnR (cset (W 20) 0 fun _ => (0 : Int32)) a (W 3 6 a) false) n = fb_ct (carP (W 1) (W 3) a (W 3 6 a) false) 16 from rch_eq hm hs hj ha16 false]
      exact gx_ite (fun c => gx_retZ (Or.inl rfl) ⟨f2, _, h2, k0_ok, agrV (by rw [decide_eq_true c]; rfl)⟩) (fun c => gx_retZ (Or.inr rfl) ⟨f2, _, h2, k0_ok, agrV (by rw [decide_eq_false c]; rfl)⟩)
