/-! the law's own steps (18): builds -/
theorem fb_rev {p : Nat → Bool} : ∀ m, fb_ct (fun i => p (m - i)) (m + 1) = fb_ct p (m + 1)
  | 0 => rfl
  | m + 1 => by
    have e := fb_ct_split (fun i => p (m + 1 - i)) 1 (m + 1)
    rw [show m + 1 + 1 = 1 + (m + 1) by omega, e]
    have e2 : fb_ct (fun k => p (m + 1 - (1 + k))) (m + 1) = fb_ct (fun i => p (m - i)) (m + 1) := fb_ct_cong (fun k _ => by rw [show m + 1 - (1 + k) = m - k by omega])
    rw [e2, fb_rev m, show 1 + (m + 1) = m + 1 + 1 by omega, fb_ct_succ p (m + 1), fb_ct_succ _ 0, Nat.sub_zero]
    show 0 + _ + _ = _
    omega
section
variable {C S V : Nat → Nat → Int32} {n np T : Nat} {v : Int32}
theorem rmR_all (hv : ¬ v = -1) : rmR S v 16 = ct (S 6) v - ct (S 5) v := by
  rw [rmR_min hv 16 (Nat.le_refl _)]
  have : rmA S v 16 = ct (S 6) v := fb_rev (p := fun i => decide (S 6 i = v)) 15
  rw [this]
  omega
theorem bld_neg : (0 ≤ bld C S v) ↔ ¬ ct (S 5) v < ct (S 6) v := by
  have b1 := ct_le (S 5) v
  have b2 := ct_le (S 6) v
  unfold bld
  by_cases q : ct (S 6) v < ct (S 5) v
  · rw [if_pos q]
    refine ⟨fun _ => by omega, fun _ => ?_⟩
    exact (nI_leI (a := 0) (by omega) (by omega)).mpr (by omega)
  · rw [if_neg q, sbz _ (by omega) _ (by omega)]; omega
theorem min0 : ∀ a, a < 17 → ∀ b, b < 17 → a ≤ b → osmin 0 (nI a - nI b) = -nI (b - a) := by decide +kernel
theorem bld_min (hv : ¬ v = -1) : osmin 0 (bld C S v) = -nI (rmR S v 16) := by
  have b1 := ct_le (S 5) v
  have b2 := ct_le (S 6) v
  rw [rmR_all hv]
  unfold bld
  by_cases q : ct (S 6) v < ct (S 5) v
  · rw [if_pos q, show ct (S 6) v - ct (S 5) v = 0 by omega, show (0 : Int32) = nI 0 from rfl, osmin_nI (by omega) (by omega), Nat.zero_min]; rfl
  · rw [if_neg q, min0 _ (by omega) _ (by omega) (by omega)]
theorem isR_ct (h : isR (fun _ => true) S V) : fb_ct (uu V) 16 + fb_ct (rm S) 16 = fb_ct (uu S) 16 := by
  rw [← fb_ct_or (p := uu V) (q := rm S) (n := 16) (fun k hk q => ?_)]
  · refine fb_ct_cong (fun k hk => ?_)
    have := h.1 k hk
    rw [Bool.true_and] at this
    cases r : rm S k
    · rw [r, if_neg (by decide)] at this
      unfold uu; rw [this, Bool.or_false]
    · rw [rm_uu r, Bool.or_true]
  · have := h.1 k hk
    rw [q.2, Bool.true_and, if_pos rfl] at this
    have q1 := q.1
    unfold uu at q1
    rw [this] at q1
    exact absurd q1 (by decide)
end
section
variable {G : osG} {z : osS} {N x k n np T j a : Nat} {ad : Nat → Nat} {W : Nat → Nat → Nat → Int32} {Q : Int32 → osS → Prop} {c4 : Nat × Nat × Int32 × Int32 → osM Int32}
theorem r_285 (h : LW z x ad W n np T) (ph : W 3 0 0 = 2) (h12 : n ≤ 12) (hT : T < 4500) (hA : G.2.2.1 ≤ x) (hN : 5000 < N)
    (kk : ∀ z' ad' W', LW z' x ad' W' n np (T + 1) → W' 1 = W 1 → W' 3 0 0 = 0 → Q 1 z') : gx (qL_builds_280 N x (1 : Int32) G z) Q := by
  have h16 := h.n16
  have h4 := h.i.m.p4
  have hj := h.i.i.j
  unfold qL_builds_280 qL_builds_285
  refine gx_loop np (fun i p z' => p = (x, (1 : Int32), -nI (rmT (W 3) i), nI i) ∧ z' = z) ?_ ?_ 7 0 _ z (Nat.zero_le _) (by omega) ⟨by show (x, (1 : Int32), (0 : Int32), (0 : Int32)) = (x, (1 : Int32), -nI 0, nI 0); rw [show -nI 0 = (0 : Int32) by decide]; rfl, rfl⟩
  · rintro ih i p z' hi ⟨rfl, rfl⟩ kc
    show gx (bL_builds_285 N ih x (1 : Int32) (-nI (rmT (W 3) i)) (nI i) G z') _
    unfold bL_builds_285
    refine l_powers h.w h.c1 (gx_itef (nI_nleE (a := np) (b := i) rfl rfl hi (by omega)) (l_power3 (p := i) h.w h.i hi rfl hN (gx_retb (kc _ _ ⟨?_, rfl⟩))))
    rw [nI_1, bld_min (nI_m1 (by omega)), ← Int32.sub_eq_add_neg, ← Int32.neg_add, nI_add]; rfl
  · rintro ih p z' ⟨rfl, rfl⟩
    show gx (bL_builds_285 N ih x (1 : Int32) (-nI (rmT (W 3) np)) (nI np) G z') _
    unfold bL_builds_285 qL_builds_373
    refine l_powers h.w h.c1 (gx_itet ((nI_leI (by omega) (by omega)).mpr (Nat.le_refl _)) (gx_callE (q_L_units h.w h.c0 h12) (l_turn h.w (gx_itef (by decide) (l_endBuilds h ph (by omega) hA hN (fun z2 ad2 W2 V f2 h2 e1 hR e3 => ?_))))))
    have hrT := rmT_all hj h4
    have hrm : fb_ct (fun j => rm (W 3) (15 - j)) 16 = fb_ct (rm (W 3)) 16 := fb_rev (p := rm (W 3)) 15
    have hct := isR_ct hR
    have hU : fb_ct (uu (W 3)) 16 = fb_ct (uu (W 3)) n := fb_cutN 16 h16 (fun j j1 j2 => by
      cases q : uu (W 3) j
      · rfl
      · have := (hj.u j j2 q).1
        omega)
    have hU2 : fb_ct (uu (W2 3)) 16 = fb_ct (uu (W2 3)) n := fb_cutN 16 h16 (fun j j1 j2 => by
      cases q : uu (W2 3) j
      · rfl
      · have := (h2.i.i.j.u j j2 q).1
        omega)
    have hUe : fb_ct (uu (W2 3)) 16 = fb_ct (uu V) 16 := fb_ct_cong (fun j _ => by unfold uu; rw [e3, begun_k (by omega) (by omega) (by omega) (by omega) (by omega)])
    refine gx_itet (by rw [Int32.neg_neg, hrT]) (gx_callE (q_L_units h2.w h2.c0 h12) (gx_itet ?_ (l_turn h2.w (gx_itet ?_ (l_phase h2.w (gx_itet ?_ (gx_retZ (Or.inr rfl) (kk z2 ad2 W2 h2 e1 ?_))))))))
    · rw [← Int32.sub_eq_add_neg, nI_sub (by omega)]
      congr 1
      omega
    · rw [e3, begun_1, hR.2.2 1 (by omega) (by omega)]
    · rw [e3]; exact begun_0
    · rw [e3]; exact begun_0
theorem r_189 (h : LW z x ad W n np T) (ph : W 3 0 0 = 2) (h12 : n ≤ 12) (hn : ∀ k, k < n → W 1 5 k = nI (k + 1)) (ha : a < n) (hI : osInj G) (hA : G.2.2.1 ≤ x) (hN : 5000 < N) {m0 : Int32} (hm : m0 = if uu (W 3) a = true ∧ ct (W 3 5) (W 3 6 a) < ct (W 3 6) (W 3 6 a) then 1 else 0)
    (kk : ∀ z' ad' W', LW z' x ad' W' n np T → W' 1 = W 1 → W' 3 0 0 = 2 → gx (c4 (x, x + 129, (1 : Int32), nI (j + 1)) G z') Q) : gx (qL_builds_189 N c4 x (x + 129) (1 : Int32) (nI j) (nI a) m0 G z) Q := by
  have h16 := h.n16
  have ha16 : a < 16 := by omega
  have h4 := h.i.m.p4
  subst hm
  unfold qL_builds_189
  refine gx_callE (q_L_units h.w h.c0 h12) (gx_itef (by decide) (t_remove h hA hI ha16 rfl (fun z2 s lo h2 f2 hlo hs => gx_bind ?_)))
  have hc : ∀ U, sE (W 3) U → ((uu U a = true ∧ ct (U 5) (U 6 a) < ct (U 6) (U 6 a)) ↔ (uu (W 3) a = true ∧ ct (W 3 5) (W 3 6 a) < ct (W 3 6) (W 3 6 a))) := fun U hU => by
    rw [sE_uu hU ha16, hU.2.1 6 (by omega) (by omega) a ha16, ct_cong (hU.2.1 5 (by omega) (by omega)), ct_cong (hU.2.1 6 (by omega) (by omega))]
  refine q_L_tell (F := ¬ (uu (W 3) a = true ∧ ct (W 3 5) (W 3 6 a) < ct (W 3 6) (W 3 6 a))) (R := fun r S' => r = 1 ∧ (uu (W 3) a = true ∧ ct (W 3 5) (W 3 6 a) < ct (W 3 6) (W 3 6 a)) ∧ ∃ U, sE (W 3) U ∧ S' = placed U a (-1) (-1)) h2 hs hlo hI hA hN (fun b' W1 z3 D U C E hb' e1 cx h3 t3 hsE => ?_) (fun v S' q => ?_) (fun z3 W1 hF f3 h3 ky e3 => ?_) (fun z3 ad3 W3 v f3 h3 ky q => ?_)
  · refine gx_mono (x_remove (a := a) cx h3 t3 (fun k hk => by rw [Nat.zero_add]; exact hb' k hk) (by rw [e1]; exact hn) ha (by rw [hsE.1 0 (by omega)]; exact ph)) (fun r z4 ⟨S', C', E', q1, q2⟩ => ⟨S', C', E', q1, ?_⟩)
    rcases q2 with ⟨q, q3⟩ | ⟨q, q3, q4, q5⟩
    · exact Or.inl ⟨q, fun r => q3 ((hc U hsE).mpr r)⟩
    · exact Or.inr ⟨q, q3, (hc U hsE).mp q4, U, hsE, q5⟩
  · obtain ⟨_, _, U, hsE, rfl⟩ := q
    exact stI_place (stI_sE hsE h16 h.i.i) (by rw [hsE.1 0 (by omega)]; exact ph) ha16 h4 (Or.inl ⟨rfl, rfl⟩)
  · rw [if_neg hF]
    refine gx_itef (by decide) ?_
    unfold qL_builds_243 qL_builds_264 qL_builds_273
    refine gx_itet rfl (gx_callE (q_L_units h3.w h3.c0 h12) (gx_itet rfl (gx_itet ?_ ?_)))
    · rw [e3]; exact (Int32.sub_zero _).symm
    · rw [nI_1]
      exact kk z3 ad W1 h3 ky.1 (by rw [e3]; exact ph)
  · obtain ⟨q1, q2, U, hsE, e3⟩ := q
    rw [if_pos q2]
    refine gx_itet q1 ?_
    unfold qL_builds_243 qL_builds_264 qL_builds_273
    have e2 := fb_ct_upd (uu (W 3)) false (i := a) (n := n) ha
    rw [q2.1, if_pos rfl, if_neg (by decide), Nat.add_zero] at e2
    have e4 : fb_ct (uu (W3 3)) n = fb_ct (fun k => if k = a then false else uu (W 3) k) n := fb_ct_cong (fun k hk => by
      rw [e3, uu_placed]
      by_cases q : k = a
      · rw [if_pos q, if_pos q]; rfl
      · rw [if_neg q, if_neg q]; exact sE_uu hsE (by omega))
    refine gx_itet rfl (gx_callE (q_L_units h3.w h3.c0 h12) (gx_itef (by decide) (gx_itet ?_ ?_)))
    · rw [show (1 : Int32) = nI 1 from rfl, nI_sub (by omega), e4]
      congr 1
      omega
    · rw [nI_1]
      refine kk z3 ad3 W3 h3 ky.1 ?_
      rw [e3]
      show U 0 0 = 2
      rw [hsE.1 0 (by omega)]; exact ph
/-- the law's builds -/
theorem q_L_builds (h : LW z x ad W n np T) (ph : W 3 0 0 = 2) (hnm : nmB (W 1) n) (h12 : n ≤ 12) (h1 : 0 < n) (hT : T < 4500) (hI : osInj G) (hA : G.2.2.1 ≤ x) (hN : 5000 < N)
    (kk : ∀ z' ad' W', LW z' x ad' W' n np (T + 1) → W' 1 = W 1 → W' 3 0 0 = 0 → Q 1 z') : gx (qL_builds N x (x + 129) G z) Q := by
  have h16 := h.n16
  have h4 := h.i.m.p4
  unfold qL_builds qL_builds_4
  refine gx_loop 6 (fun i p z' => p = (x, x + 129, (1 : Int32), nI i) ∧ ∃ ad' W', LW z' x ad' W' n np T ∧ W' 1 = W 1 ∧ W' 3 0 0 = 2) ?_ ?_ 7 0 _ z (Nat.zero_le _) (by omega) ⟨rfl, ad, W, h, rfl, ph⟩
  · rintro ih i p z' hi ⟨rfl, ad', W', h', e1, p1⟩ kc
    show gx (bL_builds_4 N ih x (x + 129) (1 : Int32) (nI i) G z') _
    unfold bL_builds_4
    refine gx_itef (nI_nleE (a := 6) (b := i) rfl rfl (by omega) (by omega)) (gx_itef (by decide) (l_next h' hA (fun z2 m hm h2 f2 => l_areas h2.w h2.c0 (gx_guard (fun q => by have := (nI_00 (by omega)).mp q; omega) ?_))))
    rw [nI_rem (by omega) (by omega) (by omega)]
    have ha : m % n < n := Nat.mod_lt _ (by omega)
    generalize m % n = a at ha
    refine gx_callE (q_L_units h2.w h2.c0 h12) (l_area (a := a) (c := 2) h2.w h2.c0 h16 ha (by omega) (by omega) rfl rfl (gx_itet (show W' 1 6 a = -1 by rw [e1]; exact hnm.2 a (by omega)) ?_))
    unfold qL_builds_83 qL_builds_84
    refine t_build h2 hA hI (by omega) rfl (fun z3 s lo h3 f3 hlo hs => gx_bind (q_L_tell (F := True) (R := fun _ _ => False) h3 hs hlo hI hA hN (fun b' W1 z4 D U C E hb' e1' cx h4' t4 hsE => ?_) (fun _ _ q => q.elim) (fun z4 W4 _ f4 h4' ky e3 => ?_) (fun _ _ _ _ _ _ _ q => q.elim)))
    · exact x_build (a := a) cx h4' t4 (fun k hk => by rw [Nat.zero_add]; exact hb' k hk) (by rw [e1', e1]; exact hnm.2) (by rw [hsE.1 0 (by omega)]; exact p1) (nu12 (stI_sE hsE h16 h'.i.i).j)
    · refine gx_itef (by decide) ?_
      unfold qL_builds_128 qL_builds_149
      refine gx_itet rfl (gx_callE (q_L_units h4'.w h4'.c0 h12) (gx_itet rfl (gx_itet ?_ ?_)))
      · rw [e3]; exact (Int32.add_zero _).symm
      unfold qL_builds_158 qL_builds_188
      have p4 : W4 3 0 0 = 2 := by rw [e3]; exact p1
      have e14 : W4 1 = W 1 := ky.1.trans e1
      have r189 : ∀ {m0 : Int32}, (m0 = if uu (W4 3) a = true ∧ ct (W4 3 5) (W4 3 6 a) < ct (W4 3 6) (W4 3 6 a) then 1 else 0) → gx (qL_builds_189 N ih x (x + 129) (1 : Int32) (nI i) (nI a) m0 G z4) Q := fun {m0} hm0 => r_189 h4' p4 h12 (by rw [e14]; exact hnm.1) ha hI hA hN hm0 (fun z5 ad5 W5 h5 q5 p5 => kc _ _ ⟨rfl, ad5, W5, h5, q5.trans e14, p5⟩)
      refine l_area (a := a) (c := 4) h4'.w h4'.c0 h16 ha (by omega) (by omega) rfl rfl (gx_ite (fun c => r189 ?_) (fun c => ?_))
      · have c : W4 3 6 a = -1 := c
        rw [if_neg (fun q => ?_)]
        have := q.1
        unfold uu at this
        rw [c] at this
        exact absurd this (by decide)
      · have c : ¬ W4 3 6 a = -1 := c
        have hu : uu (W4 3) a = true := by unfold uu; rw [decide_eq_false c]; rfl
        obtain ⟨_, ⟨pp, hp, ep⟩, _⟩ := h4'.i.i.j.u a (by omega) hu
        refine l_power3 (p := pp) h4'.w h4'.i hp ep hN (gx_ite (fun c2 => r189 ?_) (fun c2 => r189 ?_))
        · rw [if_neg (fun q => ?_)]
          rw [ep] at q
          exact bld_neg.mp c2 q.2
        · have c3 : ct (W4 3 5) (W4 3 6 a) < ct (W4 3 6) (W4 3 6 a) := by
            rw [ep]
            by_cases q : ct (W4 3 5) (nI pp) < ct (W4 3 6) (nI pp)
            · exact q
            · exact absurd (bld_neg.mpr q) c2
          rw [if_pos ⟨hu, c3⟩]
  · rintro ih p z' ⟨rfl, ad', W', h', e1, p1⟩
    show gx (bL_builds_4 N ih x (x + 129) (1 : Int32) (nI 6) G z') _
    unfold bL_builds_4
    exact gx_itet ((nI_leI (a := 6) (b := 6) (by omega) (by omega)).mpr (Nat.le_refl _)) (r_285 h' p1 h12 hT hA hN (fun z2 ad2 W2 h2 q2 p2 => kk z2 ad2 W2 h2 (q2.trans e1) p2))
end
