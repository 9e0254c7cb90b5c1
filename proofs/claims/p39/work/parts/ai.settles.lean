/-! the law's own steps (16): a settling watched: what is foreseen; the law's settles -/
def AR (k n i : Nat) (z : osS) (C S : Nat → Nat → Int32) : Prop := ∃ sn gl pw : Nat → Int32, z.1 k = some (.inl (0, (6 * n, .inl sn))) ∧ z.1 (k + 1) = some (.inl (0, (n, .inl gl))) ∧ z.1 (k + 2) = some (.inl (0, (n, .inl pw))) ∧ (∀ a c, a < i → c < 6 → c % 3 = a % 3 → sn (6 * a + c) = exW C S (seaF C S) (xF C S) a c) ∧ (∀ a, a < i → gl a = if mv S a = true then nI (gof S a) else -1) ∧ ∀ a, a < i → pw a = S 6 a
section
variable {G : osG} {z : osS} {N x k n np T : Nat} {ad : Nat → Nat} {W : Nat → Nat → Nat → Int32} {Q : Int32 → osS → Prop}
theorem g_24end (h : LW z x ad W n np T) (ph : W 3 0 0 = 0) (h12 : n ≤ 12) (hT : T < 4000) (hk : x + 130 ≤ k) (ha : AR k n n z (W 1) (W 3)) (hA : G.2.2.1 ≤ x) (hN : 5000 < N)
    (kk : ∀ z' ad' W', LW z' x ad' W' n np (T + 2) → W' 1 = W 1 → ¬ W' 3 2 0 = 0 → (∀ a, a < 16 → W' 3 11 a = -1) → Q 1 z') {ih : Nat × Int32 × Nat × Nat × Nat × Int32 → osM Int32} : gx (bL_settles_24 N ih x (nI n) k (k + 1) (k + 2) (nI n) G z) Q := by
  unfold bL_settles_24 qL_settles_171
  refine gx_itet ((nI_leI (by omega) (by omega)).mpr (Nat.le_refl _)) (gx_callE (q_L_sum h.w h.c0 h12) (gx_callE (q_L_units h.w h.c0 h12) (l_undoCount h.w (l_settleT h ph (by omega) hA hN (fun z2 ad2 W2 t f2 h2 et ht sc e1 tl => l_undoCount h2.w ?_)))))
  obtain ⟨Wr, s, v, T', rc, e9, hv, hs, hco, e3, hkk⟩ := id sc
  have n9 : W2 0 9 0 = nI (v + 1) := by rw [hkk 0 (by omega)]; exact rc.1
  refine gx_itet ?_ (g_176 (S := W 3) (C := W 1) (T := T + 1) (ad := ad2) (W := W2) ⟨⟨h2, h12, ?_⟩, fun a c ha16 hc => ?_, ?_, ⟨stI_T h.i.i (Nat.le_succ T), ph⟩, fun a ha16 hx => ?_⟩ (g_593 h ph h12 hT h2 et ht sc e1 tl hA hN kk))
  · rw [n9, e9, nI_1, show (6 : Int32) = nI 6 from rfl, osmin_nI (by omega) (by omega)]
    congr 1
    omega
  · rw [e3, endS_k (by omega) (by omega) (by omega) (by omega) (by omega) (by omega), hco.2.1]; decide
  · rw [e3, endS_k (by omega) (by omega) (by omega) (by omega) (by omega) (by omega)]
    exact hco.2.2.2.2.2.2.2.2.2 a c ha16 hc
  · obtain ⟨sn, gl, pw, a1, a2, a3, a4⟩ := ha
    exact ⟨sn, gl, pw, (f2.1 _ (by omega)).trans a1, (f2.1 _ (by omega)).trans a2, (f2.1 _ (by omega)).trans a3, a4⟩
  · rw [e3, endS_k (by omega) (by omega) (by omega) (by omega) (by omega) (by omega), hco.2.2.2.1.1 a ha16 hx]
    have := mv_uu (xF_in hx).2
    unfold uu at this
    simpa using this
theorem g_83 {z0 : osS} {W0 : Nat → Nat → Nat → Int32} {i : Nat} {g0 : Int32} {ih : Nat × Int32 × Nat × Nat × Nat × Int32 → osM Int32} (h : LW z x ad W n np T) (ph : W 3 0 0 = 0) (h12 : n ≤ 12) (hi : i < n) (hk : x + 130 ≤ k) {sn gl pw : Nat → Int32} (s1 : z.1 k = some (.inl (0, (6 * n, .inl sn)))) (s2 : z.1 (k + 1) = some (.inl (0, (n, .inl gl)))) (s3 : z.1 (k + 2) = some (.inl (0, (n, .inl pw))))
    (b1 : ∀ a c, a < i → c < 6 → c % 3 = a % 3 → sn (6 * a + c) = exW (W 1) (W 3) (seaF (W 1) (W 3)) (xF (W 1) (W 3)) a c) (b2 : ∀ a, a < i + 1 → gl a = if mv (W 3) a = true then nI (gof (W 3) a) else -1) (b3 : ∀ a, a < i + 1 → pw a = W 3 6 a) (hA : G.2.2.1 ≤ x) (hN : 5000 < N)
    (kc : ∀ z' W', LW z' x ad W' n np T → (∀ r, ¬ r = 5 → ¬ r = 6 → W' r = W r) → AR k n (i + 1) z' (W 1) (W 3) → gx (ih (x, nI n, k, k + 1, k + 2, nI (i + 1)) G z') Q) : gx (qL_settles_83 N ih (x, nI n, k, k + 1, k + 2, nI i, nI (i % 3)) G z) Q := by
  have h3 : i % 3 < 3 := Nat.mod_lt _ (by omega)
  unfold qL_settles_83
  refine gx_loop 2 (fun j p z' => p = (x, nI n, k, k + 1, k + 2, nI i, nI (i % 3 + 3 * j)) ∧ ∃ W', LW z' x ad W' n np T ∧ (∀ r, ¬ r = 5 → ¬ r = 6 → W' r = W r) ∧ ∃ sn, z'.1 k = some (.inl (0, (6 * n, .inl sn))) ∧ z'.1 (k + 1) = some (.inl (0, (n, .inl gl))) ∧ z'.1 (k + 2) = some (.inl (0, (n, .inl pw))) ∧ (∀ a c, a < i → c < 6 → c % 3 = a % 3 → sn (6 * a + c) = exW (W 1) (W 3) (seaF (W 1) (W 3)) (xF (W 1) (W 3)) a c) ∧ ∀ c, c < 6 → c % 3 = i % 3 → c < i % 3 + 3 * j → sn (6 * i + c) = exW (W 1) (W 3) (seaF (W 1) (W 3)) (xF (W 1) (W 3)) i c) ?_ ?_ 13 0 _ z (Nat.zero_le _) (by omega) ⟨rfl, W, h, fun _ _ _ => rfl, sn, s1, s2, s3, b1, fun c _ c2 c3 => by omega⟩
  · rintro ih2 j p z' hj ⟨rfl, W', h', kr, sn', t1, t2, t3, c1, c2⟩ k2
    show gx (bL_settles_83 N ih ih2 x (nI n) k (k + 1) (k + 2) (nI i) (nI (i % 3 + 3 * j)) G z') _
    unfold bL_settles_83
    have e1 : W' 1 = W 1 := kr 1 (by omega) (by omega)
    have e3 : W' 3 = W 3 := kr 3 (by omega) (by omega)
    refine gx_itef (nI_nleE (a := 6) (b := i % 3 + 3 * j) rfl rfl (by omega) (by omega)) (l_foresee (a := i) (c := i % 3 + 3 * j) h' hi (by omega) (by rw [e3]; exact ph) rfl rfl hA hN (fun z4 W4 f4 h4 kr4 => ?_))
    rw [e1, e3, show (6 : Int32) * nI i = nI (6 * i) from nI_prod (a := 6) (b := i) rfl rfl, nI_add]
    have u1 := (f4.1 k (by omega)).trans t1
    refine gx_sN (i := 6 * i + (i % 3 + 3 * j)) u1 (by omega) (by omega) (by omega) (k2 _ _ ⟨?_, W4, h4.far (fun c c1 c2 => osup_ne (by omega) rfl) h4.sz, fun r r5 r6 => (kr4 r r5 r6).trans (kr r r5 r6), _, osup_eq, (osup_ne (by omega) rfl).trans ((f4.1 _ (by omega)).trans t2), (osup_ne (by omega) rfl).trans ((f4.1 _ (by omega)).trans t3), fun a c ha hc hm => ?_, fun c hc hm hl => ?_⟩)
    · rw [show nI (i % 3 + 3 * j) + (3 : Int32) = nI (i % 3 + 3 * (j + 1)) from nI_sum (a := i % 3 + 3 * j) (b := 3) rfl rfl]
    · rw [upd_ne (by omega)]; exact c1 a c ha hc hm
    · by_cases e : c = i % 3 + 3 * j
      · subst e; rw [upd_eq]
      · rw [upd_ne (by omega)]; exact c2 c hc hm (by omega)
  · rintro ih2 p z' ⟨rfl, W', h', kr, sn', t1, t2, t3, c1, c2⟩
    show gx (bL_settles_83 N ih ih2 x (nI n) k (k + 1) (k + 2) (nI i) (nI (i % 3 + 3 * 2)) G z') _
    unfold bL_settles_83
    rw [nI_1]
    refine gx_itet ((nI_leI (a := 6) (b := i % 3 + 3 * 2) (by omega) (by omega)).mpr (by omega)) (kc z' W' h' kr ⟨sn', gl, pw, t1, t2, t3, fun a c ha hc hm => ?_, b2, b3⟩)
    by_cases e : a = i
    · subst e; exact c2 c hc hm (by omega)
    · exact c1 a c (by omega) hc hm
theorem q_L_settles (h : LW z x ad W n np T) (ph : W 3 0 0 = 0) (h12 : n ≤ 12) (hT : T < 4000) (hA : G.2.2.1 ≤ x) (hN : 5000 < N)
    (kk : ∀ z' ad' W', LW z' x ad' W' n np (T + 2) → W' 1 = W 1 → ¬ W' 3 2 0 = 0 → (∀ a, a < 16 → W' 3 11 a = -1) → Q 1 z') : gx (qL_settles N x G z) Q := by
  obtain ⟨k, hk, hkx⟩ := h.sz
  unfold qL_settles
  refine l_areas h.w h.c0 ?_
  rw [show (6 : Int32) * nI n = nI (6 * n) from nI_prod (a := 6) (b := n) rfl rfl]
  refine gx_newIn hk (by omega) (by omega) (by omega) (fun z1 d1 n1 f1 => gx_newIn f1 (by omega) (by omega) (by omega) (fun z2 d2 n2 f2 => gx_newIn f2 (by omega) (by omega) (by omega) (fun z3 d3 n3 f3 => ?_)))
  have L3 : LW z3 x ad W n np T := h.far (fun c c1 c2 => (n3 c (by omega)).trans ((n2 c (by omega)).trans (n1 c (by omega)))) ⟨_, f3, by omega⟩
  have ho := okO_of (h.i.i.o ph) h.n16
  unfold qL_settles_24
  refine gx_loop n (fun i p z' => p = (x, nI n, k, k + 1, k + 2, nI i) ∧ ∃ W', LW z' x ad W' n np T ∧ (∀ r, ¬ r = 5 → ¬ r = 6 → W' r = W r) ∧ AR k n i z' (W 1) (W 3)) ?_ ?_ 13 0 _ z3 (Nat.zero_le _) (by omega) ⟨rfl, W, L3, fun _ _ _ => rfl, fun _ => 0, fun _ => 0, fun _ => 0, (n3 k (by omega)).trans ((n2 k (by omega)).trans d1), (n3 (k + 1) (by omega)).trans d2, d3, fun a c q => by omega, fun a q => by omega, fun a q => by omega⟩
  · rintro ih i p z' hi ⟨rfl, W', h', kr, sn, gl, pw, s1, s2, s3, b1, b2, b3⟩ kc
    show gx (bL_settles_24 N ih x (nI n) k (k + 1) (k + 2) (nI i) G z') _
    unfold bL_settles_24
    have e1 : W' 1 = W 1 := kr 1 (by omega) (by omega)
    have e3 : W' 3 = W 3 := kr 3 (by omega) (by omega)
    refine gx_itef (nI_nleE (a := n) (b := i) rfl rfl hi (by omega)) (l_area (a := i) (c := 4) h'.w h'.c0 (by omega) hi (by omega) (by omega) rfl rfl (gx_sN (i := i) s3 hi (by omega) (by omega) (gx_aN (i := i) osup_eq hi (by omega) ?_)))
    rw [upd_eq]
    have L4 : LW (osup z' (k + 2) (.inl (0, (n, .inl (upd pw i (arV W' i 4)))))) x ad W' n np T := h'.far (fun c c1 c2 => osup_ne (by omega) rfl) h'.sz
    have fin : ∀ g0, (g0 = if mv (W 3) i = true then nI (gof (W 3) i) else -1) → gx (qL_settles_76 N ih x (nI n) k (k + 1) (k + 2) (nI i) g0 (nI i) (k + 1) G (osup z' (k + 2) (.inl (0, (n, .inl (upd pw i (arV W' i 4))))))) Q := fun g0 hg => by
      unfold qL_settles_76
      refine gx_sN (i := i) (show (osup z' (k + 2) _).1 (k + 1) = _ from (osup_ne (by omega) rfl).trans s2) hi (by omega) (by omega) (gx_guard (by decide) (gx_retb ?_))
      rw [show nI i - nI i / (3 : Int32) * (3 : Int32) = nI (i % 3) from nI_rem (b := 3) (by omega) (by omega) (by omega)]
      refine g_83 (z0 := z') (W0 := W) (g0 := g0) (W := W') (L4.far (fun c c1 c2 => osup_ne (by omega) rfl) L4.sz) (by rw [e3]; exact ph) h12 hi hkx (sn := sn) (gl := upd gl i g0) (pw := upd pw i (arV W' i 4)) ((osup_ne (by omega) rfl).trans ((osup_ne (by omega) rfl).trans s1)) osup_eq ((osup_ne (by omega) rfl).trans osup_eq) ?_ ?_ ?_ hA hN (fun z5 W5 h5 kr5 ha5 => kc _ _ ⟨rfl, W5, h5, fun r r5 r6 => (kr5 r r5 r6).trans (kr r r5 r6), by rw [e1, e3] at ha5; exact ha5⟩)
      · rw [e1, e3]; exact b1
      · intro a ha
        rw [e3]
        by_cases e : a = i
        · subst e; rw [upd_eq]; exact hg
        · rw [upd_ne e]; exact b2 a (by omega)
      · intro a ha
        rw [e3]
        by_cases e : a = i
        · subst e; rw [upd_eq]
          show W' 3 6 a = _
          rw [e3]
        · rw [upd_ne e]; exact b3 a (by omega)
    have v4 : arV W' i 4 = W 3 6 i := by
      show W' 3 6 i = _
      rw [e3]
    refine gx_ite (fun c => ?_) (fun c => ?_)
    · unfold qL_settles_75
      refine fin (-1) ?_
      rw [v4] at c
      rw [if_neg (fun q => ?_)]
      have := mv_uu q
      unfold uu at this
      rw [c] at this
      exact absurd this (by decide)
    · rw [v4] at c
      have hu : uu (W 3) i = true := by unfold uu; rw [decide_eq_false c]; rfl
      refine l_order (a := i) (c := 0) L4.w L4.c0 (by omega) hi (by rw [e3]; exact hu) (by rw [e3]; exact ph) (by omega) rfl rfl ?_
      rw [show W' 3 (12 + 0) i = W 3 12 i by rw [e3]]
      refine gx_ite (fun c2 => ?_) (fun c2 => ?_)
      · have hm : mv (W 3) i = true := by unfold mv; rw [decide_eq_false c, decide_eq_true c2]; rfl
        refine l_order (a := i) (c := 1) L4.w L4.c0 (by omega) hi (by rw [e3]; exact hu) (by rw [e3]; exact ph) (by omega) rfl rfl (fin _ ?_)
        rw [if_pos hm, show W' 3 (12 + 1) i = W 3 13 i by rw [e3]]
        exact (gof_in ho hm (by omega)).2
      · unfold qL_settles_75
        refine fin (-1) ?_
        rw [if_neg (fun q => ?_)]
        unfold mv at q
        rw [Bool.and_eq_true] at q
        exact c2 (of_decide_eq_true q.2)
  · rintro ih p z' ⟨rfl, W', h', kr, ha⟩
    have e1 : W' 1 = W 1 := kr 1 (by omega) (by omega)
    have e3 : W' 3 = W 3 := kr 3 (by omega) (by omega)
    show gx (bL_settles_24 N ih x (nI n) k (k + 1) (k + 2) (nI n) G z') _
    exact g_24end h' (by rw [e3]; exact ph) h12 hT hkx (by rw [e1, e3]; exact ha) hA hN (fun z2 ad2 W2 h2 q1 q2 q3 => kk z2 ad2 W2 h2 (q1.trans e1) q2 q3)
end
