/-! the law's own steps (14): a settling watched: each area's checks -/
/-- what stands after the settling: S was settled on C; the law's three arrays at k -/
def SX (x k n np T : Nat) (z : osS) (ad : Nat → Nat) (W : Nat → Nat → Nat → Int32) (C S : Nat → Nat → Int32) : Prop :=
  (LW z x ad W n np T ∧ n ≤ 12 ∧ ¬ W 3 2 0 = 0) ∧ (∀ a c, a < 16 → c < 6 → W 3 15 (6 * a + c) = exW C S (seaF C S) (xF C S) a c) ∧
  (∃ sn gl pw : Nat → Int32, z.1 k = some (.inl (0, (6 * n, .inl sn))) ∧ z.1 (k + 1) = some (.inl (0, (n, .inl gl))) ∧ z.1 (k + 2) = some (.inl (0, (n, .inl pw))) ∧ (∀ a c, a < n → c < 6 → c % 3 = a % 3 → sn (6 * a + c) = exW C S (seaF C S) (xF C S) a c) ∧ (∀ a, a < n → gl a = if mv S a = true then nI (gof S a) else -1) ∧ ∀ a, a < n → pw a = S 6 a) ∧
  (stI C S n np T ∧ S 0 0 = 0) ∧ ∀ a, a < 16 → xF C S a = true → ¬ W 3 6 (gof S a) = -1
section
variable {G : osG} {z : osS} {N x k n np T i : Nat} {ad : Nat → Nat} {W : Nat → Nat → Nat → Int32} {C S : Nat → Nat → Int32} {Q : Int32 → osS → Prop} {l5 l6 l8 l9 l10 : Int32} {c176 : Nat × Int32 × Nat × Nat × Nat × Int32 × Int32 × Int32 × Int32 × Int32 × Int32 × Int32 → osM Int32}
theorem SX.w (h : SX x k n np T z ad W C S) : WD z x ad W z := h.1.1.w
theorem SX.h12 (h : SX x k n np T z ad W C S) : n ≤ 12 := h.1.2.1
theorem SX.ho (h : SX x k n np T z ad W C S) : okO S := okO_of (h.2.2.2.1.1.o h.2.2.2.1.2) h.1.1.n16
theorem SX.uin (h : SX x k n np T z ad W C S) {a : Nat} (ha : a < 16) (hu : uu S a = true) : a < n := (h.2.2.2.1.1.j.u a ha hu).1
theorem SX.gin (h : SX x k n np T z ad W C S) {a : Nat} (ha : a < 16) (hm : mv S a = true) : gof S a < n := by
  have hk0 : ¬ S 12 a = 0 := by unfold mv at hm; simp at hm; rw [hm.2]; decide
  exact ((h.2.2.2.1.1.o h.2.2.2.1.2 a ha (mv_uu hm)).2.2.1 hk0).2
theorem SX.res (h : SX x k n np T z ad W C S) {f : Int32 → osM Int32} {v w : Int32} (a c : Nat) (ev : v = nI a) (ew : w = nI c) (ha : a < n) (hc : c < 6) (kk : gx (f (exW C S (seaF C S) (xF C S) a c) G z) Q) : gx (osbind (osrecv [7] x (osRV (qX9_result N x v w))) f G z) Q := by
  have h12 := h.h12
  refine l_result (a := a) (c := c) h.w h.1.1.c0 (by omega) ha h.1.2.2 hc ev ew ?_
  rw [h.2.1 a c (by omega) hc]; exact kk
theorem SX.goal (h : SX x k n np T z ad W C S) {f : Int32 → osM Int32} (a : Nat) (ha : a < n) (kk : gx (f (if mv S a = true then nI (gof S a) else -1) G z) Q) : gx (osbind (osaI 0 (k + 1) (nI a)) f G z) Q := by
  have h12 := h.h12
  obtain ⟨sn, gl, pw, h1, h2, h3, e1, e2, e3⟩ := h.2.2.1
  refine gx_aN (i := a) h2 ha (by omega) ?_
  rw [e2 a ha]; exact kk
theorem SX.pow (h : SX x k n np T z ad W C S) {f : Int32 → osM Int32} (a : Nat) (ha : a < n) (kk : gx (f (S 6 a) G z) Q) : gx (osbind (osaI 0 (k + 2) (nI a)) f G z) Q := by
  have h12 := h.h12
  obtain ⟨sn, gl, pw, h1, h2, h3, e1, e2, e3⟩ := h.2.2.1
  refine gx_aN (i := a) h3 ha (by omega) ?_
  rw [e3 a ha]; exact kk
theorem SX.seen (h : SX x k n np T z ad W C S) {f : Int32 → osM Int32} {v : Int32} (a c : Nat) (ev : v = nI (6 * a + c)) (ha : a < n) (hc : c < 6) (h3 : c % 3 = a % 3) (kk : gx (f (exW C S (seaF C S) (xF C S) a c) G z) Q) : gx (osbind (osaI 0 k v) f G z) Q := by
  subst ev
  have h12 := h.h12
  obtain ⟨sn, gl, pw, h1, h2, h4, e1, e2, e3⟩ := h.2.2.1
  refine gx_aN (i := 6 * a + c) h1 (by omega) (by omega) ?_
  rw [e1 a c ha hc h3]; exact kk
theorem g_587 (kk : gx (c176 (x, nI n, k, k + 1, k + 2, l5, l6, l8, l9, l10, (1 : Int32), nI (i + 1)) G z) Q) : gx (qL_settles_587 N c176 x (nI n) k (k + 1) (k + 2) l5 l6 l8 l9 l10 (1 : Int32) (nI i) G z) Q := by
  unfold qL_settles_587
  rw [nI_1]; exact kk
/-- who was dislodged: by whom -/
theorem g_520 (h : SX x k n np T z ad W C S) (hi : i < n) (hd : disl S (xF C S) i = true) (kk : gx (c176 (x, nI n, k, k + 1, k + 2, l5, l6, l8, l9, l10, (1 : Int32), nI (i + 1)) G z) Q) : gx (qL_settles_520 N c176 (x, nI n, k, k + 1, k + 2, l5, l6, l8, l9, l10, nI i, (-1 : Int32), (0 : Int32)) G z) Q := by
  have h12 := h.h12
  unfold qL_settles_520
  refine gx_loop n (fun j p z' => ∃ f : Int32, p = (x, nI n, k, k + 1, k + 2, l5, l6, l8, l9, l10, nI i, f, nI j) ∧ z' = z ∧ ((f = -1 ∧ ∀ b, b < j → ¬ (xF C S b = true ∧ gof S b = i)) ∨ ∃ b, b < n ∧ f = nI b ∧ xF C S b = true ∧ gof S b = i)) ?_ ?_ 13 0 _ z (Nat.zero_le _) (by omega) ⟨-1, rfl, rfl, Or.inl ⟨rfl, fun b hb => by omega⟩⟩
  · rintro ih j p z' hj ⟨f, rfl, rfl, hf⟩ kc
    show gx (bL_settles_520 N c176 ih x (nI n) k (k + 1) (k + 2) l5 l6 l8 l9 l10 (nI i) f (nI j) G z') _
    unfold bL_settles_520 qL_settles_551 qL_settles_553
    refine gx_itef (nI_nleE (a := n) (b := j) rfl rfl hj (by omega)) (h.goal j hj ?_)
    rw [nI_1]
    have no : ¬ (xF C S j = true ∧ gof S j = i) → gx (ih (x, nI n, k, k + 1, k + 2, l5, l6, l8, l9, l10, nI i, f, nI (j + 1)) G z') Q := fun hno => kc _ _ ⟨f, rfl, rfl, by
      rcases hf with ⟨e, q⟩ | q
      · refine Or.inl ⟨e, fun b hb => ?_⟩
        by_cases c : b = j
        · rw [c]; exact hno
        · exact q b (by omega)
      · exact Or.inr q⟩
    refine gx_ite (fun c => ?_) (fun c => no (fun q => c ?_))
    · refine h.res j 0 rfl rfl hj (by omega) (gx_ite (fun c2 => ?_) (fun c2 => no (fun q => c2 (exW_0.mpr q.1))))
      refine kc _ _ ⟨nI j, rfl, rfl, Or.inr ⟨j, hj, rfl, exW_0.mp c2, ?_⟩⟩
      rw [if_pos (xF_in (exW_0.mp c2)).2] at c
      have g16 := (gof_in h.ho (xF_in (exW_0.mp c2)).2 (by omega)).1
      exact (nI_eq (by omega) (by omega)).mp c
    · rw [if_pos (xF_in q.1).2, q.2]
  · rintro ih p z' ⟨f, rfl, rfl, hf⟩
    show gx (bL_settles_520 N c176 ih x (nI n) k (k + 1) (k + 2) l5 l6 l8 l9 l10 (nI i) f (nI n) G z') _
    unfold bL_settles_520 qL_settles_584 qL_settles_585
    refine gx_itet ((nI_leI (by omega) (by omega)).mpr (Nat.le_refl _)) ?_
    have hd2 := hd
    unfold disl at hd2
    rw [Bool.and_eq_true, Bool.and_eq_true] at hd2
    obtain ⟨b0, hb0, r⟩ := exn_iff.mp hd2.2.2
    rw [Bool.and_eq_true] at r
    have hb0n : b0 < n := h.uin hb0 (mv_uu (xF_in r.1).2)
    rcases hf with ⟨_, q⟩ | ⟨b, hb, rfl, xb, gb⟩
    · exact absurd ⟨r.1, of_decide_eq_true r.2⟩ (q b0 hb0n)
    · refine gx_itef (nI_m1 (by omega)) (h.pow b hb (h.pow i hi (gx_itef (fun e => ?_) (g_587 kk))))
      refine xF_foe xb (by rw [gb]; exact hd) ?_
      rw [gb]; exact e.symm
theorem g_498 (h : SX x k n np T z ad W C S) (hi : i < n) (kk : gx (c176 (x, nI n, k, k + 1, k + 2, l5, l6, l8, l9, l10, (1 : Int32), nI (i + 1)) G z) Q) : gx (qL_settles_498 N c176 x (nI n) k (k + 1) (k + 2) l5 l6 l8 l9 l10 (1 : Int32) (nI i) G z) Q := by
  unfold qL_settles_498
  refine gx_itef (by decide) (h.res i 1 rfl rfl hi (by omega) (gx_ite (fun c => ?_) (fun _ => g_587 kk)))
  refine g_520 h hi ?_ kk
  cases q : disl S (xF C S) i
  · rw [exW_1, q] at c; exact absurd c (by decide)
  · rfl
theorem g_491 (h : SX x k n np T z ad W C S) (hi : i < n) (kk : gx (c176 (x, nI n, k, k + 1, k + 2, l5, l6, l8, l9, l10, (1 : Int32), nI (i + 1)) G z) Q) : gx (qL_settles_491 N c176 x (nI n) k (k + 1) (k + 2) l5 l6 l8 l9 l10 (nI i) G z) Q := by
  unfold qL_settles_491 qL_settles_496
  exact g_498 h hi kk
theorem g_466 (h : SX x k n np T z ad W C S) (hi : i < n) (hx : xF C S i = true) (kk : gx (c176 (x, nI n, k, k + 1, k + 2, l5, l6, l8, l9, l10, (1 : Int32), nI (i + 1)) G z) Q) : gx (qL_settles_466 N c176 x (nI n) k (k + 1) (k + 2) l5 l6 l8 l9 l10 (nI i) (nI (gof S i)) G z) Q := by
  have h12 := h.h12
  have hg := h.gin (by omega) (xF_in hx).2
  unfold qL_settles_466
  refine h.res i 3 rfl rfl hi (by omega) (h.res (gof S i) 2 rfl rfl hg (by omega) (gx_ite (fun _ => g_491 h hi kk) (fun c => h.goal (gof S i) hg ?_)))
  cases hm : mv S (gof S i)
  · have h1 := xF_hold hx hm
    obtain ⟨e3, p3, l3⟩ := exW_3 hx
    rw [e3, exW_s] at c
    exact absurd ((nI_ltI (by omega) (by omega)).mpr h1) c
  · rw [if_pos rfl]
    have := (gof_in h.ho hm (by omega)).1
    exact gx_itef (nI_m1 (by omega)) (g_491 h hi kk)
theorem g_397 (h : SX x k n np T z ad W C S) (hi : i < n) (kk : gx (c176 (x, nI n, k, k + 1, k + 2, l5, l6, l8, l9, l10, (1 : Int32), nI (i + 1)) G z) Q) : gx (qL_settles_392 N c176 x (nI n) k (k + 1) (k + 2) l5 l6 l8 l9 l10 (nI i) (exW C S (seaF C S) (xF C S) i 0) G z) Q := by
  have h12 := h.h12
  unfold qL_settles_392 qL_settles_397
  refine gx_itef (by decide) (gx_ite (fun c => ?_) (fun _ => g_498 h hi kk))
  have hx := exW_0.mp c
  have hg := h.gin (by omega) (xF_in hx).2
  refine h.goal i hi ?_
  rw [if_pos (xF_in hx).2]
  obtain ⟨e3, p3, l3⟩ := exW_3 hx
  refine l_area (a := gof S i) (c := 4) h.w h.1.1.c0 (by omega) hg (by omega) (by omega) rfl rfl (gx_itef (h.2.2.2.2 i (by omega) hx) (h.res i 3 rfl rfl hi (by omega) (gx_itef (fun q => ?_) (h.goal (gof S i) hg (gx_ite (fun _ => ?_) (fun _ => g_466 h hi hx kk))))))
  · rw [e3] at q
    have := (nI_leI (a := att C S (seaF C S) (xF C S) i) (b := 0) (by omega) (by omega)).mp q
    omega
  · refine h.res i 5 rfl rfl hi (by omega) (gx_ite (fun _ => h.res (gof S i) 5 rfl rfl hg (by omega) (gx_ite (fun _ => g_491 h hi kk) (fun _ => g_466 h hi hx kk))) (fun _ => g_466 h hi hx kk))
theorem g_352 (h : SX x k n np T z ad W C S) (hi : i < n) {q : Int32} (hq : q = if exW C S (seaF C S) (xF C S) i 0 = 2 then 1 else 0) (kk : gx (c176 (x, nI n, k, k + 1, k + 2, l5, l6, l8, l9, l10, (1 : Int32), nI (i + 1)) G z) Q) : gx (qL_settles_352 N c176 x (nI n) k (k + 1) (k + 2) l5 l6 l8 l9 l10 (nI i) (exW C S (seaF C S) (xF C S) i 0) q G z) Q := by
  subst hq
  unfold qL_settles_352
  have fin : gx (osbind (osrecv [7] x (osRV (qX9_result N x (nI i) (1 : Int32)))) (fun x1 => osite (x1 = 0) (qL_settles_392 N c176 x (nI n) k (k + 1) (k + 2) l5 l6 l8 l9 l10 (nI i) (exW C S (seaF C S) (xF C S) i 0)) (osite (exW C S (seaF C S) (xF C S) i 0 = (1 : Int32)) (qL_settles_396 N c176 x (nI n) k (k + 1) (k + 2) l5 l6 l8 l9 l10 (nI i) (exW C S (seaF C S) (xF C S) i 0)) (osite (exW C S (seaF C S) (xF C S) i 0 = (3 : Int32)) (qL_settles_396 N c176 x (nI n) k (k + 1) (k + 2) l5 l6 l8 l9 l10 (nI i) (exW C S (seaF C S) (xF C S) i 0)) (qL_settles_392 N c176 x (nI n) k (k + 1) (k + 2) l5 l6 l8 l9 l10 (nI i) (exW C S (seaF C S) (xF C S) i 0))))) G z) Q := by
    refine h.res i 1 rfl rfl hi (by omega) (gx_ite (fun _ => g_397 h hi kk) (fun c => ?_))
    have hd : disl S (xF C S) i = true := by
      cases r : disl S (xF C S) i
      · rw [exW_1, r] at c; exact absurd rfl c
      · rfl
    exact gx_itef (exW_d hd).1 (gx_itef (exW_d hd).2 (g_397 h hi kk))
  refine h.res i 4 rfl rfl hi (by omega) (gx_ite (fun c => ?_) (fun c => ?_))
  · unfold qL_settles_367
    refine gx_itet ?_ fin
    rw [if_neg (fun q => exW_4.mp c (exW_2.mp q))]
  · unfold qL_settles_367
    refine gx_itet ?_ fin
    by_cases r : mv S i = true ∧ xF C S i = false
    · rw [if_pos (exW_2.mpr r)]
    · exact absurd (exW_4.mpr r) c
theorem g_325 (h : SX x k n np T z ad W C S) (hi : i < n) {q : Int32} (hq : q = if mv S i = true then 1 else 0) (kk : gx (c176 (x, nI n, k, k + 1, k + 2, l5, l6, l8, l9, l10, (1 : Int32), nI (i + 1)) G z) Q) : gx (qL_settles_325 N c176 x (nI n) k (k + 1) (k + 2) l5 l6 l8 l9 l10 (nI i) (exW C S (seaF C S) (xF C S) i 0) q G z) Q := by
  subst hq
  have h12 := h.h12
  unfold qL_settles_325
  have fin : gx (osite (exW C S (seaF C S) (xF C S) i 0 = (2 : Int32)) (qL_settles_352 N c176 x (nI n) k (k + 1) (k + 2) l5 l6 l8 l9 l10 (nI i) (exW C S (seaF C S) (xF C S) i 0) (1 : Int32)) (qL_settles_352 N c176 x (nI n) k (k + 1) (k + 2) l5 l6 l8 l9 l10 (nI i) (exW C S (seaF C S) (xF C S) i 0) (0 : Int32)) G z) Q :=
    gx_ite (fun c => g_352 h hi (by rw [if_pos c]) kk) (fun c => g_352 h hi (by rw [if_neg c]) kk)
  refine h.goal i hi ?_
  cases hm : mv S i
  · exact gx_itet rfl (by unfold qL_settles_338; exact gx_itet rfl fin)
  · rw [if_pos rfl]
    have := (gof_in h.ho hm (by omega)).1
    refine gx_itef (nI_m1 (by omega)) ?_
    unfold qL_settles_338
    exact gx_itet rfl fin
theorem g_291 (h : SX x k n np T z ad W C S) (hi : i < n) {q : Int32} (hq : q = if exW C S (seaF C S) (xF C S) i 0 = 0 then 1 else 0) (kk : gx (c176 (x, nI n, k, k + 1, k + 2, l5, l6, l8, l9, l10, (1 : Int32), nI (i + 1)) G z) Q) : gx (qL_settles_291 N c176 x (nI n) k (k + 1) (k + 2) l5 l6 l8 l9 l10 (nI i) (exW C S (seaF C S) (xF C S) i 0) q G z) Q := by
  subst hq
  have h12 := h.h12
  unfold qL_settles_291
  have fin : gx (osite (exW C S (seaF C S) (xF C S) i 0 = (1 : Int32)) (qL_settles_320 N c176 x (nI n) k (k + 1) (k + 2) l5 l6 l8 l9 l10 (nI i) (exW C S (seaF C S) (xF C S) i 0)) (osite (exW C S (seaF C S) (xF C S) i 0 = (2 : Int32)) (qL_settles_320 N c176 x (nI n) k (k + 1) (k + 2) l5 l6 l8 l9 l10 (nI i) (exW C S (seaF C S) (xF C S) i 0)) (qL_settles_325 N c176 x (nI n) k (k + 1) (k + 2) l5 l6 l8 l9 l10 (nI i) (exW C S (seaF C S) (xF C S) i 0) (0 : Int32))) G z) Q := by
    unfold qL_settles_320
    refine gx_ite (fun c => g_325 h hi ?_ kk) (fun c => gx_ite (fun c2 => g_325 h hi ?_ kk) (fun c2 => g_325 h hi ?_ kk))
    · rw [if_pos (xF_in (exW_0.mp c)).2]
    · rw [if_pos (exW_2.mp c2).1]
    · cases hm : mv S i
      · rfl
      · cases hx : xF C S i
        · exact absurd (exW_2.mpr ⟨hm, hx⟩) c2
        · exact absurd (exW_0.mpr hx) c
  refine h.pow i hi (gx_ite (fun c => ?_) (fun c => ?_))
  · unfold qL_settles_305
    refine gx_itet ?_ fin
    rw [if_pos (exW_00.mpr (by unfold uu; rw [decide_eq_true c]; rfl))]
  · unfold qL_settles_305
    refine gx_itet ?_ fin
    rw [if_neg (fun r => ?_)]
    have := exW_00.mp r
    unfold uu at this
    rw [decide_eq_false c] at this
    cases this
theorem g_261 (h : SX x k n np T z ad W C S) (hi : i < n) {q : Int32} (hq : q = if xF C S i = true then 1 else 0) (kk : gx (c176 (x, nI n, k, k + 1, k + 2, l5, l6, l8, nI (fb_ct (xF C S) (i + 1)), nI (fb_ct (disl S (xF C S)) (i + 1)), (1 : Int32), nI (i + 1)) G z) Q) : gx (qL_settles_261 N c176 x (nI n) k (k + 1) (k + 2) l5 l6 l8 (nI (fb_ct (disl S (xF C S)) i)) (1 : Int32) (nI i) (exW C S (seaF C S) (xF C S) i 0) q (nI (fb_ct (xF C S) i)) G z) Q := by
  subst hq
  unfold qL_settles_261
  refine h.res i 1 rfl rfl hi (by omega) (gx_itef (by decide) ?_)
  have e1 : nI (fb_ct (xF C S) i) + (if xF C S i = true then (1 : Int32) else 0) = nI (fb_ct (xF C S) (i + 1)) := by
    rw [fb_ct_succ]
    cases xF C S i
    · exact nI_sum (b := 0) rfl rfl
    · exact nI_sum (b := 1) rfl rfl
  have e2 : nI (fb_ct (disl S (xF C S)) i) + exW C S (seaF C S) (xF C S) i 1 = nI (fb_ct (disl S (xF C S)) (i + 1)) := by
    rw [fb_ct_succ, exW_1]
    cases disl S (xF C S) i
    · exact nI_sum (b := 0) rfl rfl
    · exact nI_sum (b := 1) rfl rfl
  rw [e1, e2]
  exact gx_ite (fun c => g_291 h hi (by rw [if_pos c]) kk) (fun c => g_291 h hi (by rw [if_neg c]) kk)
theorem g_193 (h : SX x k n np T z ad W C S) (hi : i < n) (kk : gx (c176 (x, nI n, k, k + 1, k + 2, l5, l6, l8, nI (fb_ct (xF C S) (i + 1)), nI (fb_ct (disl S (xF C S)) (i + 1)), (1 : Int32), nI (i + 1)) G z) Q) : gx (qL_settles_193 N c176 (x, nI n, k, k + 1, k + 2, l5, l6, l8, nI (fb_ct (xF C S) i), nI (fb_ct (disl S (xF C S)) i), (1 : Int32), nI i, nI (i % 3)) G z) Q := by
  have h12 := h.h12
  have h3 : i % 3 < 3 := Nat.mod_lt _ (by omega)
  unfold qL_settles_193
  refine gx_loop 2 (fun j p z' => p = (x, nI n, k, k + 1, k + 2, l5, l6, l8, nI (fb_ct (xF C S) i), nI (fb_ct (disl S (xF C S)) i), (1 : Int32), nI i, nI (i % 3 + 3 * j)) ∧ z' = z) ?_ ?_ 13 0 _ z (Nat.zero_le _) (by omega) ⟨rfl, rfl⟩
  · rintro ih j p z' hj ⟨rfl, rfl⟩ kc
    show gx (bL_settles_193 N c176 ih x (nI n) k (k + 1) (k + 2) l5 l6 l8 (nI (fb_ct (xF C S) i)) (nI (fb_ct (disl S (xF C S)) i)) (1 : Int32) (nI i) (nI (i % 3 + 3 * j)) G z') _
    unfold bL_settles_193 qL_settles_231
    refine gx_itef (nI_nleE (a := 6) (b := i % 3 + 3 * j) rfl rfl (by omega) (by omega)) (gx_itef (by decide) (h.res i (i % 3 + 3 * j) rfl rfl hi (by omega) (h.seen i (i % 3 + 3 * j) ?_ hi (by omega) (by omega) (gx_itet rfl (kc _ _ ⟨?_, rfl⟩)))))
    · rw [show (6 : Int32) * nI i = nI (6 * i) from nI_prod (a := 6) (b := i) rfl rfl, nI_add]
    · rw [show nI (i % 3 + 3 * j) + (3 : Int32) = nI (i % 3 + 3 * (j + 1)) from nI_sum (a := i % 3 + 3 * j) (b := 3) rfl rfl]
  · rintro ih p z' ⟨rfl, rfl⟩
    show gx (bL_settles_193 N c176 ih x (nI n) k (k + 1) (k + 2) l5 l6 l8 (nI (fb_ct (xF C S) i)) (nI (fb_ct (disl S (xF C S)) i)) (1 : Int32) (nI i) (nI (i % 3 + 3 * 2)) G z') _
    unfold bL_settles_193
    refine gx_itet ((nI_leI (a := 6) (b := i % 3 + 3 * 2) (by omega) (by omega)).mpr (by omega)) (h.res i 0 rfl rfl hi (by omega) (gx_ite (fun c => g_261 h hi (by rw [if_pos (exW_0.mp c)]) kk) (fun c => g_261 h hi (by rw [if_neg (fun q => c (exW_0.mpr q))]) kk)))
end
