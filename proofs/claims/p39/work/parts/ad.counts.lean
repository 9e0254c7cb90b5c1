/-! the law's own steps (11): what it counts; the orders -/
section
variable {α : Type} {G : osG} {z : osS} {N x n np T : Nat} {ad : Nat → Nat} {W : Nat → Nat → Nat → Int32} {D : osS} {f : Int32 → osM α} {Q : α → osS → Prop}
theorem q_L_units (hw : WD z x ad W D) (h0 : W 1 0 0 = nI n) (h12 : n ≤ 12) : qL_units_ N x G z = some (nI (fb_ct (uu (W 3)) n), z) := by
  refine gx_eq ?_
  unfold qL_units_ qL_units__4
  refine gx_loop n (fun i p z' => p = (x, nI (fb_ct (uu (W 3)) i), nI i) ∧ z' = z) ?_ ?_ 13 0 _ z (Nat.zero_le _) (by omega) ⟨rfl, rfl⟩
  · rintro ih i p z' hi ⟨rfl, rfl⟩ k
    show gx (bL_units__4 N ih x (nI (fb_ct (uu (W 3)) i)) (nI i) G z') _
    unfold bL_units__4 qL_units__28
    have hle := fb_ct_le (uu (W 3)) i
    refine l_areas hw h0 (gx_itef (nI_nleE (a := n) (b := i) rfl rfl hi (by omega)) (l_area (a := i) (c := 4) hw h0 (by omega) hi (by omega) (by omega) rfl rfl ?_))
    refine gx_ite (fun c => ?_) (fun c => ?_)
    · have : uu (W 3) i = false := by unfold uu; rw [decide_eq_true (show W 3 6 i = -1 from c)]; rfl
      refine k _ _ ⟨?_, rfl⟩
      rw [fb_ct_succ, this, nI_1, show nI (fb_ct (uu (W 3)) i) + (0 : Int32) = nI (fb_ct (uu (W 3)) i + 0) from nI_sum (b := 0) rfl rfl]; rfl
    · have : uu (W 3) i = true := by unfold uu; rw [decide_eq_false (show ¬ W 3 6 i = -1 from c)]; rfl
      refine k _ _ ⟨?_, rfl⟩
      rw [fb_ct_succ, this, nI_1, nI_1]; rfl
  · rintro ih p z' ⟨rfl, rfl⟩
    show gx (bL_units__4 N ih x (nI (fb_ct (uu (W 3)) n)) (nI n) G z') _
    unfold bL_units__4
    exact l_areas hw h0 (gx_itet ((nI_leI (by omega) (by omega)).mpr (Nat.le_refl _)) (gx_ret ⟨rfl, rfl⟩))
theorem q_L_aside (hw : WD z x ad W D) (h0 : W 1 0 0 = nI n) (h12 : n ≤ 12) : qL_aside N x G z = some (nI (fb_ct (ds (W 3)) n), z) := by
  refine gx_eq ?_
  unfold qL_aside qL_aside_4
  refine gx_loop n (fun i p z' => p = (x, nI (fb_ct (ds (W 3)) i), nI i) ∧ z' = z) ?_ ?_ 13 0 _ z (Nat.zero_le _) (by omega) ⟨rfl, rfl⟩
  · rintro ih i p z' hi ⟨rfl, rfl⟩ k
    show gx (bL_aside_4 N ih x (nI (fb_ct (ds (W 3)) i)) (nI i) G z') _
    unfold bL_aside_4 qL_aside_29
    have hle := fb_ct_le (ds (W 3)) i
    refine l_areas hw h0 (gx_itef (nI_nleE (a := n) (b := i) rfl rfl hi (by omega)) (l_area (a := i) (c := 6) hw h0 (by omega) hi (by omega) (by omega) rfl rfl ?_))
    refine gx_ite (fun c => ?_) (fun c => ?_)
    · have : ds (W 3) i = false := by unfold ds; rw [decide_eq_true (show W 3 8 i = -1 from c)]; rfl
      refine k _ _ ⟨?_, rfl⟩
      rw [fb_ct_succ, this, nI_1, show nI (fb_ct (ds (W 3)) i) + (0 : Int32) = nI (fb_ct (ds (W 3)) i + 0) from nI_sum (b := 0) rfl rfl]; rfl
    · have : ds (W 3) i = true := by unfold ds; rw [decide_eq_false (show ¬ W 3 8 i = -1 from c)]; rfl
      refine k _ _ ⟨?_, rfl⟩
      rw [fb_ct_succ, this, nI_1, nI_1]; rfl
  · rintro ih p z' ⟨rfl, rfl⟩
    show gx (bL_aside_4 N ih x (nI (fb_ct (ds (W 3)) n)) (nI n) G z') _
    unfold bL_aside_4
    exact l_areas hw h0 (gx_itet ((nI_leI (by omega) (by omega)).mpr (Nat.le_refl _)) (gx_ret ⟨rfl, rfl⟩))
/-- the sum of a state -/
def smA (W : Nat → Nat → Nat → Int32) (a : Nat) (s : Int32) (m : Nat) : Int32 := osit (fun c s => (31 : Int32) * s + arV W a (2 + c)) 0 m s
def smV (W : Nat → Nat → Nat → Int32) (m : Nat) : Int32 := osit (fun a s => smA W a s 6) 0 m ((7 : Int32) * W 3 0 0 + (31 : Int32) * W 3 1 0)
theorem smV_cong {W' : Nat → Nat → Nat → Int32} {m : Nat} (e0 : W' 3 0 0 = W 3 0 0) (e1 : W' 3 1 0 = W 3 1 0) (e : ∀ a c, a < m → 2 ≤ c → c < 8 → arV W' a c = arV W a c) : smV W' m = smV W m := by
  unfold smV
  rw [e0, e1]
  refine osit_congr (fun a b _ ha => ?_)
  unfold smA
  refine osit_congr (fun c b _ hc => ?_)
  rw [e a (2 + c) (by omega) (by omega) (by omega)]
theorem q_L_sum (hw : WD z x ad W D) (h0 : W 1 0 0 = nI n) (h12 : n ≤ 12) : qL_sum N x G z = some (smV W n, z) := by
  refine gx_eq ?_
  unfold qL_sum qL_sum_18
  refine l_phase hw (l_turn hw (gx_retb ?_))
  refine gx_loop n (fun i p z' => p = (x, smV W i, nI i) ∧ z' = z) ?_ ?_ 13 0 _ z (Nat.zero_le _) (by omega) ⟨by unfold smV; rw [osit_zero]; rfl, rfl⟩
  · rintro ih i p z' hi ⟨rfl, rfl⟩ k
    show gx (bL_sum_18 N ih x (smV W i) (nI i) G z') _
    unfold bL_sum_18 qL_sum_28
    refine l_areas hw h0 (gx_itef (nI_nleE (a := n) (b := i) rfl rfl hi (by omega)) ?_)
    refine gx_loop 6 (fun c p z2 => p = (x, smA W i (smV W i) c, nI i, nI (2 + c)) ∧ z2 = z') ?_ ?_ 7 0 _ z' (Nat.zero_le _) (by omega) ⟨by unfold smA; rw [osit_zero]; rfl, rfl⟩
    · rintro ih2 c p z2 hc ⟨rfl, rfl⟩ k2
      show gx (bL_sum_28 N ih ih2 x (smA W i (smV W i) c) (nI i) (nI (2 + c)) G z2) _
      unfold bL_sum_28
      refine gx_itef (nI_nleE (a := 8) (b := 2 + c) rfl rfl (by omega) (by omega)) (l_area (a := i) (c := 2 + c) hw h0 (by omega) hi (by omega) (by omega) rfl rfl (gx_retb (k2 _ _ ⟨?_, rfl⟩)))
      rw [nI_1, show smA W i (smV W i) (c + 1) = (31 : Int32) * smA W i (smV W i) c + arV W i (2 + c) by unfold smA; rw [osit_last, Nat.zero_add]]
      rfl
    · rintro ih2 p z2 ⟨rfl, rfl⟩
      show gx (bL_sum_28 N ih ih2 x (smA W i (smV W i) 6) (nI i) (nI (2 + 6)) G z2) _
      unfold bL_sum_28
      refine gx_itet ((nI_leI (a := 8) (b := 8) (by omega) (by omega)).mpr (Nat.le_refl _)) (k _ _ ⟨?_, rfl⟩)
      rw [nI_1, show smV W (i + 1) = smA W i (smV W i) 6 by unfold smV; rw [osit_last, Nat.zero_add]]
  · rintro ih p z' ⟨rfl, rfl⟩
    show gx (bL_sum_18 N ih x (smV W n) (nI n) G z') _
    unfold bL_sum_18
    exact l_areas hw h0 (gx_itet ((nI_leI (by omega) (by omega)).mpr (Nat.le_refl _)) (gx_ret ⟨rfl, rfl⟩))
end
section
variable {G : osG} {z : osS} {N x n np T : Nat} {ad : Nat → Nat} {W : Nat → Nat → Nat → Int32} {Q : Int32 → osS → Prop}
/-- the law's orders: four tries for each unit -/
theorem q_L_orders (h : LW z x ad W n np T) (ph : W 3 0 0 = 0) (h12 : n ≤ 12) (hI : osInj G) (hA : G.2.2.1 ≤ x) (hN : 5000 < N) (kk : ∀ z1 ad1 W1 m, m ≤ 100 → fL x z z1 → LW z1 x ad1 W1 n np T → kyp W W1 → W1 3 0 0 = 0 → Q (nI m) z1) : gx (qL_orders N x (x + 129) (4 : Int32) G z) Q := by
  obtain ⟨kz, hkz, _⟩ := h.sz
  have ky0 : kyp W W := ⟨rfl, fun _ _ => rfl, rfl⟩
  have kt : ∀ {W1 W2 : Nat → Nat → Nat → Int32}, kyp W W1 → kyp W1 W2 → kyp W W2 := fun a b => ⟨b.1.trans a.1, fun k hk => (b.2.1 k hk).trans (a.2.1 k hk), b.2.2.trans a.2.2⟩
  unfold qL_orders qL_orders_5
  refine gx_loop n (fun i p z1 => ∃ m, m ≤ 4 * i ∧ p = (x, x + 129, (4 : Int32), nI m, nI i) ∧ fL x z z1 ∧ ∃ ad1 W1, LW z1 x ad1 W1 n np T ∧ kyp W W1 ∧ W1 3 0 0 = 0) ?_ ?_ 13 0 _ z (Nat.zero_le _) (by omega) ⟨0, by omega, rfl, fL.rf hkz, ad, W, h, ky0, ph⟩
  · rintro ih i p z1 hi ⟨m, hm, rfl, f1, ad1, W1, h1, k1, p1⟩ k
    show gx (bL_orders_5 N ih x (x + 129) (4 : Int32) (nI m) (nI i) G z1) _
    unfold bL_orders_5 qL_orders_17
    refine l_areas h1.w h1.c0 (gx_itef (nI_nleE (a := n) (b := i) rfl rfl hi (by omega)) ?_)
    have dn : ∀ {q z2 ad2 W2}, q ≤ 4 * (i + 1) → fL x z z2 → LW z2 x ad2 W2 n np T → kyp W W2 → W2 3 0 0 = 0 → gx (qL_orders_66 N ih x (x + 129) (4 : Int32) (nI q) (nI i) G z2) Q := fun {q z2 ad2 W2} hq f2 h2 k2 p2 => by
      unfold qL_orders_66
      rw [nI_1]
      exact k _ _ ⟨q, hq, rfl, f2, ad2, W2, h2, k2, p2⟩
    refine gx_loop 4 (fun c p z2 => ∃ q, q ≤ 4 * i + c ∧ p = (x, x + 129, (4 : Int32), nI q, nI i, nI c) ∧ fL x z z2 ∧ ∃ ad2 W2, LW z2 x ad2 W2 n np T ∧ kyp W W2 ∧ W2 3 0 0 = 0) ?_ ?_ 5 0 _ z1 (Nat.zero_le _) (by omega) ⟨m, by omega, rfl, f1, ad1, W1, h1, k1, p1⟩
    · rintro ih2 c p z2 hc ⟨q, hq, rfl, f2, ad2, W2, h2, k2, p2⟩ kc
      show gx (bL_orders_17 N ih ih2 x (x + 129) (4 : Int32) (nI q) (nI i) (nI c) G z2) _
      unfold bL_orders_17 qL_orders_58
      refine gx_itef (nI_nleE (a := 4) (b := c) rfl rfl (by omega) (by omega)) (l_area (a := i) (c := 4) h2.w h2.c0 (by omega) hi (by omega) (by omega) rfl rfl (gx_ite (fun _ => dn (by omega) f2 h2 k2 p2) (fun _ => ?_)))
      refine l_areas h2.w h2.c0 (gx_bind (q_L_order h2 hA hI hi rfl rfl (fun z3 s lo t h3 f3 hlo hs => gx_bind (q_L_tellO h3 p2 hs hlo hI hA hN (fun z4 ad4 W4 v f4 h4 k4 p4 _ => ?_)))))
      refine gx_ite (fun _ => ?_) (fun _ => ?_)
      · rw [nI_1, nI_1]
        exact kc _ _ ⟨q + 1, by omega, rfl, f2.tr (f3.tr f4), ad4, W4, h4, kt k2 k4, p4⟩
      · rw [nI_1, show nI q + (0 : Int32) = nI (q + 0) from nI_sum (b := 0) rfl rfl]
        exact kc _ _ ⟨q, by omega, rfl, f2.tr (f3.tr f4), ad4, W4, h4, kt k2 k4, p4⟩
    · rintro ih2 p z2 ⟨q, hq, rfl, f2, ad2, W2, h2, k2, p2⟩
      show gx (bL_orders_17 N ih ih2 x (x + 129) (4 : Int32) (nI q) (nI i) (nI 4) G z2) _
      unfold bL_orders_17
      exact gx_itet ((nI_leI (a := 4) (b := 4) (by omega) (by omega)).mpr (Nat.le_refl _)) (dn (by omega) f2 h2 k2 p2)
  · rintro ih p z1 ⟨m, hm, rfl, f1, ad1, W1, h1, k1, p1⟩
    show gx (bL_orders_5 N ih x (x + 129) (4 : Int32) (nI m) (nI n) G z1) _
    unfold bL_orders_5
    exact l_areas h1.w h1.c0 (gx_itet ((nI_leI (by omega) (by omega)).mpr (Nat.le_refl _)) (gx_ret (kk z1 ad1 W1 m (by omega) f1 h1 k1 p1)))
end
