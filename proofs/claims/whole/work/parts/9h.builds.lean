/-! endBuilds (2) (by program) -/
theorem sbz : ∀ a, a < 17 → ∀ b, b < 17 → ((0 ≤ nI a - nI b) ↔ b ≤ a) := by decide +kernel
theorem rBl_neg {M : Nat → Nat → Int32} {f : Nat → Int32} {n : Nat} {v : Int32} (h16 : n ≤ 16) : (0 ≤ rBl M f n v) ↔ ¬ fb_ct (cnC M f v) n < fb_ct (cnU f v) n := by
  have b1 := fb_ct_le (cnC M f v) n
  have b2 := fb_ct_le (cnU f v) n
  unfold rBl
  by_cases q : fb_ct (cnU f v) n < fb_ct (cnC M f v) n
  · rw [if_pos q]
    refine ⟨fun _ => by omega, fun _ => ?_⟩
    exact (nI_leI (a := 0) (by omega) (by omega)).mpr (by omega)
  · rw [if_neg q, sbz _ (by omega) _ (by omega)]; omega
section
variable {G : osG} {z : osS} {N m n np T : Nat} {C S M : Nat → Nat → Int32} {D : Nat → Nat → Int64}
theorem q_X10_endBuilds_39 (hm : rX10 z m M D) (hA : G.2.2.1 ≤ m) (hc : cpM C M D n np) (ht : cpT S (M 3)) (hj : stJ C S n np T) (hN : 5000 < N) : gx (qX10_endBuilds_39 N (m, (0 : Int32), nI n - (1 : Int32)) G z) (fun v z' => v = nI (fb_ct (fun j => rm S (15 - j)) 16) ∧ osFr m (m + 21) z z' ∧ ∃ M' g, rX10 z' m M' D ∧ (∀ k, k ≠ 3 → M' k = M k) ∧ M' 3 = goF g ∧ (∀ b, b < 16 → g (21 + b) = if rm S b = true then -1 else S 6 b) ∧ ∀ j, j < 21 ∨ 37 ≤ j → g j = M 3 j) := by
  have h16 := hc.n16
  have h4 := hc.p4
  have m0 := hc.m0
  have hno : ∀ b, n ≤ b → b < 16 → S 6 b = -1 := fun b h1 h2 => by
    cases q : uu S b
    · unfold uu at q; simpa using q
    · exact absurd (hj.u b h2 q).1 (by omega)
  have hrm : ∀ b, n ≤ b → b < 16 → rm S b = false := fun b h1 h2 => by
    unfold rm uu; rw [hno b h1 h2]; rfl
  have hz : ∀ v, ¬ v = -1 → rmR S v (16 - n) = 0 := fun v hv => fb_ct_zero.mpr (fun i hi => by rw [hrm (15 - i) (by omega) (by omega), Bool.and_false])
  refine gx_loop n (fun i p z' => p = (m, nI (fb_ct (fun j => rm S (15 - j)) (16 - n + i)), nI (n - i) - (1 : Int32)) ∧ osFr m (m + 21) z z' ∧ ∃ M', rX10 z' m M' D ∧ (∀ k, k ≠ 3 → M' k = M k) ∧ (∀ b, b < 16 → M' 3 (21 + b) = if (decide (n ≤ b + i) && rm S b) = true then -1 else S 6 b) ∧ (∀ v, ¬ v = -1 → fb_ct (fun b => decide (M' 3 (21 + b) = v)) 16 + rmR S v (16 - n + i) = ct (S 6) v) ∧ ∀ j, j < 21 ∨ 37 ≤ j → M' 3 j = M 3 j) ?_ ?_ N 0 _ z (Nat.zero_le _) (by omega) ⟨?_, osFr.rf, M, hm, fun _ _ => rfl, fun b hb => ?_, fun v hv => ?_, fun _ _ => rfl⟩
  · rintro ih i p z' hi ⟨rfl, fr, M', h', er, e21, ec, ek⟩ k
    show gx (bX10_endBuilds_39 N ih m (nI (fb_ct (fun j => rm S (15 - j)) (16 - n + i))) (nI (n - i) - (1 : Int32)) G z') _
    obtain ⟨a, ha⟩ : ∃ a, a = n - i - 1 := ⟨_, rfl⟩
    have ha16 : a < 16 := by omega
    have eJ : 15 - (16 - n + i) = a := by omega
    rw [show nI (n - i) - (1 : Int32) = nI a by rw [ha]; exact nI_sub (a := n - i) (b := 1) (by omega)]
    have e21a : M' 3 (21 + a) = S 6 a := by rw [e21 a ha16, decide_eq_false (by omega), Bool.false_and, if_neg (by decide)]
    have es : ∀ P : Nat → Bool, fb_ct P (16 - n + (i + 1)) = fb_ct P (16 - n + i) + if P (16 - n + i) = true then 1 else 0 := fun P => rfl
    have enx : nI a + (-1 : Int32) = nI (n - (i + 1)) - (1 : Int32) := by
      rw [show n - (i + 1) = a by omega, Int32.sub_eq_add_neg]
    have m0' : M' 1 0 = nI n := by rw [er 1 (by omega)]; exact m0
    have keep : rm S a = false → gx (ih (m, nI (fb_ct (fun j => rm S (15 - j)) (16 - n + i)), nI a + (-1 : Int32)) G z') _ := fun q => k _ _ ⟨by rw [es, eJ, q, if_neg (by decide), enx]; rfl, fr, M', h', er, fun b hb => by
      rw [e21 b hb]
      by_cases e : b = a
      · rw [e, q, Bool.and_false, Bool.and_false]
      · rw [dec_iff (show n ≤ b + i ↔ n ≤ b + (i + 1) by omega)], fun v hv => by
      have := ec v hv
      unfold rmR at this ⊢
      rw [es, eJ, q, Bool.and_false, if_neg (by decide)]; exact this, ek⟩
    unfold bX10_endBuilds_39 qX10_endBuilds_88
    refine gx_itef (nI_pos (by omega)) (gx_gR h'.o (by decide) rfl (gx_callE (q_X10_isUnit h'.a3 ha16 rfl) ?_))
    rw [e21a]
    refine gx_iteDn (fun c => keep (by unfold rm uu; rw [decide_eq_true c]; rfl)) (fun c => ?_)
    refine gx_gR h'.o (by decide) rfl (gx_gR h'.o (by decide) rfl (gx_aE h'.a3 (nI_sum (a := 21) (b := a) rfl rfl) (by omega) (Nat.le_of_ble_eq_true rfl) ?_))
    rw [e21a]
    have hcut : ∀ v, ¬ v = -1 → fb_ct (cnU (M' 3) v) n = fb_ct (fun b => decide (M' 3 (21 + b) = v)) 16 := fun v hv => by
      rw [fb_ct_cut (q := fun b => decide (M' 3 (21 + b) = v)) h16 (fun b h1 h2 => by
        show decide (M' 3 (21 + b) = v) = false
        rw [e21 b h2, hrm b h1 h2, Bool.and_false, if_neg (by decide), hno b h1 h2]
        exact decide_eq_false (fun q => hv q.symm))]
      refine fb_ct_cong (fun b hb => ?_)
      unfold cnU
      rw [decide_eq_false hv, Bool.false_or]
      by_cases q : M' 3 (21 + b) = v
      · rw [decide_eq_true q, decide_eq_false (fun q2 => hv (q.symm.trans q2))]; rfl
      · rw [decide_eq_false q, Bool.and_false]
    have h12 : fb_ct (cnU (M' 3) (-1)) n ≤ 12 := by
      refine Nat.le_trans (fb_ct_sub (q := uu S) (fun b hb q => ?_)) (Nat.le_trans (fb_ct_mono (uu S) h16) (by have := hj.c12; omega))
      unfold cnU at q
      rw [Bool.and_eq_true, e21 b (by omega)] at q
      unfold uu
      have q1 := q.1
      split at q1
      · simp at q1
      · exact q1
    refine gx_recvE h'.o (by decide) (q_X10_buildsOf h' h'.a3 m0' h16 h12 (by omega)) ?_
    have hcc : fb_ct (cnC M' (M' 3) (S 6 a)) n = ct (S 5) (S 6 a) := by
      rw [← cnC_eq hc hj ht c]
      refine fb_ct_cong (fun b hb => ?_)
      unfold cnC
      rw [er 1 (by omega), ek (5 + b) (by omega)]
    have key := rm_iff (J := 16 - n + i) c (by omega) (by rw [eJ])
    rw [eJ] at key
    have hneg := rBl_neg (M := M') (f := M' 3) (v := S 6 a) h16
    rw [hcc, hcut _ c] at hneg
    have ec1 := ec (S 6 a) c
    refine gx_ite (fun c2 => keep ?_) (fun c2 => ?_)
    · rw [key]; exact decide_eq_false (by have := hneg.mp c2; omega)
    · have hr : rm S a = true := by
        rw [key]
        refine decide_eq_true ?_
        have : ct (S 5) (S 6 a) < fb_ct (fun b => decide (M' 3 (21 + b) = S 6 a)) 16 := Classical.byContradiction (fun q => c2 (hneg.mpr q))
        omega
      refine gx_gR h'.o (by decide) rfl (h'.s3 (nI_sum (a := 21) (b := a) rfl rfl) (by omega) hA (fun z2 f2 h2 => k _ _ ⟨?_, fr.tr f2, _, h2, fun r hr2 => ?_, fun b hb => ?_, fun v hv => ?_, fun j hj2 => ?_⟩))
      · rw [es, eJ, hr, if_pos rfl, enx]; exact congrArg (fun t => (_, t, _)) (nI_sum (b := 1) rfl rfl)
      · rw [cset_ne hr2]; exact er r hr2
      · show (if 21 + b = 21 + a then (-1 : Int32) else M' 3 (21 + b)) = _
        by_cases e : b = a
        · subst e; rw [if_pos rfl, hr, decide_eq_true (by omega), if_pos (show (true && true) = true from rfl)]
        · rw [if_neg (by omega), e21 b hb, dec_iff (show n ≤ b + i ↔ n ≤ b + (i + 1) by omega)]
      · have e1 : fb_ct (fun b => decide ((if 21 + b = 21 + a then (-1 : Int32) else M' 3 (21 + b)) = v)) 16 = fb_ct (fun k => if k = a then false else decide (M' 3 (21 + k) = v)) 16 := fb_ct_cong (fun k hk => by
          by_cases e : k = a
          · rw [if_pos (by omega), if_pos e]; exact decide_eq_false (fun q => hv q.symm)
          · rw [if_neg (by omega), if_neg e])
        have e2 := fb_ct_upd (fun b => decide (M' 3 (21 + b) = v)) false (i := a) (n := 16) ha16
        have e4 : (if false = true then 1 else 0) = 0 := rfl
        have e6 := ec v hv
        show fb_ct (fun b => decide ((if 21 + b = 21 + a then (-1 : Int32) else M' 3 (21 + b)) = v)) 16 + _ = _
        rw [e1]
        unfold rmR at e6 ⊢
        rw [es, eJ, hr, Bool.and_true]
        rw [e4] at e2
        have e7 : (if (fun b => decide (M' 3 (21 + b) = v)) a = true then 1 else 0) = if decide (S 6 a = v) = true then 1 else 0 := by
          show (if decide (M' 3 (21 + a) = v) = true then 1 else 0) = _
          rw [e21a]
        rw [e7] at e2
        omega
      · show (if j = 21 + a then (-1 : Int32) else M' 3 j) = _
        rw [if_neg (by omega)]; exact ek j hj2
  · rintro ih p z' ⟨rfl, fr, M', h', er, e21, ec, ek⟩
    show gx (bX10_endBuilds_39 N ih m (nI (fb_ct (fun j => rm S (15 - j)) (16 - n + n))) (nI (n - n) - (1 : Int32)) G z') _
    rw [show n - n = 0 by omega, show 16 - n + n = 16 by omega]
    unfold bX10_endBuilds_39
    refine gx_itet (by decide) (gx_recvQ h'.o (by decide) (q_X10_goesOn h' hA (by omega)) (fun _ z2 ⟨f2, h2⟩ => gx_ret ⟨rfl, fr.tr f2, _, M' 3, h2, fun k hk => ?_, rfl, fun b hb => ?_, ek⟩))
    · rw [cset_ne hk]; exact er k hk
    · rw [e21 b hb]
      cases q : rm S b
      · rw [Bool.and_false]
      · have : b < n := (hj.u b hb (rm_uu q)).1
        rw [decide_eq_true (show n ≤ b + n by omega)]; rfl
  · rw [show fb_ct (fun j => rm S (15 - j)) (16 - n + 0) = 0 from fb_ct_zero.mpr (fun i hi => hrm (15 - i) (by omega) (by omega))]; rfl
  · show M 3 (21 + b) = _
    rw [(ht.2.1 b hb).2.1]
    cases q : rm S b
    · rw [Bool.and_false]; rfl
    · have : b < n := (hj.u b hb (rm_uu q)).1
      rw [decide_eq_false (show ¬ n ≤ b + 0 by omega)]; rfl
  · rw [show 16 - n + 0 = 16 - n from rfl, hz v hv]
    show _ = fb_ct _ 16
    exact fb_ct_cong (fun b hb => by rw [(ht.2.1 b hb).2.1])
end
section
variable {G : osG} {z : osS} {N x n np T : Nat} {ad : Nat → Nat} {W : Nat → Nat → Nat → Int32} {D : Nat → Nat → Int64}
theorem q_X9_endBuilds (hw : WD z x ad W D) (hi : IVn W D n np T) (ph : W 3 0 0 = 2) (hA : G.2.2.1 ≤ x) (hN : 5000 < N) : gx (qX9_endBuilds N x G z) (fun r z' => ∃ ad' W' V, WD z' x ad' W' D ∧ r = .inr (nI (fb_ct (fun j => rm (W 3) (15 - j)) 16)) ∧ isR (fun _ => true) (W 3) V ∧ endC W W' (begun V)) := by
  have h16 := hi.m.n16
  have h4 := hi.m.p4
  have hb2 := hi.i.j.b2
  obtain ⟨u, h6, u1, _⟩ := hi.p
  unfold qX9_endBuilds
  refine gx_reqPh hw (fun q => absurd ph q) (fun _ => ?_)
  refine gx_recvQ hw.x9.o (by decide) (q_X9_remember hw hA u1 h6 hb2 hN) (fun _ z1 ⟨ad1, W1, s, v, w1, euv, hv, hvs, rc⟩ => ?_)
  have k1 : W1 1 = W 1 := rc.2.2.2.1 1 (by omega) (by omega)
  have k3 : W1 3 = W 3 := rc.2.2.2.1 3 (by omega) (by omega)
  have hb9 := w1.ok.b
  have hs9 := w1.ok.s
  have c1 := hi.m.c1
  refine gx_loop np (fun i p z' => p = (x, nI (rmT (W 3) i), nI i) ∧ ∃ V, WD z' x ad1 (Ws W1 3 V) D ∧ isR (own (W 3) i) (W 3) V) ?_ ?_ N 0 _ z1 (Nat.zero_le _) (by omega) ⟨rfl, W 3, ?_, fun b hb => rfl, fun b hb => rfl, fun _ _ _ => rfl⟩
  · rintro ih i p z' hi2 ⟨rfl, V, w2, hV⟩ k
    show gx (bX9_endBuilds_13 N ih x (nI (rmT (W 3) i)) (nI i) G z') _
    unfold bX9_endBuilds_13
    have b2 := w2.bd
    have n2 := w2.nw
    rw [Ws_ne (by omega), k1] at b2
    rw [Ws_eq] at n2
    refine gx_gR w2.x9.o (by decide) rfl (gx_gI b2.o (by decide) rfl ?_)
    rw [c1]
    refine gx_itef (nI_ge hi2 (by omega)) (gx_gR w2.x9.o (by decide) rfl (gx_recvQ n2.o (by decide) (q_X5_disbandSurplus n2 (by omega) (by omega)) (fun v5 z3 ⟨e5, f3, h3⟩ => ?_)))
    obtain ⟨d1, _, d3⟩ := ds_one (v := nI i) (nI_m1 (by omega)) hV (fun b hb e => own_no (by omega) e) 16 (Nat.le_refl _)
    have w3 := w2.cn f3 h3
    refine k _ _ ⟨?_, _, ?_, isR_ext d1 (fun b hb => ?_)⟩
    · rw [e5, d3, show nI (rmT (W 3) i) + nI (rmR (W 3) (nI i) 16) = nI (rmT (W 3) (i + 1)) from nI_sum rfl rfl]
      exact congrArg (fun t => (_, _, t)) (nI_sum (b := 1) rfl rfl)
    · have e : ∀ A B : Nat → Nat → Int32, Ws (Ws W1 3 A) 3 B = Ws W1 3 B := fun A B => by funext j; unfold Ws; by_cases q : j = 3 <;> simp [q]
      rw [e] at w3; exact w3
    · show ((own (W 3) i b || (decide (16 ≤ b + 16) && decide (W 3 6 b = nI i))) && rm (W 3) b) = ((own (W 3) i b || decide (W 3 6 b = nI i)) && rm (W 3) b)
      rw [decide_eq_true (show 16 ≤ b + 16 by omega), Bool.true_and]
  · rintro ih p z' ⟨rfl, V, w2, hV⟩
    show gx (bX9_endBuilds_13 N ih x (nI (rmT (W 3) np)) (nI np) G z') _
    unfold bX9_endBuilds_13
    have b2 := w2.bd
    have n2 := w2.nw
    rw [Ws_ne (by omega), k1] at b2
    rw [Ws_eq] at n2
    refine gx_gR w2.x9.o (by decide) rfl (gx_gI b2.o (by decide) rfl ?_)
    rw [c1]
    refine gx_itet ((nI_leI (by omega) (by omega)).mpr (Nat.le_refl np)) (gx_gR w2.x9.o (by decide) rfl (gx_recvQ n2.o (by decide) (q_X5_beginTurn n2 (by omega) (by omega)) (fun _ z3 ⟨f3, h3⟩ => gx_Rt (gx_ret ⟨ad1, _, V, w2.cn f3 h3, by rw [rmT_all hi.i.j h4], isR_ext hV (fun b hb => ?_), W1, s, v, rc, by rw [u1, euv], hv, hvs, by rw [Ws_eq], fun k hk => ?_⟩))))
    · cases q : rm (W 3) b
      · rw [Bool.and_false, Bool.and_false]
      · rw [own_uu hi.i.j h4 hb q]
    · rw [Ws_ne (by omega), Ws_ne (by omega)]
  · have e : Ws W1 3 (W 3) = W1 := by
      funext j; unfold Ws
      by_cases q : j = 3
      · rw [if_pos q, q]; exact k3.symm
      · rw [if_neg q]
    rw [e]; exact w1
theorem c_endBuilds (hw : WD z x ad W D) (hi : IVn W D n np T) (hA : G.2.2.1 ≤ x) (hN : 5000 < N) : callT G z x (T + 1) [(0, (1 : Int32))] (qX9_endBuilds N x) (qX10_endBuilds N (x + 129)) := by
  have hA' : G.2.2.1 ≤ x + 129 := by omega
  by_cases ph : W 3 0 0 = 2
  · refine ⟨fun r _ W1 D1 => ∃ V, r = .inr (nI (fb_ct (fun j => rm (W 3) (15 - j)) 16)) ∧ D1 = D ∧ isR (fun _ => true) (W 3) V ∧ endC W W1 (begun V), gx_mono (q_X9_endBuilds hw hi ph hA hN) (fun r z1 ⟨ad', W', V, w1, e1, hV, sc⟩ => ⟨ad', W', D, w1, V, e1, rfl, hV, sc⟩), ?_⟩
    rintro r z1 ad1 W' D1 hw1 ⟨V, rfl, rfl, hV, he⟩
    unfold qX10_endBuilds qX10_endBuilds_16
    obtain ⟨W1, s, v, rc, _, _, _, _, hk⟩ := id he
    have hm1 := hw1.m
    rw [hk 20 (by omega), rc.2.2.2.1 20 (by omega) (by omega)] at hm1
    refine gx_gR hm1.o (by decide) rfl (gx_aE (i := 0) hm1.a3 rfl (by omega) (Nat.le_of_ble_eq_true rfl) ?_)
    rw [hi.s.1.1, ph]
    have hds : ∀ a, a < 16 → ds V a = false := fun a ha => by
      unfold ds
      rw [hV.2.2 8 (by omega) (by omega)]
      cases q : ds (W 3) a
      · exact q
      · have := hi.i.2.2.1 a ha q
        rw [ph] at this; exact absurd this (by decide)
    refine gx_itet rfl (RF_rem hi hw1 he hA' hN (Nat.le_succ T) (fun z3 M3 h3 k3 k1 => ?_))
    have cm3 : cpM (W 1) M3 D1 n np := cpM_keep hi.m k1 rfl
    refine gx_gR h3.o (by decide) rfl (gx_aE (i := 0) h3.a1 rfl (by omega) (Nat.le_of_ble_eq_true rfl) ?_)
    rw [cm3.m0]
    refine gx_mono (q_X10_endBuilds_39 h3 hA' cm3 (by rw [k3]; exact hi.s) hi.i.j hN) (fun b z5 ⟨eb, f5, M5, g, h5, r5, eg, g21, gk⟩ => ⟨eb, f5, M5, h5, fun k _ hk3 => r5 k hk3, ?_, stI_go (isR_J hi.i.j hV) hds⟩)
    rw [eg]
    exact cpT_go (isR_T hi.s hV g21 (fun j hj => by rw [gk j hj, k3]))
  · refine call_of hw (pair_of (IV_T hi (Nat.le_succ T)) (.inl 0) ?_ (fun z1 ad1 hw1 => ?_))
    · unfold qX9_endBuilds
      exact gx_reqPh hw (fun _ => ⟨rfl, rfl⟩) (fun q => absurd q ph)
    · unfold qX10_endBuilds qX10_endBuilds_16
      refine gx_gR hw1.m.o (by decide) rfl (gx_aE (i := 0) hw1.m.a3 rfl (by omega) (Nat.le_of_ble_eq_true rfl) ?_)
      rw [hi.s.1.1]
      exact gx_itef ph (gx_refT hw1.m hA' (by decide) (fun z2 f2 h2 => gx_ret ⟨f2, _, h2, k0_ok, agrT (j := 0) (q := (0, 1)) rfl rfl (by decide)⟩))
end
