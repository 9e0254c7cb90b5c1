/-! share, shareBits, unevenness, unevennessBits (by program) -/
def nCn (C : Nat → Nat → Int32) : Nat := fb_ct (bt (C 4 0)) 16
def shV (C S : Nat → Nat → Int32) (v : Int32) : UInt32 := if nCn C = 0 then 0 else fsh (ct (S 5) v) (nCn C)
def dSm (t : Nat) (S : Nat → Nat → Int32) : Nat → UInt64
  | 0 => 0
  | i + 1 => dSt t (ct (S 5) (nI i)) (dSm t S i)
def unV (C S : Nat → Nat → Int32) (np : Nat) : UInt64 := if nCn C = 0 then 0 else dSm (nCn C) S np
def csm (S : Nat → Nat → Int32) : Nat → Nat
  | 0 => 0
  | i + 1 => csm S i + ct (S 5) (nI i)
section
variable {C S M : Nat → Nat → Int32} {D : Nat → Nat → Int64} {n np T : Nat}
theorem csm_eq : ∀ i, i ≤ 4 → csm S i = fb_ct (fun a => exn (fun p => decide (S 5 a = nI p)) i) 16
  | 0, _ => (fb_ct_zero.mpr (fun _ _ => rfl)).symm
  | i + 1, h => by
    rw [csm, csm_eq i (by omega)]
    unfold ct
    rw [← fb_ct_or (fun k hk q => ?_)]
    · rfl
    · obtain ⟨p, hp, e⟩ := exn_iff.mp q.1
      have e1 := (of_decide_eq_true e).symm.trans (of_decide_eq_true q.2)
      have e1 := congrArg Int32.toInt e1
      rw [nI_toInt (by omega), nI_toInt (by omega)] at e1
      omega
theorem csm_le (hj : stJ C S n np T) {i : Nat} (hi : i ≤ np) (h4 : np ≤ 4) : csm S i ≤ nCn C := by
  rw [csm_eq i (by omega)]
  refine fb_ct_sub (fun a ha q => ?_)
  obtain ⟨p, hp, e⟩ := exn_iff.mp q
  exact (hj.ow a ha (by rw [of_decide_eq_true e]; exact nI_m1 (by omega))).1
theorem ct_nCn (hj : stJ C S n np T) {v : Int32} (hv : ¬ v = -1) : ct (S 5) v ≤ nCn C := fb_ct_sub (fun a ha q => (hj.ow a ha (by rw [of_decide_eq_true q]; exact hv)).1)
theorem nCn_17 : nCn C < 17 := by have := fb_ct_le (bt (C 4 0)) 16; unfold nCn; omega
theorem sh_fOK (hj : stJ C S n np T) {v : Int32} (hv : ¬ v = -1) : fOK (shV C S v) = true := by
  unfold shV
  by_cases q : nCn C = 0
  · rw [if_pos q]; exact fsh_0
  · rw [if_neg q]
    have h1 := ct_nCn hj hv
    have h2 := nCn_17 (C := C)
    exact fsh_ok _ h2 _ (by omega) h1 (by omega)
theorem dSm_in (hj : stJ C S n np T) (h4 : np ≤ 4) (h0 : 0 < nCn C) : ∀ i, i ≤ np → dIn (dSm (nCn C) S i) (rT (nCn C) i (nCn C - csm S i)) = true ∧ (i < np → dNx (nCn C) (ct (S 5) (nI i)) (dSm (nCn C) S i) = true)
  | 0, _ => by
    have h := rT_0 (nCn_17 (C := C)) h0
    refine ⟨h, fun hn => ?_⟩
    exact ((rT_at (nCn_17 (C := C)) h0 (by omega) (Nat.le_refl _) h).2 (by omega) _ (by exact ct_nCn hj (nI_m1 (by omega)))).1
  | i + 1, hi => by
    have ih := dSm_in hj h4 h0 i (by omega)
    have l1 := csm_le hj (i := i + 1) hi h4
    have l0 : csm S (i + 1) = csm S i + ct (S 5) (nI i) := rfl
    have a := ((rT_at (nCn_17 (C := C)) h0 (by omega) (by omega) ih.1).2 (by omega) (ct (S 5) (nI i)) (by omega)).2
    have a' : dIn (dSm (nCn C) S (i + 1)) (rT (nCn C) (i + 1) (nCn C - csm S (i + 1))) = true := by
      rw [show nCn C - csm S (i + 1) = nCn C - csm S i - ct (S 5) (nI i) by omega]; exact a
    refine ⟨a', fun hn => ?_⟩
    have l2 := csm_le hj (i := i + 2) (by omega) h4
    have l3 : csm S (i + 2) = csm S (i + 1) + ct (S 5) (nI (i + 1)) := rfl
    exact ((rT_at (nCn_17 (C := C)) h0 (by omega) (by omega) a').2 (by omega) (ct (S 5) (nI (i + 1))) (by omega)).1
theorem un_OK (hj : stJ C S n np T) (h4 : np ≤ 4) : dOK (unV C S np) = true := by
  unfold unV
  by_cases q : nCn C = 0
  · rw [if_pos q]; exact dOK_0
  · rw [if_neg q]
    exact (rT_at (nCn_17 (C := C)) (by omega) (by omega) (by omega) ((dSm_in hj h4 (by omega) np (Nat.le_refl _)).1)).1
theorem nCn_n (hm : cpM C M D n np) : fb_ct (bt (C 4 0)) n = nCn C := by
  unfold nCn
  rw [fb_ct_cut (q := bt (C 4 0)) hm.n16 (fun i h1 h2 => Bool.eq_false_iff.mpr (fun q => absurd ((hm.2.2.2.2.1 i (by omega)).1 (Or.inr (Or.inr q))) (by omega)))]
theorem cn_bits (hm : cpM C M D n np) : ∀ i, 16 ≤ i → i < 32 → bt (C 4 0) i = false := fun i h1 h2 => Bool.eq_false_iff.mpr (fun q => absurd ((hm.2.2.2.2.1 i h2).1 (Or.inr (Or.inr q))) (by have := hm.n16; omega))
theorem bcC {G : osG} {z : osS} {N : Nat} (hm : cpM C M D n np) : qJ6_bitCount_0f7a4 N (C 4 0) G z = some (nI (nCn C), z) := q_bitCount (cn_bits hm)
theorem nI_00 {a : Nat} (h : a < 2 ^ 31) : nI a = 0 ↔ a = 0 := ⟨fun q => by
  have q := congrArg Int32.toInt q
  rw [nI_toInt h] at q
  have : (0 : Int32).toInt = 0 := rfl
  omega, fun q => by rw [q]; rfl⟩
end
section
variable {G : osG} {z : osS} {N m n np T : Nat} {C S M : Nat → Nat → Int32} {D : Nat → Nat → Int64}
theorem q_X10_all (hm : rX10 z m M D) (hc : cpM C M D n np) (hN : 5000 < N) : qX10_allCenters N m G z = some (nI (nCn C), z) := by
  have h16 := hc.n16
  rw [q_X10_allCenters hm hc.m0 h16 (by omega) (P := bt (C 4 0)) (fun a ha => (hc.2.1 a (by omega)).2.2.2.2), nCn_n hc]
theorem q_X10_shareOf (hm : rX10 z m M D) (hc : cpM C M D n np) (hj : stJ C S n np T) (ht : cpT S (M 3)) {v : Int32} (hv : ¬ v = -1) (hN : 5000 < N) : qX10_shareOf N m v G z = some (shV C S v, z) := by
  refine gx_eq ?_
  have h17 := nCn_17 (C := C)
  have hf := sh_fOK hj hv
  unfold shV at hf ⊢
  unfold qX10_shareOf qX10_shareOf_26
  refine gx_recvE hm.o (by decide) (q_X10_all hm hc hN) (gx_ite (fun c => gx_ret ⟨by rw [if_pos ((nI_00 (by omega)).mp c)], rfl⟩) (fun c => ?_))
  have c' : ¬ nCn C = 0 := fun q => c ((nI_00 (by omega)).mpr q)
  rw [if_neg c'] at hf ⊢
  refine gx_gR hm.o (by decide) rfl (gx_recvE hm.o (by decide) (q_X10_centersOf hm hm.a3 hc.m0 hc.n16 (by omega)) ?_)
  rw [cnC_eq hc hj ht hv]
  unfold fOK at hf
  rw [Bool.and_eq_true] at hf
  exact gx_guard (of_decide_eq_true hf.1) (gx_ret ⟨rfl, rfl⟩)
theorem q_X10_unevenNow (hm : rX10 z m M D) (hc : cpM C M D n np) (hj : stJ C S n np T) (ht : cpT S (M 3)) (hN : 5000 < N) : qX10_unevenNow N m G z = some (unV C S np, z) := by
  refine gx_eq ?_
  have h17 := nCn_17 (C := C)
  have h4 := hc.p4
  unfold unV qX10_unevenNow
  refine gx_recvE hm.o (by decide) (q_X10_all hm hc hN) ?_
  by_cases c : nCn C = 0
  · rw [if_pos c, c]
    obtain ⟨k, rfl⟩ : ∃ k, N = k + 1 := ⟨N - 1, by omega⟩
    show gx (bX10_unevenNow_10 (k + 1) _ m (nI 0) 0 0 G z) _
    unfold bX10_unevenNow_10 qX10_unevenNow_55
    exact gx_gR hm.o (by decide) rfl (gx_aE (i := 1) hm.a1 rfl (by omega) (Nat.le_of_ble_eq_true rfl) (gx_ite (fun _ => gx_ret ⟨rfl, rfl⟩) (fun _ => gx_itet (by decide) (gx_ret ⟨rfl, rfl⟩))))
  · rw [if_neg c]
    refine gx_loop np (fun i p z' => p = (m, nI (nCn C), dSm (nCn C) S i, nI i) ∧ z' = z) ?_ ?_ N 0 _ z (Nat.zero_le _) (by omega) ⟨rfl, rfl⟩
    · rintro ih i p z' hi ⟨rfl, rfl⟩ k
      show gx (bX10_unevenNow_10 N ih m (nI (nCn C)) (dSm (nCn C) S i) (nI i) G _) _
      unfold bX10_unevenNow_10
      have hx := (dSm_in hj h4 (by omega) i (by omega)).2 hi
      unfold dNx at hx
      rw [Bool.and_eq_true, Bool.and_eq_true] at hx
      refine gx_gR hm.o (by decide) rfl (gx_aE (i := 1) hm.a1 rfl (by omega) (Nat.le_of_ble_eq_true rfl) ?_)
      rw [hc.m1]
      refine gx_itef (nI_ge hi (by omega)) (gx_itef (fun q => c (by have := (nI_leI (a := nCn C) (b := 0) (by omega) (by omega)).mp q; omega)) (gx_gR hm.o (by decide) rfl (gx_recvE hm.o (by decide) (q_X10_centersOf hm hm.a3 hc.m0 hc.n16 (by omega)) ?_)))
      rw [cnC_eq hc hj ht (nI_m1 (by omega))]
      exact gx_guard (of_decide_eq_true hx.1) (gx_retb (gx_guard (of_decide_eq_true hx.2.1) (gx_guard (of_decide_eq_true hx.2.2) (gx_retb (k _ _ ⟨congrArg (fun t => (_, _, _, t)) (nI_sum (b := 1) rfl rfl), rfl⟩)))))
    · rintro ih p z' ⟨rfl, rfl⟩
      show gx (bX10_unevenNow_10 N ih m (nI (nCn C)) (dSm (nCn C) S np) (nI np) G _) _
      unfold bX10_unevenNow_10 qX10_unevenNow_55
      refine gx_gR hm.o (by decide) rfl (gx_aE (i := 1) hm.a1 rfl (by omega) (Nat.le_of_ble_eq_true rfl) ?_)
      rw [hc.m1]
      exact gx_itet ((nI_leI (by omega) (by omega)).mpr (Nat.le_refl np)) (gx_ret ⟨rfl, rfl⟩)
end
section
variable {G : osG} {z : osS} {N x n np T : Nat} {ad : Nat → Nat} {W : Nat → Nat → Nat → Int32} {D : Nat → Nat → Int64}
theorem q_X9_shareOf (hw : WD z x ad W D) (hi : IVn W D n np T) {v : Int32} (hv : ¬ v = -1) (hN : 5000 < N) : qX9_shareOf N x v G z = some (shV (W 1) (W 3) v, z) := by
  refine gx_eq ?_
  have h17 := nCn_17 (C := W 1)
  have hf := sh_fOK hi.i.j hv
  unfold shV at hf ⊢
  unfold qX9_shareOf
  refine gx_gR hw.x9.o (by decide) rfl (gx_gI hw.bd.o (by decide) rfl (gx_callE (bcC hi.m) (gx_ite (fun c => gx_ret ⟨by rw [if_pos ((nI_00 (by omega)).mp c)], rfl⟩) (fun c => ?_))))
  have c' : ¬ nCn (W 1) = 0 := fun q => c ((nI_00 (by omega)).mpr q)
  rw [if_neg c'] at hf ⊢
  refine gx_gR hw.x9.o (by decide) rfl (gx_recvE hw.nw.o (by decide) (q_countCenters hw.nw (by omega)) ?_)
  unfold fOK at hf
  rw [Bool.and_eq_true] at hf
  exact gx_guard (of_decide_eq_true hf.1) (gx_ret ⟨rfl, rfl⟩)
theorem q_X9_sumOfSquares (hw : WD z x ad W D) (hi : IVn W D n np T) (hN : 5000 < N) : qX9_sumOfSquares N x G z = some (unV (W 1) (W 3) np, z) := by
  refine gx_eq ?_
  have h17 := nCn_17 (C := W 1)
  have h4 := hi.m.p4
  unfold unV qX9_sumOfSquares
  refine gx_gR hw.x9.o (by decide) rfl (gx_gI hw.bd.o (by decide) rfl (gx_callE (bcC hi.m) (gx_ite (fun c => gx_ret ⟨by rw [if_pos ((nI_00 (by omega)).mp c)], rfl⟩) (fun c => ?_))))
  have c' : ¬ nCn (W 1) = 0 := fun q => c ((nI_00 (by omega)).mpr q)
  rw [if_neg c']
  refine gx_loop np (fun i p z' => p = (x, nI (nCn (W 1)), dSm (nCn (W 1)) (W 3) i, nI i) ∧ z' = z) ?_ ?_ N 0 _ z (Nat.zero_le _) (by omega) ⟨rfl, rfl⟩
  · rintro ih i p z' hi2 ⟨rfl, rfl⟩ k
    show gx (bX9_sumOfSquares_22 N ih x (nI (nCn (W 1))) (dSm (nCn (W 1)) (W 3) i) (nI i) G _) _
    unfold bX9_sumOfSquares_22
    have hx := (dSm_in hi.i.j h4 (by omega) i (by omega)).2 hi2
    unfold dNx at hx
    rw [Bool.and_eq_true, Bool.and_eq_true] at hx
    refine gx_gR hw.x9.o (by decide) rfl (gx_gI hw.bd.o (by decide) rfl ?_)
    rw [hi.m.c1]
    exact gx_itef (nI_ge hi2 (by omega)) (gx_gR hw.x9.o (by decide) rfl (gx_recvE hw.nw.o (by decide) (q_countCenters hw.nw (by omega)) (gx_guard (of_decide_eq_true hx.1) (gx_retb (gx_guard (of_decide_eq_true hx.2.1) (gx_guard (of_decide_eq_true hx.2.2) (gx_retb (k _ _ ⟨congrArg (fun t => (_, _, _, t)) (nI_sum (b := 1) rfl rfl), rfl⟩))))))))
  · rintro ih p z' ⟨rfl, rfl⟩
    show gx (bX9_sumOfSquares_22 N ih x (nI (nCn (W 1))) (dSm (nCn (W 1)) (W 3) np) (nI np) G _) _
    unfold bX9_sumOfSquares_22
    refine gx_gR hw.x9.o (by decide) rfl (gx_gI hw.bd.o (by decide) rfl ?_)
    rw [hi.m.c1]
    exact gx_itet ((nI_leI (by omega) (by omega)).mpr (Nat.le_refl np)) (gx_ret ⟨rfl, rfl⟩)
/-- both have answered the same, nothing of weight has changed -/
def sameV {α : Type} (T x : Nat) (z1 : osS) (v : α) (b : α) (z2 : osS) : Prop := v = b ∧ osFr (x + 129) (x + 129 + 21) z1 z2 ∧ ∃ ad W D, WD z2 x ad W D ∧ IV W D T ∧ W 20 0 0 = 0
theorem sameV_of {α : Type} {z1 z2 : osS} {ad1 : Nat → Nat} {v b : α} (hw1 : WD z1 x ad1 W D) (hi : IVn W D n np T) (fr : osFr (x + 129) (x + 129 + 21) z1 z2) (hm : rX10 z2 (x + 129) (cset (W 20) 0 fun _ => (0 : Int32)) D) (e : v = b) : sameV T x z1 v b z2 := ⟨e, fr, ad1, _, D, hw1.ref fr hm, ⟨n, np, IV_ref hi k0_ok⟩, by rw [Ws_eq]; rfl⟩
theorem d_share (hw : WD z x ad W D) (hi : IVn W D n np T) (hA : G.2.2.1 ≤ x) (hN : 5000 < N) {v : Int32} : (qX9_share N x v G z = some (.inl 2, z) ∧ gx (qX10_share N (x + 129) v G z) (fun _ z2 => ∃ ad W D, WD z2 x ad W D ∧ IV W D T ∧ W 20 0 0 = 1)) ∨ ∃ y, fOK y = true ∧ qX9_share N x v G z = some (.inr y, z) ∧ ∀ z1 ad1, WD z1 x ad1 W D → gx (qX10_share N (x + 129) v G z1) (sameV T x z1 y) := by
  have hA' : G.2.2.1 ≤ x + 129 := by omega
  have h4 := hi.m.p4
  cases ca : aB np v
  · refine Or.inl ⟨gx_eq ?_, ?_⟩
    · unfold qX9_share
      exact gx_reqP hw hi.m.c1 (fun _ => ⟨rfl, rfl⟩) (fun q => by rw [ca] at q; cases q)
    · unfold qX10_share qX10_share_14 qX10_share_29
      refine gx_recvE hw.m.o (by decide) (q_X10_isPowerB hw.m hi.m.m1 h4) ?_
      rw [ca]
      refine gx_itet rfl (gx_recvQ hw.m.o (by decide) (q_X10_isRefused hw.m hA') (fun v z2 ⟨ev, f2, h2⟩ => ?_))
      rw [ev]
      exact gx_itef (by decide) (gx_ret ⟨ad, _, D, hw.ref f2 h2, ⟨n, np, IV_ref hi k0_ok⟩, by rw [Ws_eq]; rfl⟩)
  · obtain ⟨a, ha, rfl⟩ := aB_t (by omega) ca
    have hv : ¬ nI a = -1 := nI_m1 (by omega)
    refine Or.inr ⟨shV (W 1) (W 3) (nI a), sh_fOK hi.i.j hv, gx_eq ?_, fun z1 ad1 hw1 => ?_⟩
    · unfold qX9_share
      exact gx_reqP hw hi.m.c1 (fun q => by rw [ca] at q; cases q) (fun _ => gx_recvE hw.x9.o (by decide) (q_X9_shareOf hw hi hv hN) (gx_Rt (gx_ret ⟨rfl, rfl⟩)))
    · unfold qX10_share qX10_share_14 qX10_share_29
      refine gx_recvE hw1.m.o (by decide) (q_X10_isPowerB hw1.m hi.m.m1 h4) ?_
      rw [ca]
      refine gx_itef (by decide) (gx_recvQ hw1.m.o (by decide) (q_X10_isRefused hw1.m hA') (fun v z2 ⟨ev, f2, h2⟩ => ?_))
      rw [ev]
      exact gx_itet (by decide) (gx_recvE h2.o (by decide) (q_X10_shareOf h2 (cpM_keep hi.m rfl rfl) hi.i.j hi.s hv hN) (gx_ret (sameV_of hw1 hi f2 h2 rfl)))
theorem p_shareBits (hw : WD z x ad W D) (hi : IVn W D n np T) (hA : G.2.2.1 ≤ x) (hN : 5000 < N) {v : Int32} : pairT G z x T W D [(2, (1 : Int32))] (qX9_shareBits N x v) (qX10_shareBits N (x + 129) v) := by
  have hA' : G.2.2.1 ≤ x + 129 := by omega
  have h4 := hi.m.p4
  cases ca : aB np v
  · refine pair_of hi (.inl 2) ?_ (fun z1 ad1 hw1 => ?_)
    · unfold qX9_shareBits
      exact gx_reqP hw hi.m.c1 (fun _ => ⟨rfl, rfl⟩) (fun q => by rw [ca] at q; cases q)
    · unfold qX10_shareBits qX10_shareBits_14
      refine gx_recvE hw1.m.o (by decide) (q_X10_isPowerB hw1.m hi.m.m1 h4) ?_
      rw [ca]
      exact gx_itet rfl (gx_refT hw1.m hA' (by decide) (fun z2 f2 h2 => gx_ret ⟨f2, _, h2, k0_ok, agrT (j := 2) (q := (2, 1)) rfl rfl (by decide)⟩))
  · obtain ⟨a, ha, rfl⟩ := aB_t (by omega) ca
    have hv : ¬ nI a = -1 := nI_m1 (by omega)
    have hf := sh_fOK hi.i.j hv
    unfold fOK at hf
    simp only [Bool.and_eq_true, decide_eq_true_eq] at hf
    obtain ⟨_, _, _, hs, he⟩ := hf
    obtain ⟨y, hy⟩ := Option.isSome_iff_exists.mp hs
    refine pair_of hi (.inr y) ?_ (fun z1 ad1 hw1 => ?_)
    · unfold qX9_shareBits
      exact gx_reqP hw hi.m.c1 (fun q => by rw [ca] at q; cases q) (fun _ => gx_recvE hw.x9.o (by decide) (q_X9_shareOf hw hi hv hN) (gx_callE (pfCB_run (by omega) hy) (gx_Rt (gx_ret ⟨rfl, rfl⟩))))
    · unfold qX10_shareBits qX10_shareBits_14
      refine gx_recvE hw1.m.o (by decide) (q_X10_isPowerB hw1.m hi.m.m1 h4) ?_
      rw [ca]
      refine gx_itef (by decide) (gx_refF hw1.m hA' (fun z2 f2 h2 => gx_recvE h2.o (by decide) (q_X10_shareOf h2 (cpM_keep hi.m rfl rfl) hi.i.j hi.s hv hN) ?_))
      rw [hy] at he
      unfold pfRB at he
      refine gx_ite (fun c => ?_) (fun c => ?_)
      · rw [if_pos c] at he
        cases he
        exact gx_ret ⟨f2, _, h2, k0_ok, agrV rfl⟩
      · rw [if_neg c] at he
        unfold qX10_shareBits_39
        refine gx_of (v := y) (z1 := z2) ?_ ⟨f2, _, h2, k0_ok, agrV rfl⟩
        rw [pfR_run, pfR_mono 40 N _ _ y (by omega) he.symm]; rfl
theorem d_uneven (hw : WD z x ad W D) (hi : IVn W D n np T) (hA : G.2.2.1 ≤ x) (hN : 5000 < N) : ∃ y, dOK y = true ∧ qX9_unevenness N x G z = some (y, z) ∧ gx (qX10_unevenness N (x + 129) G z) (sameV T x z y) := by
  refine ⟨unV (W 1) (W 3) np, un_OK hi.i.j hi.m.p4, gx_eq ?_, ?_⟩
  · unfold qX9_unevenness
    exact gx_recvE hw.x9.o (by decide) (q_X9_sumOfSquares hw hi hN) (gx_ret ⟨rfl, rfl⟩)
  · unfold qX10_unevenness
    exact hw.m.p0 (by decide) (by omega) (fun z2 f2 h2 => gx_recvE h2.o (by decide) (q_X10_unevenNow h2 (cpM_keep hi.m rfl rfl) hi.i.j hi.s hN) (gx_ret (sameV_of hw hi f2 h2 rfl)))
theorem d_unevenBits (hw : WD z x ad W D) (hi : IVn W D n np T) (hA : G.2.2.1 ≤ x) (hN : 5000 < N) : ∃ y, qX9_unevennessBits N x G z = some (y, z) ∧ gx (qX10_unevennessBits N (x + 129) G z) (sameV T x z y) := by
  have hf := un_OK hi.i.j hi.m.p4
  unfold dOK at hf
  simp only [Bool.and_eq_true, decide_eq_true_eq] at hf
  obtain ⟨_, hs, he⟩ := hf
  obtain ⟨y, hy⟩ := Option.isSome_iff_exists.mp hs
  refine ⟨y, gx_eq ?_, ?_⟩
  · unfold qX9_unevennessBits
    exact gx_recvE hw.x9.o (by decide) (q_X9_sumOfSquares hw hi hN) (gx_callE (pdCB_run (by omega) hy) (gx_ret ⟨rfl, rfl⟩))
  · unfold qX10_unevennessBits
    refine hw.m.p0 (by decide) (by omega) (fun z2 f2 h2 => gx_recvE h2.o (by decide) (q_X10_unevenNow h2 (cpM_keep hi.m rfl rfl) hi.i.j hi.s hN) ?_)
    rw [hy] at he
    unfold pdRB at he
    refine gx_ite (fun c => ?_) (fun c => ?_)
    · rw [if_pos c] at he
      cases he
      exact gx_ret (sameV_of hw hi f2 h2 rfl)
    · rw [if_neg c] at he
      unfold qX10_unevennessBits_22
      refine gx_of (v := y) (z1 := z2) ?_ (sameV_of hw hi f2 h2 rfl)
      rw [pdR_run, pdR_mono 40 N _ _ y (by omega) he.symm]; rfl
end
