/-! what is remembered: the reference; undo (by program) -/
theorem IV_mk {W W' : Nat → Nat → Nat → Int32} {D : Nat → Nat → Int64} {n np T T' : Nat} (h : IVn W D n np T) (e1 : W' 1 = W 1) (e7 : W' 7 = W 7) (e0 : ∀ r, r = 0 ∨ r = 1 ∨ r = 3 ∨ r = 4 → W' 0 r = W 0 r) (e20 : ∀ r, r = 1 ∨ r = 9 ∨ r = 10 ∨ r = 16 ∨ r = 17 ∨ r = 41 ∨ r = 42 → W' 20 r = W 20 r) (ht : cpT (W' 3) (W' 20 3)) (hs : stI (W 1) (W' 3) n np T') (hp : cpP W' n np T') : IVn W' D n np T' := by
  obtain ⟨h1, _, _, h4, h5, _, h10⟩ := h
  refine ⟨?_, ht, ?_, ?_, ?_, hp, ?_⟩
  · rw [e1]; exact cpM_keep h1 (e20 1 (by omega)) rfl
  · rw [e1]; exact hs
  · unfold cpIn at h4 ⊢
    rw [e0 0 (by omega), e0 1 (by omega), e20 9 (by omega), e20 10 (by omega)]; exact h4
  · rw [e0 3 (by omega), e0 4 (by omega), e20 16 (by omega), e20 17 (by omega)]; exact h5
  · unfold cpO at h10 ⊢
    rw [e7, e20 41 (by omega), e20 42 (by omega)]; exact h10
def remR (M M' : Nat → Nat → Int32) (s v : Nat) : Prop := M' 8 0 = nI (v + 1) ∧ (∀ j, j < 261 * v → M' 5 j = M 5 (j + 261 * s)) ∧ (∀ j, j < 261 → M' 5 (261 * v + j) = M 3 j) ∧ ∀ k, ¬ k = 5 → ¬ k = 8 → M' k = M k
theorem cpP_rem {W W' : Nat → Nat → Nat → Int32} {n np T s v : Nat} (hp : cpP W n np T) (hs : cpT (W 3) (W 20 3)) (hi : stI (W 1) (W 3) n np T) (h16 : n ≤ 16) (e : W 0 9 0 = nI (v + s)) (hv : v ≤ 5) (hs1 : s ≤ 1) (hc1 : W' 0 9 0 = nI (v + 1)) (hc2 : ∀ i, i < v → W' (8 + i) = W (8 + i + s)) (hc3 : sE (W 3) (W' (8 + v))) {M : Nat → Nat → Int32} (hr1 : W' 20 8 0 = nI (v + 1)) (hr2 : ∀ j, j < 261 * v → W' 20 5 j = M 5 (j + 261 * s)) (hr3 : ∀ j, j < 261 → W' 20 5 (261 * v + j) = M 3 j) (e5 : M 5 = W 20 5) (e3 : ∀ j, j < 261 → M 3 j = W 20 3 j) (e1 : W' 1 = W 1) : cpP W' n np T := by
  obtain ⟨u, hu, u1, u2, hp⟩ := hp
  have huv : u = v + s := by
    have q := congrArg Int32.toInt (u1.symm.trans e)
    rw [nI_toInt (by omega), nI_toInt (by omega)] at q
    omega
  subst huv
  refine ⟨v + 1, by omega, hc1, hr1, fun i hi2 => ?_⟩
  rw [e1]
  by_cases q : i = v
  · subst q
    refine ⟨cpT_fE (cpT_sE hc3 hs) (fun j hj => ?_), stI_sE hc3 h16 hi⟩
    rw [hr3 j hj, e3 j hj]
  · have ei := hc2 i (by omega)
    rw [ei]
    have := hp (i + s) (by omega)
    rw [show 8 + i + s = 8 + (i + s) by omega]
    refine ⟨cpT_fE this.1 (fun j hj => ?_), this.2⟩
    rw [hr2 (261 * i + j) (by omega), e5, show 261 * i + j + 261 * s = 261 * (i + s) + j by omega]
section
variable {G : osG} {z : osS} {N m v u : Nat} {M : Nat → Nat → Int32} {D : Nat → Nat → Int64}
theorem q_X10_remembers_52 (hm : rX10 z m M D) (hA : G.2.2.1 ≤ m) (hv : M 8 0 = nI v) (h5 : v ≤ 5) (hN : 5000 < N) : gx (qX10_remembers_52 N m G z) (fun _ z' => osFr m (m + 21) z z' ∧ ∃ M', rX10 z' m M' D ∧ remR M M' 0 v) := by
  unfold qX10_remembers_52
  refine gx_loop 261 (fun i p z' => p = (m, nI i) ∧ osFr m (m + 21) z z' ∧ ∃ M', rX10 z' m M' D ∧ (∀ k, M' 5 k = if 261 * v ≤ k ∧ k < 261 * v + i then M 3 (k - 261 * v) else M 5 k) ∧ ∀ k, ¬ k = 5 → M' k = M k) ?_ ?_ N 0 _ z (Nat.zero_le _) (by omega) ⟨rfl, osFr.rf, M, hm, fun k => (if_neg (by omega)).symm, fun _ _ => rfl⟩
  · rintro ih i p z' hi ⟨rfl, fr, M', h', e5, er⟩ k
    show gx (bX10_remembers_54 N ih m (nI i) G z') _
    unfold bX10_remembers_54
    have e8 : M' 8 0 = nI v := by rw [er 8 (by omega)]; exact hv
    refine gx_itef (nI_ge (a := i) (b := 261) hi (by omega)) (gx_gR h'.o (by decide) rfl (gx_gI h'.o (by decide) rfl (gx_gR h'.o (by decide) rfl (gx_aE h'.a3 rfl hi (Nat.le_of_ble_eq_true rfl) ?_))))
    rw [e8]
    refine h'.s5 (i := 261 * v + i) (nI_sum (nI_prod (a := 261) rfl rfl) rfl) (by omega) hA (fun z2 f2 h2 => k _ _ ⟨congrArg (fun t => (_, t)) (nI_sum (b := 1) rfl rfl), fr.tr f2, _, h2, fun j => ?_, fun r hr => ?_⟩)
    · have := upd_if (u := fun j => M' 3 j) (g := M' 5) (h := M 5) (b := 261 * v) (i := i) (by rw [er 3 (by omega)]; exact e5) j
      rw [er 3 (by omega)] at this
      refine Eq.trans ?_ this
      show (if j = 261 * v + i then M' 3 i else M' 5 j) = _
      rw [er 3 (by omega)]
    · rw [cset_ne hr]; exact er r hr
  · rintro ih p z' ⟨rfl, fr, M', h', e5, er⟩
    show gx (bX10_remembers_54 N ih m (nI 261) G z') _
    unfold bX10_remembers_54
    refine gx_itet (by decide) (gx_gI h'.o (by decide) rfl (h'.p8 (by decide) hA (fun z2 f2 h2 => gx_ret ⟨fr.tr f2, _, h2, ?_, fun j hj => ?_, fun j hj => ?_, fun r q5 q8 => ?_⟩)))
    · show M' 8 0 + (1 : Int32) = _
      rw [er 8 (by omega), hv]; exact nI_sum (b := 1) rfl rfl
    · show M' 5 j = _
      rw [e5, if_neg (by omega)]; rfl
    · show M' 5 (261 * v + j) = _
      rw [e5, if_pos (by omega), show 261 * v + j - 261 * v = j by omega]
    · rw [cset_ne q8]; exact er r q5
theorem q_X10_remembers (hm : rX10 z m M D) (hA : G.2.2.1 ≤ m) {s : Nat} (hv : M 8 0 = nI (v + s)) (h5 : v ≤ 5) (hvs : s = 0 ∨ s = 1 ∧ v = 5) (hN : 5000 < N) : gx (qX10_remembers N m G z) (fun _ z' => osFr m (m + 21) z z' ∧ ∃ M', rX10 z' m M' D ∧ remR M M' s v) := by
  unfold qX10_remembers
  refine gx_gI hm.o (by decide) rfl ?_
  rw [hv]
  by_cases q : s = 0
  · subst q
    exact gx_itef (fun c => by have c := congrArg Int32.toInt c; rw [nI_toInt (by omega)] at c; have : (6 : Int32).toInt = 6 := rfl; omega) (q_X10_remembers_52 hm hA hv h5 hN)
  · obtain ⟨rfl, rfl⟩ : s = 1 ∧ v = 5 := by omega
    refine gx_itet rfl ?_
    refine gx_loop 1305 (fun i p z' => p = (m, nI (i + 261)) ∧ osFr m (m + 21) z z' ∧ ∃ M', rX10 z' m M' D ∧ (∀ k, k < i → M' 5 k = M 5 (k + 261)) ∧ (∀ k, i ≤ k → M' 5 k = M 5 k) ∧ ∀ k, ¬ k = 5 → M' k = M k) ?_ ?_ N 0 _ z (Nat.zero_le _) (by omega) ⟨rfl, osFr.rf, M, hm, fun k hk => absurd hk (by omega), fun _ _ => rfl, fun _ _ => rfl⟩
    · rintro ih i p z' hi ⟨rfl, fr, M', h', a1, a2, er⟩ k
      show gx (bX10_remembers_13 N ih m (nI (i + 261)) G z') _
      unfold bX10_remembers_13
      refine gx_itef (nI_ge (a := i + 261) (b := 1566) (by omega) (by omega)) (gx_gR h'.o (by decide) rfl (gx_gR h'.o (by decide) rfl (gx_aE h'.a5 rfl (by omega) (Nat.le_of_ble_eq_true rfl) ?_)))
      refine h'.s5 (i := i) ((nI_sub (a := i + 261) (b := 261) (by omega)).trans (congrArg nI (Nat.add_sub_cancel (n := i) (m := 261)))) (by omega) hA (fun z2 f2 h2 => k _ _ ⟨congrArg (fun t => (_, t)) (show nI (i + 261) + (1 : Int32) = nI (i + 1 + 261) by rw [show i + 1 + 261 = i + 261 + 1 by omega]; exact nI_sum (b := 1) rfl rfl), fr.tr f2, _, h2, fun j hj => ?_, fun j hj => ?_, fun r hr => ?_⟩)
      · show (if j = i then M' 5 (i + 261) else M' 5 j) = _
        by_cases e : j = i
        · subst e; rw [if_pos rfl]; exact a2 _ (by omega)
        · rw [if_neg e]; exact a1 j (by omega)
      · show (if j = i then M' 5 (i + 261) else M' 5 j) = _
        rw [if_neg (by omega)]; exact a2 j (by omega)
      · rw [cset_ne hr]; exact er r hr
    · rintro ih p z' ⟨rfl, fr, M', h', a1, a2, er⟩
      show gx (bX10_remembers_13 N ih m (nI (1305 + 261)) G z') _
      unfold bX10_remembers_13
      have e8 : M' 8 0 = nI 6 := by rw [er 8 (by omega)]; exact hv
      refine gx_itet (by decide) (gx_gI h'.o (by decide) rfl ?_)
      rw [e8]
      refine h'.p8 (by decide) hA (fun z2 f2 h2 => gx_mono (q_X10_remembers_52 (v := 5) h2 hA rfl (by omega) hN) (fun _ z3 ⟨f3, M3, h3, r1, r2, r3, r4⟩ => ⟨fr.tr (f2.tr f3), M3, h3, r1, fun j hj => ?_, fun j hj => ?_, fun r q5 q8 => ?_⟩))
      · rw [r2 j hj]
        exact a1 j (by omega)
      · rw [r3 j hj]
        show M' 3 j = _
        rw [er 3 (by omega)]
      · rw [r4 r q5 q8, cset_ne q8]; exact er r q5
theorem q_X10_undo_33 (hm : rX10 z m M D) (hA : G.2.2.1 ≤ m) (hv : M 8 0 = nI v) (h5 : v ≤ 5) (hN : 5000 < N) : gx (qX10_undo_33 N (m, (0 : Int32)) G z) (fun b z' => b = nI v ∧ osFr m (m + 21) z z' ∧ ∃ M', rX10 z' m M' D ∧ (∀ j, j < 261 → M' 3 j = M 5 (261 * v + j)) ∧ ∀ k, ¬ k = 3 → M' k = M k) := by
  refine gx_loop 261 (fun i p z' => p = (m, nI i) ∧ osFr m (m + 21) z z' ∧ ∃ M', rX10 z' m M' D ∧ (∀ j, j < i → M' 3 j = M 5 (261 * v + j)) ∧ ∀ k, ¬ k = 3 → M' k = M k) ?_ ?_ N 0 _ z (Nat.zero_le _) (by omega) ⟨rfl, osFr.rf, M, hm, fun k hk => absurd hk (by omega), fun _ _ => rfl⟩
  · rintro ih i p z' hi ⟨rfl, fr, M', h', a1, er⟩ k
    show gx (bX10_undo_33 N ih m (nI i) G z') _
    unfold bX10_undo_33
    have e8 : M' 8 0 = nI v := by rw [er 8 (by omega)]; exact hv
    refine gx_itef (nI_ge (a := i) (b := 261) hi (by omega)) (gx_gR h'.o (by decide) rfl (gx_gR h'.o (by decide) rfl (gx_gI h'.o (by decide) rfl ?_)))
    rw [e8]
    refine gx_aE (i := 261 * v + i) h'.a5 (nI_sum (nI_prod (a := 261) rfl rfl) rfl) (by omega) (Nat.le_of_ble_eq_true rfl) (h'.s3 (i := i) rfl (by omega) hA (fun z2 f2 h2 => k _ _ ⟨congrArg (fun t => (_, t)) (nI_sum (b := 1) rfl rfl), fr.tr f2, _, h2, fun j hj => ?_, fun r hr => ?_⟩))
    · show (if j = i then M' 5 (261 * v + i) else M' 3 j) = _
      by_cases e : j = i
      · subst e; rw [if_pos rfl, er 5 (by omega)]
      · rw [if_neg e]; exact a1 j (by omega)
    · rw [cset_ne hr]; exact er r hr
  · rintro ih p z' ⟨rfl, fr, M', h', a1, er⟩
    show gx (bX10_undo_33 N ih m (nI 261) G z') _
    unfold bX10_undo_33
    have e8 : M' 8 0 = nI v := by rw [er 8 (by omega)]; exact hv
    exact gx_itet (by decide) (gx_gI h'.o (by decide) rfl (gx_ret ⟨e8, fr, M', h', a1, er⟩))
end
theorem c_undo {G : osG} {z : osS} {N x n np T : Nat} {ad : Nat → Nat} {W : Nat → Nat → Nat → Int32} {D : Nat → Nat → Int64} (hw : WD z x ad W D) (hi : IVn W D n np T) (hA : G.2.2.1 ≤ x) (hN : 5000 < N) : callT G z x T [(0, (1 : Int32))] (qX9_undo N x) (qX10_undo N (x + 129)) := by
  obtain ⟨u, h6, u1, u2, hp⟩ := hi.p
  have hA' : G.2.2.1 ≤ x + 129 := by omega
  cases u with
  | zero =>
    refine call_of hw (pair_of hi (.inl 0) ?_ (fun z1 ad1 hw1 => ?_))
    · unfold qX9_undo qX9_undo_17
      refine gx_gI hw.x9.o (by decide) rfl ?_
      rw [u1]
      exact gx_itet (by decide) (gx_throw hw.nz ⟨rfl, rfl⟩)
    · unfold qX10_undo qX10_undo_13
      refine gx_gI hw1.m.o (by decide) rfl ?_
      rw [u2]
      refine gx_itet rfl ?_
      exact gx_refT hw1.m hA' (by decide) (fun z2 f2 h2 => gx_ret ⟨f2, _, h2, k0_ok, agrT (j := 0) (q := (0, 1)) rfl rfl (by decide)⟩)
  | succ v =>
    obtain ⟨hpt, hps⟩ := hp v (by omega)
    refine ⟨fun r _ W1 D1 => r = .inr (nI v) ∧ D1 = D ∧ ∃ S', sE (W (8 + v)) S' ∧ W1 = Ws (Ws W 0 (cset (W 0) 9 fun _ => nI v)) 3 S', ?_, ?_⟩
    · unfold qX9_undo
      refine gx_gI hw.x9.o (by decide) rfl ?_
      rw [u1]
      refine gx_itef (fun c => by have := (nI_ltI (a := v + 1) (b := 1) (by omega) (by omega)).mp c; omega) (gx_gI hw.x9.o (by decide) rfl ?_)
      rw [u1]
      refine gx_itet ((nI_leI (a := v + 1) (b := 6) (by omega) (by omega)).mpr h6) (gx_gI hw.x9.o (by decide) rfl ?_)
      rw [u1, show nI (v + 1) - (1 : Int32) = nI v from nI_sub (a := v + 1) (b := 1) (by omega)]
      refine hw.x9.p9 (by decide) hA (fun z1 f1 h1 => ?_)
      have hw1 := hw.c9 f1 h1
      obtain ⟨f, hf, hf2⟩ := hw1.pa
      have hp9 := hw.ok.p (i := v) (by omega)
      have hs9 := hw.ok.s
      refine gx_gR hw1.x9.o (by decide) rfl (gx_gR hw1.x9.o (by decide) rfl (gx_gI hw1.x9.o (by decide) rfl (gx_aNR (i := v) hf (by omega) (by omega) (hf2 v (by omega)) (gx_recvQ hw1.nw.o (by decide) (q_X5_copyFrom hw1.nw (hw1.ps (i := v) (by omega)) (by omega) (by omega) ?_) (fun _ z2 ⟨f2, S', h2, e1, e2, e3⟩ => ?_)))))
      · rw [Ws_ne (by omega)]; exact hps.j.b2
      · have hw2 := hw1.cn f2 h2
        refine gx_gI hw2.x9.o (by decide) rfl (gx_Rt (gx_ret ⟨ad, _, D, hw2, ?_, rfl, S', ?_, rfl⟩))
        · rw [Ws_ne (by omega), Ws_eq]; rfl
        · rw [Ws_ne (by omega)] at e1 e2 e3
          exact ⟨e1, e2, e3⟩
    · rintro r z1 ad1 W1 D1 hw1 ⟨rfl, rfl, S', hS, rfl⟩
      unfold qX10_undo qX10_undo_13
      have hm1 := hw1.m
      rw [Ws_ne (by omega), Ws_ne (by omega)] at hm1
      refine gx_gI hm1.o (by decide) rfl ?_
      rw [u2]
      refine gx_itef (nI_n0 (by omega)) (gx_refF hm1 hA' (fun z2 f2 h2 => gx_gI h2.o (by decide) rfl ?_))
      rw [show (cset (W 20) 0 fun _ => (0 : Int32)) 8 0 = nI (v + 1) from u2, show nI (v + 1) - (1 : Int32) = nI v from nI_sub (a := v + 1) (b := 1) (by omega)]
      refine h2.p8 (by decide) hA' (fun z3 f3 h3 => gx_mono (q_X10_undo_33 (v := v) h3 hA' rfl (by omega) hN) (fun b z4 ⟨eb, f4, M', h4, a1, er⟩ => ?_))
      have fr := f2.tr (f3.tr f4)
      have ek : ∀ k, ¬ k = 3 → ¬ k = 8 → ¬ k = 0 → M' k = W 20 k := fun k q3 q8 q0 => by rw [er k q3, cset_ne q8, cset_ne q0]
      refine ⟨fr, ad1, _, D1, hw1.ref fr h4, ⟨n, np, IV_mk hi ?_ ?_ (fun r hr => ?_) (fun r hr => ?_) ?_ ?_ ?_⟩, ?_⟩
      · rw [Ws_ne (by omega), Ws_ne (by omega), Ws_ne (by omega)]
      · rw [Ws_ne (by omega), Ws_ne (by omega), Ws_ne (by omega)]
      · rw [Ws_ne (by omega), Ws_ne (by omega), Ws_eq, cset_ne (by omega)]
      · rw [Ws_eq]; exact ek r (by omega) (by omega) (by omega)
      · rw [Ws_ne (by omega), Ws_eq, Ws_eq]
        exact cpT_fE (cpT_sE hS hpt) a1
      · rw [Ws_ne (by omega), Ws_eq]
        exact stI_sE hS hi.m.n16 hps
      · refine ⟨v, by omega, ?_, ?_, fun i hi2 => ?_⟩
        · rw [Ws_ne (by omega), Ws_ne (by omega), Ws_eq]; rfl
        · rw [Ws_eq, er 8 (by omega)]; rfl
        · rw [Ws_ne (by omega), Ws_ne (by omega), Ws_ne (by omega), Ws_eq, ek 5 (by omega) (by omega) (by omega), Ws_ne (by omega), Ws_ne (by omega), Ws_ne (by omega)]
          exact hp i (by omega)
      · rw [Ws_eq]
        exact ⟨by rw [er 0 (by omega)]; rfl, eb.symm⟩
