/-! the law's own steps (5): the calls that go on, and what holds after each -/
theorem stI_closed {C S : Nat → Nat → Int32} {n np T : Nat} (h : stJ C S n np T) (hd : ∀ a, a < 16 → ds S a = false) : stI C (closed C S np) n np (T + 1) := by
  have hj : stJ C (ctr C S) n np T := stJ_ctr h
  have hd2 : ∀ a, a < 16 → ds (ctr C S) a = false := fun a ha => by
    have := hd a ha
    unfold ds at this ⊢
    rw [ctr_k (by omega)]; exact this
  show stI C (endT C (ctr C S) np) n np (T + 1)
  unfold endT
  by_cases c : (fd (fun p => !decide (bld C (ctr C S) (nI p) = 0)) 0 np).isSome = true
  · rw [if_pos c]; exact stI_T (stI_ph2 hj hd2) (Nat.le_succ T)
  · rw [if_neg c]; exact stI_go hj hd2
/-- what holds between two calls of the law's -/
def LW (z : osS) (x : Nat) (ad : Nat → Nat) (W : Nat → Nat → Nat → Int32) (n np T : Nat) : Prop := WD z x ad W z ∧ IVn W z n np T ∧ W 0 1 0 = nI 0 ∧ rgR x z
section
variable {z z1 : osS} {x n np T T' : Nat} {ad ad1 : Nat → Nat} {W W1 : Nat → Nat → Nat → Int32}
theorem LW.w (h : LW z x ad W n np T) : WD z x ad W z := h.1
theorem LW.i (h : LW z x ad W n np T) : IVn W z n np T := h.2.1
theorem LW.z0 (h : LW z x ad W n np T) : W 0 1 0 = nI 0 := h.2.2.1
theorem LW.r (h : LW z x ad W n np T) : rgR x z := h.2.2.2
theorem LW.n16 (h : LW z x ad W n np T) : n ≤ 16 := h.i.m.n16
theorem LW.c0 (h : LW z x ad W n np T) : W 1 0 0 = nI n := h.i.m.c0
theorem LW.c1 (h : LW z x ad W n np T) : W 1 1 0 = nI np := h.i.m.c1
theorem LW.sz (h : LW z x ad W n np T) : ∃ k, z.2 = some k ∧ x + 130 ≤ k := h.r.2
theorem rgR.cls (h : rgR x z) (f : osFr x (x + 129) z z1) : rgR x z1 := by
  obtain ⟨⟨g, hg⟩, k, hk, hk2⟩ := h
  exact ⟨⟨g, (f.1 _ (by omega)).trans hg⟩, k, f.2.trans hk, hk2⟩
theorem LW.cls (h : LW z x ad W n np T) (w : WD z1 x ad1 W1 z) (i : IVn W1 z n np T') (i0 : W1 0 1 0 = nI 0) : LW z1 x ad1 W1 n np T' := ⟨w.re, i.oD, i0, h.r.cls w.fr⟩
/-- all of the class' is as it was -/
theorem LW.far (h : LW z x ad W n np T) (k : ∀ c, x ≤ c → c < x + 130 → z1.1 c = z.1 c) (s : ∃ q, z1.2 = some q ∧ x + 130 ≤ q) : LW z1 x ad W n np T := ⟨h.w.far (fun c h1 h2 => k c h1 (by omega)), h.i.oD, h.z0, by
  obtain ⟨⟨g, hg⟩, _⟩ := h.r
  exact ⟨⟨g, (k _ (by omega) (by omega)).trans hg⟩, s⟩⟩
theorem LW.th (h : LW z x ad W n np T) : LW (thz z) x ad W n np T := h.far (fun _ _ _ => rfl) (by
  obtain ⟨q, hq, hq2⟩ := h.sz
  exact ⟨q + 1, by show z.2.map _ = _; rw [hq]; rfl, by omega⟩)
theorem LW.up (h : LW z x ad W n np T) (hT : T ≤ T') : LW z x ad W n np T' := by
  obtain ⟨w, ⟨a, b, c, ⟨u, u1, u2, u3⟩, e⟩, i0, r⟩ := h
  exact ⟨w, ⟨a, stI_T b hT, c, ⟨u, u1, u2, fun i hi => stI_T (u3 i hi) hT⟩, e⟩, i0, r⟩
/-- after a call that remembers -/
theorem IVn_end {D : osS} {s v : Nat} {W' : Nat → Nat → Nat → Int32} (hi : IVn W D n np T) (rc : remC W W1 s v) (e9 : W 0 9 0 = nI (v + s)) (hv : v ≤ 5) (hs : s = 0 ∨ s = 1 ∧ v = 5) (hk : ∀ k, k < 3 ∨ 7 ≤ k → W' k = W1 k) (i5 : stI (W 1) (W' 3) n np T') (hT : T ≤ T') : IVn W' D n np T' ∧ W' 1 = W 1 ∧ (∀ r, ¬ r = 9 → W' 0 r = W 0 r) ∧ W' 0 9 0 = nI (v + 1) := by
  obtain ⟨r1, r2, r3, r4, r5⟩ := rc
  have k1 : W' 1 = W 1 := (hk 1 (by omega)).trans (r4 1 (by omega) (by omega))
  have k0 : ∀ r, ¬ r = 9 → W' 0 r = W 0 r := fun r hr => by rw [hk 0 (by omega)]; exact r5 r hr
  obtain ⟨u, u6, u9, hp⟩ := hi.p
  have huv : u = v + s := by
    have q := congrArg Int32.toInt (u9.symm.trans e9)
    rw [nI_toInt (by omega), nI_toInt (by omega)] at q
    omega
  refine ⟨⟨by rw [k1]; exact hi.m, by rw [k1]; exact i5, by rw [k0 1 (by omega)]; exact hi.in, ⟨v + 1, by omega, by rw [hk 0 (by omega)]; exact r1, fun i hi2 => ?_⟩, fun k hk9 => by rw [k0 0 (by omega)]; exact hi.by9 k hk9⟩, k1, k0, by rw [hk 0 (by omega)]; exact r1⟩
  rw [k1, hk (8 + i) (by omega)]
  by_cases c : i < v
  · rw [r2 i c, show 8 + i + s = 8 + (i + s) by omega]
    exact stI_T (hp (i + s) (by omega)) hT
  · rw [show i = v by omega]
    exact stI_T (stI_sE r3 hi.m.n16 hi.i) hT
end
section
variable {α : Type} {G : osG} {z : osS} {N x n np T a b c : Nat} {ad : Nat → Nat} {W : Nat → Nat → Nat → Int32} {D : osS} {Q : α → osS → Prop}
theorem l_power3 {f : Int32 → osM α} {v : Int32} {p : Nat} (hw : WD z x ad W D) (hi : IVn W D n np T) (hp : p < np) (ev : v = nI p) (hN : 5000 < N) (k : gx (f (bld (W 1) (W 3) (nI p)) G z) Q) : gx (osbind (osrecv [7] x (osRV (qX9_power N x v (3 : Int32)))) f G z) Q := by
  subst ev
  have := hi.m.p4
  refine gx_bind (gx_recv hw.x9.o (by decide) (gx_RV ?_))
  unfold qX9_power
  refine gx_reqP hw hi.m.c1 (fun q => by rw [aB_nI (by omega) hp] at q; cases q) (fun _ => gx_reqR hw (q := 4) rfl (fun q => by cases q) (fun _ => ?_))
  exact gx_swD (c := 3) (Nat.le_refl 3) (by omega) (gx_gR hw.x9.o (by decide) rfl (gx_gR hw.x9.o (by decide) rfl (gx_recvE hw.nw.o (by decide) (q_countBuilds hw.nw hw.bd (nu12 hi.i.j) (by omega)) (gx_Rt (gx_ret ⟨_, rfl, k⟩)))))
theorem l_foresee {f : Int32 → osM α} {v w : Int32} (h : LW z x ad W n np T) (ha : a < n) (hc : c < 6) (ph : W 3 0 0 = 0) (ev : v = nI a) (ew : w = nI c) (hA : G.2.2.1 ≤ x) (hN : 5000 < N) (kk : ∀ z1 W1, osFr x (x + 129) z z1 → LW z1 x ad W1 n np T → (∀ k, ¬ k = 5 → ¬ k = 6 → W1 k = W k) → gx (f (exW (W 1) (W 3) (seaF (W 1) (W 3)) (xF (W 1) (W 3)) a c) G z1) Q) : gx (osbind (osrecv [7] x (osRV (qX9_foresee N x v w))) f G z) Q := by
  subst ev; subst ew
  have h16 := h.n16
  have ho := okO_of (h.i.i.o ph) h16
  have hw := h.w
  refine gx_bind (gx_recv hw.x9.o (by decide) (gx_RV ?_))
  unfold qX9_foresee
  refine gx_reqA hw h.c0 h16 (fun q => by rw [aB_nI (by omega) ha] at q; cases q) (fun _ => gx_reqR hw (q := 6) rfl (fun q => by rw [aB_nI (by omega) hc] at q; cases q) (fun _ => gx_reqPh hw (fun q => absurd ph q) (fun _ => ?_)))
  refine gx_gR hw.x9.o (by decide) rfl (gx_gR hw.x9.o (by decide) rfl (gx_gR hw.x9.o (by decide) rfl ?_))
  refine gx_decide hw ho hA hN (fun z2 J L w2 hk hi10 hWJ hJ7 => ?_)
  have j2 := w2.x1
  have l2 := w2.x2
  rw [Ws_ne (by omega), Ws_eq] at j2
  rw [Ws_eq] at l2
  refine gx_gR w2.x9.o (by decide) rfl (gx_recvE j2.o (by decide) (q_X1_explain j2 l2 (by omega) hc (LK_hi8 hk) hi10) (gx_Rt (gx_ret ⟨_, rfl, ?_⟩)))
  rw [exV_eq hk ho hWJ (by omega) hc]
  have kw : ∀ k, ¬ k = 5 → ¬ k = 6 → Ws (Ws W 5 J) 6 L k = W k := fun k h5 h6 => by rw [Ws_ne h6, Ws_ne h5]
  refine kk z2 _ w2.fr (h.cls w2 ?_ (by rw [kw 0 (by omega) (by omega)]; exact h.z0)) kw
  obtain ⟨m, i, inn, ⟨u, u6, u9, hp⟩, b9⟩ := h.i
  refine ⟨by rw [kw 1 (by omega) (by omega)]; exact m, by rw [kw 1 (by omega) (by omega), kw 3 (by omega) (by omega)]; exact i, by rw [kw 0 (by omega) (by omega)]; exact inn, ⟨u, u6, by rw [kw 0 (by omega) (by omega)]; exact u9, fun i hi => by rw [kw 1 (by omega) (by omega), kw (8 + i) (by omega) (by omega)]; exact hp i hi⟩, fun k hk => by rw [kw 0 (by omega) (by omega)]; exact b9 k hk⟩
theorem l_settle {f : Int32 → osM α} (h : LW z x ad W n np T) (ph : W 3 0 0 = 0) (hT : T < 5000) (hA : G.2.2.1 ≤ x) (hN : 5000 < N) (kk : ∀ z1 ad1 W1 t, osFr x (x + 129) z z1 → LW z1 x ad1 W1 n np (T + 1) → W 3 1 0 = nI t → t < 5000 → setC W W1 np t → W1 1 = W 1 → gx (f (nI (cnt (srs (W 1) (W 3) (seaF (W 1) (W 3))).1)) G z1) Q) : gx (osbind (osrecv [7] x (osRV (qX9_settle N x))) f G z) Q := by
  obtain ⟨t, et, t1, t2⟩ := h.i.i.j.t
  refine gx_bind (gx_recv h.w.x9.o (by decide) (gx_RV (gx_mono (q_X9_settle h.w h.i ph et (by omega) hA hN) (fun r z1 ⟨ad1, W', w1, e1, sc⟩ => ⟨_, e1, ?_⟩))))
  obtain ⟨W1, s, v, T', rc, e9, hv, hs, hco, e3, hk⟩ := id sc
  have hXin : ∀ a, xF (W 1) (W 3) a = true → a < 16 ∧ mv (W 3) a = true := fun a h => xF_in h
  have hJt := coT_Jb hco hXin h.i.m h.i.i ph
  have i5 : stI (W 1) (W' 3) n np (T + 1) := by
    rw [e3]
    unfold endS
    by_cases c : exn (disl (W 3) (xF (W 1) (W 3))) 16 = true
    · rw [if_pos c]
      exact stI_T (T := T) ⟨hJt, Or.inr (Or.inl rfl), fun _ _ _ => rfl, fun q => absurd (show (1 : Int32) = 0 from q) (by decide)⟩ (Nat.le_succ T)
    · rw [if_neg c]
      have hd : ∀ a, a < 16 → ds T' a = false := fun a ha => by
        rw [coT_ds hco ha]
        cases q : disl (W 3) (xF (W 1) (W 3)) a
        · rfl
        · exact absurd (exn_iff.mpr ⟨a, ha, q⟩) c
      by_cases c2 : t % 2 = 0
      · rw [if_pos c2]; exact stI_closed hJt hd
      · rw [if_neg c2]; exact stI_go hJt hd
  obtain ⟨g1, g2, g3, g4⟩ := IVn_end h.i rc e9 hv hs hk i5 (Nat.le_succ T)
  exact kk z1 ad1 W' t w1.fr (h.cls w1 g1 (by rw [g3 1 (by omega)]; exact h.z0)) et (by omega) sc g2
theorem l_endRetreats {f : Int32 → osM α} (h : LW z x ad W n np T) (ph : W 3 0 0 = 1) (hT : T < 5000) (hA : G.2.2.1 ≤ x) (hN : 5000 < N) (kk : ∀ z1 ad1 W1 t, osFr x (x + 129) z z1 → LW z1 x ad1 W1 n np (T + 1) → W1 1 = W 1 → W1 3 = (if t % 2 = 0 then closed (W 1) (retS (W 3)) np else begun (retS (W 3))) → gx (f (crW (W 3) 16).2 G z1) Q) : gx (osbind (osrecv [7] x (osRV (qX9_endRetreats N x))) f G z) Q := by
  obtain ⟨t, et, t1, t2⟩ := h.i.i.j.t
  refine gx_bind (gx_recv h.w.x9.o (by decide) (gx_RV (gx_mono (q_X9_endRetreats h.w h.i ph et (by omega) hA hN) (fun r z1 ⟨ad1, W', w1, e1, sc⟩ => ⟨_, e1, ?_⟩))))
  obtain ⟨W1, s, v, rc, e9, hv, hs, e3, hk⟩ := sc
  have hJ := ret_J h.i.i.j h.n16 h.i.m.p4
  have i5 : stI (W 1) (W' 3) n np (T + 1) := by
    rw [e3]
    by_cases c2 : t % 2 = 0
    · rw [if_pos c2]; exact stI_closed hJ (fun a ha => ret_ds ha)
    · rw [if_neg c2]; exact stI_go hJ (fun a ha => ret_ds ha)
  obtain ⟨g1, g2, g3, g4⟩ := IVn_end h.i rc e9 hv hs hk i5 (Nat.le_succ T)
  exact kk z1 ad1 W' t w1.fr (h.cls w1 g1 (by rw [g3 1 (by omega)]; exact h.z0)) g2 e3
theorem l_endBuilds {f : Int32 → osM α} (h : LW z x ad W n np T) (ph : W 3 0 0 = 2) (hT : T < 5000) (hA : G.2.2.1 ≤ x) (hN : 5000 < N) (kk : ∀ z1 ad1 W1 V, osFr x (x + 129) z z1 → LW z1 x ad1 W1 n np (T + 1) → W1 1 = W 1 → isR (fun _ => true) (W 3) V → W1 3 = begun V → gx (f (nI (fb_ct (fun j => rm (W 3) (15 - j)) 16)) G z1) Q) : gx (osbind (osrecv [7] x (osRV (qX9_endBuilds N x))) f G z) Q := by
  refine gx_bind (gx_recv h.w.x9.o (by decide) (gx_RV (gx_mono (q_X9_endBuilds h.w h.i ph hA hN) (fun r z1 ⟨ad1, W', V, w1, e1, hR, sc⟩ => ⟨_, e1, ?_⟩))))
  obtain ⟨W1, s, v, rc, e9, hv, hs, e3, hk⟩ := sc
  have i5 : stI (W 1) (W' 3) n np (T + 1) := by
    rw [e3]
    refine stI_go (isR_J h.i.i.j hR) (fun a ha => ?_)
    have : ds (W 3) a = false := by
      cases q : ds (W 3) a
      · rfl
      · have := h.i.i.d1 a ha q
        rw [ph] at this
        exact absurd this (by decide)
    unfold ds at this ⊢
    rw [hR.2.2 8 (by omega) (by omega)]; exact this
  obtain ⟨g1, g2, g3, g4⟩ := IVn_end h.i rc e9 hv hs hk i5 (Nat.le_succ T)
  exact kk z1 ad1 W' V w1.fr (h.cls w1 g1 (by rw [g3 1 (by omega)]; exact h.z0)) g2 hR e3
theorem q_L_undone {v : Nat} {Q : Int32 → osS → Prop} (h : LW z x ad W n np T) (hv : v < 6) (e9 : W 0 9 0 = nI (v + 1)) (hA : G.2.2.1 ≤ x) (hN : 5000 < N) (kk : ∀ z1 W1, osFr x (x + 129) z z1 → LW z1 x ad W1 n np T → W1 1 = W 1 → sE (W (8 + v)) (W1 3) → Q (nI v) z1) : gx (qL_undone N x G z) Q := by
  have hw := h.w
  unfold qL_undone
  refine gx_bindC (gx_recv hw.x9.o (by decide) ?_)
  unfold qX9_undo
  refine gx_gI hw.x9.o (by decide) rfl ?_
  rw [e9]
  refine gx_itef (fun c => by have := (nI_ltI (a := v + 1) (b := 1) (by omega) (by omega)).mp c; omega) (gx_gI hw.x9.o (by decide) rfl ?_)
  rw [e9]
  refine gx_itet ((nI_leI (a := v + 1) (b := 6) (by omega) (by omega)).mpr (by omega)) (gx_gI hw.x9.o (by decide) rfl ?_)
  rw [e9, show nI (v + 1) - (1 : Int32) = nI v from nI_sub (a := v + 1) (b := 1) (by omega)]
  refine hw.x9.p9 (by decide) hA (fun z1 f1 h1 => ?_)
  have hw1 := hw.c9 f1 h1
  obtain ⟨f, hf, hf2⟩ := hw1.pa
  have hp9 := hw.ok.p (i := v) (by omega)
  have hs9 := hw.ok.s
  obtain ⟨u, u6, u9, hp⟩ := h.i.p
  have huv : u = v + 1 := by
    have q := congrArg Int32.toInt (u9.symm.trans e9)
    rw [nI_toInt (by omega), nI_toInt (by omega)] at q
    omega
  have hps := hp v (by omega)
  refine gx_gR hw1.x9.o (by decide) rfl (gx_gR hw1.x9.o (by decide) rfl (gx_gI hw1.x9.o (by decide) rfl (gx_aNR (i := v) hf (by omega) (by omega) (hf2 v (by omega)) (gx_recvQ hw1.nw.o (by decide) (q_X5_copyFrom hw1.nw (hw1.ps (i := v) (by omega)) (by omega) (by omega) ?_) (fun _ z2 ⟨f2, S', h2, e1, e2, e3⟩ => ?_)))))
  · rw [Ws_ne (by omega)]; exact hps.j.b2
  · have hw2 := hw1.cn f2 h2
    rw [Ws_ne (by omega)] at e1 e2 e3
    have hsE : sE (W (8 + v)) S' := ⟨e1, e2, e3⟩
    refine gx_gI hw2.x9.o (by decide) rfl (gx_Rt (gx_ret (gx_ret ?_)))
    have kr : ∀ r, ¬ r = 9 → Ws (Ws W 0 (cset (W 0) 9 fun _ => nI v)) 3 S' 0 r = W 0 r := fun r hr => by rw [Ws_ne (by omega), Ws_eq]; exact cset_ne hr
    have k9 : Ws (Ws W 0 (cset (W 0) 9 fun _ => nI v)) 3 S' 0 9 0 = nI v := by rw [Ws_ne (by omega), Ws_eq]; rfl
    have kw : ∀ k, ¬ k = 0 → ¬ k = 3 → Ws (Ws W 0 (cset (W 0) 9 fun _ => nI v)) 3 S' k = W k := fun k h0 h3 => by rw [Ws_ne h3, Ws_ne h0]
    refine kk z2 _ hw2.fr (h.cls hw2 ⟨by rw [kw 1 (by omega) (by omega)]; exact h.i.m, ?_, by rw [kr 1 (by omega)]; exact h.i.in, ⟨v, by omega, k9, fun i hi => ?_⟩, fun k hk => by rw [kr 0 (by omega)]; exact h.i.by9 k hk⟩ (by rw [kr 1 (by omega)]; exact h.z0)) (kw 1 (by omega) (by omega)) (by rw [Ws_eq]; exact hsE)
    · rw [kw 1 (by omega) (by omega), Ws_eq]
      exact stI_sE hsE h.n16 hps
    · rw [kw 1 (by omega) (by omega), kw (8 + i) (by omega) (by omega)]
      exact hp i (by omega)
end
