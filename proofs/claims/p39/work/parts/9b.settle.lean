/-! settle, foresee (by program) -/
theorem WD.c12 {z z1 : osS} {x : Nat} {ad : Nat → Nat} {W : Nat → Nat → Nat → Int32} {D : osS} (h : WD z x ad W D) {J L : Nat → Nat → Int32} (hf : osFr (x + 8) (x + 8 + 12) z z1) (hj : rX1 z1 (x + 8) J) (hl : rX2 z1 (x + 9) L) : WD z1 x ad (Ws (Ws W 5 J) 6 L) D := by
  obtain ⟨ha, hz, ⟨h9, h4, h1, h2, hb, hs, hn, hdr, ⟨f, hp, hp2⟩, hpa, ⟨t3, A3, D3, h3⟩, t7, A7, D7, h7⟩, hr, ho⟩ := h
  have hb9 := ha.b
  have hs9 := ha.s
  refine ⟨ha, hz.tr (hf.wide (by omega) (by omega)), ⟨by rw [Ws_ne (by omega), Ws_ne (by omega)]; exact h9.keep hf (by omega), by rw [Ws_ne (by omega), Ws_ne (by omega)]; exact h4.keep hf (by omega), by rw [Ws_ne (by omega), Ws_eq]; exact hj, by rw [Ws_eq]; exact hl, by rw [Ws_ne (by omega), Ws_ne (by omega)]; exact hb.keep hf (by omega), by rw [Ws_ne (by omega), Ws_ne (by omega)]; exact hs.keep hf (by omega), by rw [Ws_ne (by omega), Ws_ne (by omega)]; exact hn.keep hf (by omega), by rw [Ws_ne (by omega), Ws_ne (by omega)]; exact hdr.keep hf (by omega), ⟨f, hf.at (by omega) hp, hp2⟩, fun i hi => by rw [Ws_ne (by omega), Ws_ne (by omega)]; exact (hpa i hi).keep hf (by have := ha.p hi; omega), ⟨t3, A3, D3, h3.keep hf (by omega)⟩, t7, A7, D7, h7.keep hf (by omega)⟩, trivial, trivial⟩
def setC (W W' : Nat → Nat → Nat → Int32) (np t : Nat) : Prop := ∃ W1 s v T', remC W W1 s v ∧ W 0 9 0 = nI (v + s) ∧ v ≤ 5 ∧ (s = 0 ∨ s = 1 ∧ v = 5) ∧ coT (W 1) (W 3) T' (seaF (W 1) (W 3)) (xF (W 1) (W 3)) (nI (srs (W 1) (W 3) true).2.1) ∧ W' 3 = endS (W 1) T' np t (exn (disl (W 3) (xF (W 1) (W 3))) 16) ∧ ∀ k, k < 3 ∨ 7 ≤ k → W' k = W1 k
section
variable {G : osG} {z : osS} {N x n np T t : Nat} {ad : Nat → Nat} {W : Nat → Nat → Nat → Int32} {D : osS}
theorem gx_decide {β : Type} {f : Unit → osM β} {Q : β → osS → Prop} (hw : WD z x ad W D) (ho : okO (W 3)) (hA : G.2.2.1 ≤ x) (hN : 5000 < N) (k : ∀ z1 J L, WD z1 x ad (Ws (Ws W 5 J) 6 L) D → LK (W 1) (W 3) L → (∀ a, a < 16 → hi0 (L 10 a)) → WJ (W 1) (W 3) (seaF (W 1) (W 3)) (srs (W 1) (W 3) (seaF (W 1) (W 3))).1 J → J 7 0 = nI (srs (W 1) (W 3) true).2.1 → gx (f () G z1) Q) : gx (osbind (osrecv [1] (x + 8) (qX1_decide N (x + 8) (ad 0) (ad 2))) f G z) Q := by
  have hb9 := hw.ok.b
  have hs9 := hw.ok.s
  exact gx_recvQ hw.x1.o (by decide) (q_X1_decide hw.x1 hw.x2 hw.bd hw.nw (by omega) (by omega) (by omega) ho (by omega)) (fun _ z1 ⟨f1, J, L, h1, h2, a1, a2, a3, a4⟩ => k z1 J L (hw.c12 f1 h1 h2) a1 a2 a3 a4)
theorem q_X9_settle (hw : WD z x ad W D) (hi : IVn W D n np T) (ph : W 3 0 0 = 0) (et : W 3 1 0 = nI t) (ht31 : t < 2 ^ 31) (hA : G.2.2.1 ≤ x) (hN : 5000 < N) : gx (qX9_settle N x G z) (fun r z' => ∃ ad' W', WD z' x ad' W' D ∧ r = .inr (nI (cnt (srs (W 1) (W 3) (seaF (W 1) (W 3))).1)) ∧ setC W W' np t) := by
  have hor := hi.i.o ph
  have h16 := hi.m.n16
  have h4 := hi.m.p4
  have ho := okO_of hor h16
  have hb2 := hi.i.j.b2
  obtain ⟨u, h6, u1, _⟩ := hi.p
  unfold qX9_settle qX9_settle_82
  refine gx_reqPh hw (fun q => absurd ph q) (fun _ => ?_)
  refine gx_recvQ hw.x9.o (by decide) (q_X9_remember hw hA u1 h6 hb2 hN) (fun _ z1 ⟨ad1, W1, s, v, w1, euv, hv, hvs, rc⟩ => ?_)
  have k1 : W1 1 = W 1 := rc.2.2.2.1 1 (by omega) (by omega)
  have k3 : W1 3 = W 3 := rc.2.2.2.1 3 (by omega) (by omega)
  have hb9 := w1.ok.b
  have hs9 := w1.ok.s
  refine gx_gR w1.x9.o (by decide) rfl (gx_gR w1.x9.o (by decide) rfl (gx_gR w1.x9.o (by decide) rfl ?_))
  refine gx_decide w1 (by rw [k3]; exact ho) hA hN (fun z2 J L w2 hk hi10 hWJ hJ7 => ?_)
  rw [k1, k3] at hk hWJ hJ7
  refine gx_gR w2.x9.o (by decide) rfl (gx_gR w2.x9.o (by decide) rfl (gx_recvQ w2.dr.o (by decide) (q_X5_copyFrom w2.dr w2.nw (by omega) (by omega) ?_) (fun _ z3 ⟨f3, U, h3, u1', u2', u3'⟩ => ?_)))
  · rw [Ws_ne (by omega), Ws_ne (by omega), k3]; exact hb2
  have w3 := w2.cd f3 h3
  have hsE : sE (W 3) U := by
    rw [Ws_ne (by omega), Ws_ne (by omega), k3] at u1' u2' u3'
    exact ⟨u1', u2', u3'⟩
  have n3 := w3.nw
  have j3 := w3.x1
  have l3 := w3.x2
  have d3 := w3.dr
  rw [Ws_ne (by omega), Ws_ne (by omega), Ws_ne (by omega), k3] at n3
  rw [Ws_ne (by omega), Ws_ne (by omega), Ws_eq] at j3
  rw [Ws_ne (by omega), Ws_eq] at l3
  rw [Ws_eq] at d3
  have hX : ∀ a, bt (srs (W 1) (W 3) (seaF (W 1) (W 3))).1 a = true → a < 16 ∧ mv (W 3) a = true := fun a h => xF_in h
  refine gx_gR w3.x9.o (by decide) rfl (gx_gR w3.x9.o (by decide) rfl (gx_gR w3.x9.o (by decide) rfl (gx_recvQ w3.nw.o (by decide) (q_X5_carryOut n3 d3 j3 l3 (by omega) (by omega) (by omega) (fun a ha q => ?_) (LK_hi8 hk) hi10 (by omega)) (fun _ z4 ⟨f4, h4'⟩ => ?_))))
  · rw [hWJ.1] at q
    have hmv := (hX a q).2
    have hk0 : ¬ W 3 12 a = 0 := by unfold mv at hmv; simp at hmv; rw [hmv.2]; decide
    have := (ho a ha (by have := mv_uu hmv; unfold uu at this; simpa using this)).2.1 hk0
    have e13 : U 13 a = W 3 13 a := hsE.2.1 13 (by omega) (by omega) a ha
    unfold gof at this ⊢
    rw [e13]; exact this
  have w4 := w3.cn f4 h4'
  have hco : coT (W 1) (W 3) (cOut U J L (W 3)) (seaF (W 1) (W 3)) (xF (W 1) (W 3)) (nI (srs (W 1) (W 3) true).2.1) := by
    have := cOut_T (U := U) hk ho (fun k h5 hk9 a ha => hsE.2.1 k h5 hk9 a ha) hWJ hX (fun a c xa xc e => xF_u ho xa xc e)
    rw [hJ7] at this
    exact this
  have hXin : ∀ a, xF (W 1) (W 3) a = true → a < 16 ∧ mv (W 3) a = true := fun a h => xF_in h
  have hJt := coT_Jb hco hXin hi.m hi.i ph
  have hj60 : decide (J 6 0 = 0) = !exn (disl (W 3) (xF (W 1) (W 3))) 16 := by
    rw [i0_ex (fun i h1 h2 => by rw [hWJ.2.2.2 i h2]; simp; omega)]
    congr 1
    refine exn_cong (fun a ha => ?_)
    rw [hWJ.2.2.2 a (by omega), decide_eq_true ha]; rfl
  have e5 : J 5 0 = (srs (W 1) (W 3) (seaF (W 1) (W 3))).1 := hWJ.1
  have fin : ∀ z5 E, WD z5 x ad1 (Ws (Ws (Ws (Ws (Ws W1 5 J) 6 L) 4 U) 3 (cOut U J L (W 3))) 3 E) D → E = endS (W 1) (cOut U J L (W 3)) np t (exn (disl (W 3) (xF (W 1) (W 3))) 16) → gx ((osbind (osgR [7] 7 x) fun x1 => osbind (osgI [1] 5 x1) fun x2 => osbind (qJ6_bitCount_0f7a4 N x2) fun x3 => osRt (osret x3)) G z5) (fun r z' => ∃ ad' W', WD z' x ad' W' D ∧ r = .inr (nI (cnt (srs (W 1) (W 3) (seaF (W 1) (W 3))).1)) ∧ setC W W' np t) := fun z5 E w5 eE => by
    have j5 := w5.x1
    rw [Ws_ne (by omega), Ws_ne (by omega), Ws_ne (by omega), Ws_ne (by omega), Ws_eq] at j5
    refine gx_gR w5.x9.o (by decide) rfl (gx_gI j5.o (by decide) rfl ?_)
    rw [e5]
    refine gx_callE (q_bitCount (fun i h1 h2 => Bool.eq_false_iff.mpr (fun q => absurd (hX i q).1 (by omega)))) (gx_Rt (gx_ret ⟨ad1, _, w5, rfl, W1, s, v, _, rc, by rw [u1, euv], hv, hvs, hco, by rw [Ws_eq]; exact eE, fun k hk9 => ?_⟩))
    rw [Ws_ne (by omega), Ws_ne (by omega), Ws_ne (by omega), Ws_ne (by omega), Ws_ne (by omega)]
  have j4 := w4.x1
  rw [Ws_ne (by omega), Ws_ne (by omega), Ws_ne (by omega), Ws_eq] at j4
  have n4 := w4.nw
  rw [Ws_eq] at n4
  refine gx_gR w4.x9.o (by decide) rfl (gx_gI j4.o (by decide) rfl (gx_ite (fun c => ?_) (fun c => ?_)))
  · have hno : exn (disl (W 3) (xF (W 1) (W 3))) 16 = false := by
      rw [decide_eq_true c] at hj60
      cases q : exn (disl (W 3) (xF (W 1) (W 3))) 16
      · rfl
      · rw [q] at hj60; cases hj60
    have b4 := w4.bd
    rw [Ws_ne (by omega), Ws_ne (by omega), Ws_ne (by omega), Ws_ne (by omega), k1] at b4
    refine gx_gR w4.x9.o (by decide) rfl (gx_gR w4.x9.o (by decide) rfl (gx_recvQ w4.nw.o (by decide) (q_X5_closeTurn n4 b4 (by omega) (by omega) hi.m.c1 h4 (nu12 hJt) (by omega) (t := t) ?_ ht31) (fun _ z5 ⟨f5, h5⟩ => fin z5 _ (w4.cn f5 h5) ?_)))
    · rw [hco.1 1 (by omega)]; exact et
    · unfold endS; rw [hno]; rfl
  · have hyes : exn (disl (W 3) (xF (W 1) (W 3))) 16 = true := by
      rw [decide_eq_false c] at hj60
      cases q : exn (disl (W 3) (xF (W 1) (W 3))) 16
      · rw [q] at hj60; cases hj60
      · rfl
    refine gx_gR w4.x9.o (by decide) rfl (n4.p0 (by decide) (by omega) (fun z5 f5 h5 => fin z5 _ (w4.cn f5 h5) ?_))
    unfold endS; rw [hyes]; rfl
end
