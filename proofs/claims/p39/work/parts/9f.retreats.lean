/-! endRetreats (2) (by program) -/
def clrF (f : Nat → Int32) : Nat → Int32 := fun j => if 53 ≤ j ∧ j < 69 ∨ 85 ≤ j ∧ j < 117 then -1 else f j
section
variable {G : osG} {z : osS} {N m n np T : Nat} {C S M : Nat → Nat → Int32} {D : Nat → Nat → Int64}
end
def endC (W W' : Nat → Nat → Nat → Int32) (E : Nat → Nat → Int32) : Prop := ∃ W1 s v, remC W W1 s v ∧ W 0 9 0 = nI (v + s) ∧ v ≤ 5 ∧ (s = 0 ∨ s = 1 ∧ v = 5) ∧ W' 3 = E ∧ ∀ k, k < 3 ∨ 7 ≤ k → W' k = W1 k
section
variable {G : osG} {z : osS} {N x n np T : Nat} {ad : Nat → Nat} {W : Nat → Nat → Nat → Int32} {D : osS}
theorem q_X9_endRetreats (hw : WD z x ad W D) (hi : IVn W D n np T) (ph : W 3 0 0 = 1) {t : Nat} (et : W 3 1 0 = nI t) (ht31 : t < 2 ^ 31) (hA : G.2.2.1 ≤ x) (hN : 5000 < N) : gx (qX9_endRetreats N x G z) (fun r z' => ∃ ad' W', WD z' x ad' W' D ∧ r = .inr ((crW (W 3) 16).2) ∧ endC W W' (if t % 2 = 0 then closed (W 1) (retS (W 3)) np else begun (retS (W 3)))) := by
  have h16 := hi.m.n16
  have h4 := hi.m.p4
  have hb2 := hi.i.j.b2
  obtain ⟨u, h6, u1, _⟩ := hi.p
  unfold qX9_endRetreats
  refine gx_reqPh hw (fun q => absurd ph q) (fun _ => ?_)
  refine gx_recvQ hw.x9.o (by decide) (q_X9_remember hw hA u1 h6 hb2 hN) (fun _ z1 ⟨ad1, W1, s, v, w1, euv, hv, hvs, rc⟩ => ?_)
  have k1 : W1 1 = W 1 := rc.2.2.2.1 1 (by omega) (by omega)
  have k3 : W1 3 = W 3 := rc.2.2.2.1 3 (by omega) (by omega)
  have hb9 := w1.ok.b
  have hs9 := w1.ok.s
  refine gx_gR w1.x9.o (by decide) rfl (gx_gR w1.x9.o (by decide) rfl (gx_recvQ w1.dr.o (by decide) (q_X5_copyFrom w1.dr w1.nw (by omega) (by omega) (by rw [k3]; exact hb2)) (fun _ z3 ⟨f3, U, h3, u1', u2', u3'⟩ => ?_)))
  have w3 := w1.cd f3 h3
  rw [k3] at u1' u2' u3'
  have hsE : sE (W 3) U := ⟨u1', u2', u3'⟩
  have n3 := w3.nw
  have d3 := w3.dr
  rw [Ws_ne (by omega), k3] at n3
  rw [Ws_eq] at d3
  refine gx_gR w3.x9.o (by decide) rfl (gx_gR w3.x9.o (by decide) rfl (gx_recvQ w3.nw.o (by decide) (q_X5_carryOutRetreats n3 d3 (by omega) (by omega) (fun a ha q => ?_) (by omega)) (fun v4 z4 ⟨ev, f4, h4'⟩ => ?_)))
  · have e11 : U 11 a = W 3 11 a := hsE.2.1 11 (by omega) (by omega) a ha
    rw [e11] at q ⊢
    have := hi.i.j.rt a ha q
    exact ⟨this.1, by omega⟩
  rw [crU_eq hsE] at ev h4'
  have w4 := w3.cn f4 h4'
  have n4 := w4.nw
  rw [Ws_eq] at n4
  have b4 := w4.bd
  rw [Ws_ne (by omega), Ws_ne (by omega), k1] at b4
  have hJt := ret_J hi.i.j h16 h4
  refine gx_gR w4.x9.o (by decide) rfl (gx_gR w4.x9.o (by decide) rfl (gx_recvQ w4.nw.o (by decide) (q_X5_closeTurn n4 b4 (by omega) (by omega) hi.m.c1 h4 (nu12 hJt) (by omega) (t := t) ?_ ht31) (fun _ z5 ⟨f5, h5⟩ => gx_Rt (gx_ret ⟨ad1, _, w4.cn f5 h5, by rw [ev], W1, s, v, rc, by rw [u1, euv], hv, hvs, by rw [Ws_eq]; rfl, fun k hk => ?_⟩))))
  · show retS (W 3) 1 0 = _
    rw [ret_k (by omega), (rI_all hi.i.j h16 h4 16 (Nat.le_refl _)).1 1 (by omega) (by omega)]; exact et
  · rw [Ws_ne (by omega), Ws_ne (by omega), Ws_ne (by omega)]
end
