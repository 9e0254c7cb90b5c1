/-! endBuilds (2) (by program) -/
theorem sbz : ∀ a, a < 17 → ∀ b, b < 17 → ((0 ≤ nI a - nI b) ↔ b ≤ a) := by decide +kernel
theorem rBl_neg {M : Nat → Nat → Int32} {f : Nat → Int32} {n : Nat} {v : Int32} (h16 : n ≤ 16) : (0 ≤ rBl M f n v) ↔ ¬ fb_ct (cnC M f v) n < fb_ct (cnU f v) n := by
  have b1 := fb_ct_le (cnC M f v) n
  have b2 := fb_ct_le (cnU f v) n
  unfold rBl
  by_cases q : fb_ct (cnU f v) n < fb_ct (cnC M f v) n
  · rw [if_pos q]
    refine ⟨fun _ => by omega, fun _ => ?_⟩
    exact (nI_leI (a := 0) (by omega) (by omega)).mpr (by omega)
  · rw [if_neg q, sbz _ (by omega) _ (by omega)]; omega
section
variable {G : osG} {z : osS} {N m n np T : Nat} {C S M : Nat → Nat → Int32} {D : Nat → Nat → Int64}
end
section
variable {G : osG} {z : osS} {N x n np T : Nat} {ad : Nat → Nat} {W : Nat → Nat → Nat → Int32} {D : osS}
theorem q_X9_endBuilds (hw : WD z x ad W D) (hi : IVn W D n np T) (ph : W 3 0 0 = 2) (hA : G.2.2.1 ≤ x) (hN : 5000 < N) : gx (qX9_endBuilds N x G z) (fun r z' => ∃ ad' W' V, WD z' x ad' W' D ∧ r = .inr (nI (fb_ct (fun j => rm (W 3) (15 - j)) 16)) ∧ isR (fun _ => true) (W 3) V ∧ endC W W' (begun V)) := by
  have h16 := hi.m.n16
  have h4 := hi.m.p4
  have hb2 := hi.i.j.b2
  obtain ⟨u, h6, u1, _⟩ := hi.p
  unfold qX9_endBuilds
  refine gx_reqPh hw (fun q => absurd ph q) (fun _ => ?_)
  refine gx_recvQ hw.x9.o (by decide) (q_X9_remember hw hA u1 h6 hb2 hN) (fun _ z1 ⟨ad1, W1, s, v, w1, euv, hv, hvs, rc⟩ => ?_)
  have k1 : W1 1 = W 1 := rc.2.2.2.1 1 (by omega) (by omega)
  have k3 : W1 3 = W 3 := rc.2.2.2.1 3 (by omega) (by omega)
  have hb9 := w1.ok.b
  have hs9 := w1.ok.s
  have c1 := hi.m.c1
  refine gx_loop np (fun i p z' => p = (x, nI (rmT (W 3) i), nI i) ∧ ∃ V, WD z' x ad1 (Ws W1 3 V) D ∧ isR (own (W 3) i) (W 3) V) ?_ ?_ N 0 _ z1 (Nat.zero_le _) (by omega) ⟨rfl, W 3, ?_, fun b hb => rfl, fun b hb => rfl, fun _ _ _ => rfl⟩
  · rintro ih i p z' hi2 ⟨rfl, V, w2, hV⟩ k
    show gx (bX9_endBuilds_13 N ih x (nI (rmT (W 3) i)) (nI i) G z') _
    unfold bX9_endBuilds_13
    have b2 := w2.bd
    have n2 := w2.nw
    rw [Ws_ne (by omega), k1] at b2
    rw [Ws_eq] at n2
    refine gx_gR w2.x9.o (by decide) rfl (gx_gI b2.o (by decide) rfl ?_)
    rw [c1]
    refine gx_itef (nI_ge hi2 (by omega)) (gx_gR w2.x9.o (by decide) rfl (gx_recvQ n2.o (by decide) (q_X5_disbandSurplus n2 (by omega) (by omega)) (fun v5 z3 ⟨e5, f3, h3⟩ => ?_)))
    obtain ⟨d1, _, d3⟩ := ds_one (v := nI i) (nI_m1 (by omega)) hV (fun b hb e => own_no (by omega) e) 16 (Nat.le_refl _)
    have w3 := w2.cn f3 h3
    refine k _ _ ⟨?_, _, ?_, isR_ext d1 (fun b hb => ?_)⟩
    · rw [e5, d3, show nI (rmT (W 3) i) + nI (rmR (W 3) (nI i) 16) = nI (rmT (W 3) (i + 1)) from nI_sum rfl rfl]
      exact congrArg (fun t => (_, _, t)) (nI_sum (b := 1) rfl rfl)
    · have e : ∀ A B : Nat → Nat → Int32, Ws (Ws W1 3 A) 3 B = Ws W1 3 B := fun A B => by funext j; unfold Ws; by_cases q : j = 3 <;> simp [q]
      rw [e] at w3; exact w3
    · show ((own (W 3) i b || (decide (16 ≤ b + 16) && decide (W 3 6 b = nI i))) && rm (W 3) b) = ((own (W 3) i b || decide (W 3 6 b = nI i)) && rm (W 3) b)
      rw [decide_eq_true (show 16 ≤ b + 16 by omega), Bool.true_and]
  · rintro ih p z' ⟨rfl, V, w2, hV⟩
    show gx (bX9_endBuilds_13 N ih x (nI (rmT (W 3) np)) (nI np) G z') _
    unfold bX9_endBuilds_13
    have b2 := w2.bd
    have n2 := w2.nw
    rw [Ws_ne (by omega), k1] at b2
    rw [Ws_eq] at n2
    refine gx_gR w2.x9.o (by decide) rfl (gx_gI b2.o (by decide) rfl ?_)
    rw [c1]
    refine gx_itet ((nI_leI (by omega) (by omega)).mpr (Nat.le_refl np)) (gx_gR w2.x9.o (by decide) rfl (gx_recvQ n2.o (by decide) (q_X5_beginTurn n2 (by omega) (by omega)) (fun _ z3 ⟨f3, h3⟩ => gx_Rt (gx_ret ⟨ad1, _, V, w2.cn f3 h3, by rw [rmT_all hi.i.j h4], isR_ext hV (fun b hb => ?_), W1, s, v, rc, by rw [u1, euv], hv, hvs, by rw [Ws_eq], fun k hk => ?_⟩))))
    · cases q : rm (W 3) b
      · rw [Bool.and_false, Bool.and_false]
      · rw [own_uu hi.i.j h4 hb q]
    · rw [Ws_ne (by omega), Ws_ne (by omega)]
  · have e : Ws W1 3 (W 3) = W1 := by
      funext j; unfold Ws
      by_cases q : j = 3
      · rw [if_pos q, q]; exact k3.symm
      · rw [if_neg q]
    rw [e]; exact w1
end
