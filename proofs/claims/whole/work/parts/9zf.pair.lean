/-! both readers side by side (by program) -/
def rq (M M' : Nat → Nat → Int32) : Prop := ∀ k, ¬ (k = 4 ∨ k = 11 ∨ k = 13 ∨ k = 14 ∨ k = 15 ∨ k = 16 ∨ k = 17 ∨ k = 19 ∨ k = 20) → M' k = M k
def RB (M0 : Nat → Nat → Int32) (D : Nat → Nat → Int64) (l : Int32) (M : Nat → Nat → Int32) (D' : Nat → Nat → Int64) : Prop := rq M0 M ∧ dk D D' ∧ M 20 0 = l
theorem RB.k {M0 M M1 : Nat → Nat → Int32} {D D' D1 : Nat → Nat → Int64} {l : Int32} (h : RB M0 D l M D') (hr : rk M M1) (hd : dk D' D1) : RB M0 D l M1 D1 := ⟨fun k hk => (hr k (by omega)).trans (h.1 k hk), dk_tr h.2.1 hd, by rw [hr 20 (by omega)]; exact h.2.2⟩
theorem RB.k4 {M0 M M1 : Nat → Nat → Int32} {D D' : Nat → Nat → Int64} {l : Int32} (h : RB M0 D l M D') (hr : ∀ k, ¬ k = 4 → M1 k = M k) : RB M0 D l M1 D' := ⟨fun k hk => (hr k (by omega)).trans (h.1 k hk), h.2.1, by rw [hr 20 (by omega)]; exact h.2.2⟩
theorem nm_fd {C M : Nat → Nat → Int32} {D : Nat → Nat → Int64} {n np v : Nat} (hm : cpM C M D n np) (hv : v < 2 ^ 25) : fd (fun k => decide (D 6 (0 + k) = lN v)) 0 n = fd (fun k => decide (C 5 k = nI v)) 0 n := by
  refine fd_cong (fun j _ hj => ?_)
  obtain ⟨w, w0, w1, w2, w3⟩ := hm.2.2.1 j (by omega)
  rw [Nat.zero_add, w3, w2]
  exact dec_iff ((lN_eq (by omega) (by omega)).trans ⟨fun q => by rw [q], fun q => by
    have q := congrArg Int32.toInt q
    rw [nI_toInt (by omega), nI_toInt (by omega)] at q
    omega⟩)
/-- what stands while a turn's text is read -/
def CX (G : osG) (N x n np T L : Nat) (b : Nat → Nat) (W : Nat → Nat → Nat → Int32) (D : Nat → Nat → Int64) (M0 : Nat → Nat → Int32) : Prop := osInj G ∧ G.2.2.1 ≤ x ∧ 5000 < N ∧ L ≤ 1000 ∧ txB b W ∧ cpM (W 1) M0 D n np ∧ cpT (W 3) (M0 3) ∧ stI (W 1) (W 3) n np T
/-- both at the token at i: S the class' draft -/
def ST (z : osS) (x : Nat) (ad : Nat → Nat) (W : Nat → Nat → Nat → Int32) (D : Nat → Nat → Int64) (b : Nat → Nat) (L : Nat) (M0 : Nat → Nat → Int32) (l : Int32) (i : Nat) (S C : Nat → Nat → Int32) (E : Nat → Nat → Int64) (M : Nat → Nat → Int32) (D' : Nat → Nat → Int64) : Prop := TW z x ad (Ws W 4 S) D C E ∧ tkC b L i C E ∧ tkR b L i M ∧ (C 8 0 = M 16 0 ∧ C 9 0 = M 17 0) ∧ RB M0 D l M D'
def PO (x : Nat) (ad : Nat → Nat) (W : Nat → Nat → Nat → Int32) (D : Nat → Nat → Int64) (b : Nat → Nat) (L : Nat) (M0 : Nat → Nat → Int32) (l : Int32) (P : (Nat → Nat → Int32) → (Nat → Int32) → Prop) (i0 : Nat) (r1 : Int32) (z1 : osS) (r2 : Int32) (M' : Nat → Nat → Int32) (D' : Nat → Nat → Int64) : Prop := RB M0 D l M' D' ∧ ∃ S' C' E', TW z1 x ad (Ws W 4 S') D C' E' ∧ (C' 8 0 = M' 16 0 ∧ C' 9 0 = M' 17 0) ∧ ((r1 = 0 ∧ r2 = 0) ∨ (r1 = 1 ∧ r2 = 1 ∧ ∃ i', i0 < i' ∧ i' ≤ L ∧ tkC b L i' C' E' ∧ tkR b L i' M' ∧ P S' (M' 4)))
section
variable {G : osG} {z : osS} {N x n np T L i i0 : Nat} {ad : Nat → Nat} {W : Nat → Nat → Nat → Int32} {D D' E : Nat → Nat → Int64} {b : Nat → Nat} {M0 M S C : Nat → Nat → Int32} {l : Int32} {P : (Nat → Nat → Int32) → (Nat → Int32) → Prop}
theorem PO_f {r1 r2 : Int32} (h : TW z x ad (Ws W 4 S) D C E) (he : C 8 0 = M 16 0 ∧ C 9 0 = M 17 0) (hr : RB M0 D l M D') (e1 : r1 = 0) (e2 : r2 = 0) : PO x ad W D b L M0 l P i0 r1 z r2 M D' := ⟨hr, S, C, E, h, he, Or.inl ⟨e1, e2⟩⟩
theorem PO_s (h : ST z x ad W D b L M0 l i S C E M D') (h1 : i0 < i) (h2 : i ≤ L) (hP : P S (M 4)) : PO x ad W D b L M0 l P i0 1 z 1 M D' := ⟨h.2.2.2.2, S, C, E, h.1, h.2.2.2.1, Or.inr ⟨rfl, rfl, i, h1, h2, h.2.1, h.2.2.1, hP⟩⟩
/-- both fail at the name read last -/
theorem p_fail {u : Int32} (h : TW z x ad (Ws W 4 S) D C E) (e7 : C 7 0 = M 13 0) (hr : RB M0 D l M D') (hA : G.2.2.1 ≤ x) : gx ((osbind (osgI [6] 7 (x + 6)) fun x1 => osbind (osrecv [6] (x + 6) (qX6_fail N (x + 6) u x1)) fun x2 => osretZ x2) G z) (fun a z' => ux G (x + 129) (osbind (osgI [8] 13 (x + 129)) fun x1 => osbind (osrecv [8] (x + 129) (qX10_fails N (x + 129) u x1)) fun x2 => osretZ x2) M D' (fun b1 M' D'' => PO x ad W D b L M0 l P i0 a z' b1 M' D'')) := by
  refine gx_gI h.2.o (by decide) rfl (gx_recvQ h.2.o (by decide) (c_fail_X7 h hA) (fun r z' ⟨e, p⟩ => gx_retZ (Or.inl e) ?_))
  refine ux_gI rfl (ux_call (ux_fails (by omega) (fun M2 b6 b7 r2 => ux_retZ (Or.inl rfl) (PO_f p ⟨b6.symm, ?_⟩ (hr.k (fun k hk => r2 k (by omega) (by omega)) dk_rf) e rfl))))
  rw [b7]; exact e7
theorem p_here (cx : CX G N x n np T L b W D M0) (h : ST z x ad W D b L M0 l i S C E M D') (hi : i ≤ L) {f1 f2 : Int32 → osM Int32} {Q : Int32 → osS → Int32 → (Nat → Nat → Int32) → (Nat → Nat → Int64) → Prop}
    (kf : ∀ z1 C' E' M' D'', TW z1 x ad (Ws W 4 S) D C' E' → (C' 8 0 = M' 16 0 ∧ C' 9 0 = M' 17 0) → RB M0 D l M' D'' → gx (f1 (-1) G z1) (fun a z' => ux G (x + 129) (f2 0) M' D'' (fun b1 M D => Q a z' b1 M D)))
    (ks : ∀ k z1 C' E' M' D'', k < n → k < 16 → ST z1 x ad W D b L M0 l (tX b L i) S C' E' M' D'' → i < tX b L i → tX b L i ≤ L → C' 7 0 = M' 13 0 → M' 19 0 = nI k → M' 4 = M 4 → gx (f1 (nI k) G z1) (fun a z' => ux G (x + 129) (f2 1) M' D'' (fun b1 M D => Q a z' b1 M D))) :
    gx (osbind (osrecv [6] (x + 6) (qX6_takeArea N (x + 6) (ad 0))) f1 G z) (fun a z' => ux G (x + 129) (osbind (osrecv [8] (x + 129) (qX10_readHere N (x + 129))) f2) M D' (fun b1 M D => Q a z' b1 M D)) := by
  obtain ⟨hI, hA, hN, hL, hb, hm, ht, hs⟩ := cx
  obtain ⟨hw, tc, tr, he, hr⟩ := h
  have h16 := hm.n16
  have hb' : ∀ k, k < 1000 → b k < 256 := fun k hk => (hb k hk).1
  have em1 : M 1 0 = nI n := by rw [hr.1 1 (by omega)]; exact hm.m0
  have ed : D' 6 = D 6 := hr.2.1 6 (by omega)
  have ref : ∀ {r1 : Int32} {z1 : osS}, (∀ M' D'', M' 16 0 = 1 → M' 17 0 = nI (tS b L i) → tM b L i = none → RB M0 D l M' D'' → gx (f1 r1 G z1) (fun a z' => ux G (x + 129) (f2 0) M' D'' (fun b1 M D => Q a z' b1 M D))) → (∀ v M' D'', tM b L i = some v → fd (fun k => decide (W 1 5 k = nI v)) 0 n = none → M' 16 0 = 2 → M' 17 0 = nI (tS b L i) → RB M0 D l M' D'' → gx (f1 r1 G z1) (fun a z' => ux G (x + 129) (f2 0) M' D'' (fun b1 M D => Q a z' b1 M D))) → (∀ v k M' D'', tM b L i = some v → fd (fun k => decide (W 1 5 k = nI v)) 0 n = some k → tkR b L (tX b L i) M' → M' 13 0 = nI (tS b L i) → M' 19 0 = nI k → M' 16 = M 16 → M' 17 = M 17 → M' 4 = M 4 → RB M0 D l M' D'' → gx (f1 r1 G z1) (fun a z' => ux G (x + 129) (f2 1) M' D'' (fun b1 M D => Q a z' b1 M D))) → gx (f1 r1 G z1) (fun a z' => ux G (x + 129) (osbind (osrecv [8] (x + 129) (qX10_readHere N (x + 129))) f2) M D' (fun b1 M D => Q a z' b1 M D)) := by
    intro r1 z1 q0 q1 q2
    refine sm_u (ux_call ?_)
    unfold qX10_readHere
    refine ux_gR rfl (ux_gR rfl (ux_a (i := 0) (fun z hz => hz.a1) rfl (by omega) (by omega) ?_))
    rw [em1]
    have fdE : ∀ v, tM b L i = some v → fd (fun k => decide (D' 6 (0 + k) = lN v)) 0 n = fd (fun k => decide (W 1 5 k = nI v)) 0 n := fun v q => by
      obtain ⟨m1, m2, m3, m4⟩ := tM_some q
      rw [ed]
      exact nm_fd hm (by rw [m4]; exact (tV_5 (b := b) hi m2 m1).1)
    refine ux_call (ux_area (f := 6) (fun M' D'' z hz => hz.a6) (by omega) h16 tr hb' hL (by omega) hN hi (fun q M' D'' b6 b7 r1 d1 => ux_retZ (Or.inl rfl) (sm_g (q0 M' D'' b6 b7 q (hr.k r1 d1)))) (fun v q ef M' D'' b6 b7 r1 d1 => ux_retZ (Or.inl rfl) (sm_g (q1 v M' D'' q (by rw [← fdE v q]; exact ef) b6 b7 (hr.k r1 d1)))) (fun v k q ef M' D'' t1 a3 a9 a16 a17 r1 d1 => ux_retZ (Or.inr rfl) (sm_g (q2 v k M' D'' q (by rw [← fdE v q]; exact ef) t1 a3 a9 a16 a17 (r1 4 (by omega)) (hr.k r1 d1)))))
  refine gx_recvQ hw.2.o (by decide) (c_area_X7 hw hb tc hL hi hA hN hI (n := n) (B := W 1) (fun z1 C1 E1 h1 => h1.1.bd) hm.c0 h16) ?_
  rintro r z1 ⟨C1, E1, h1, e7, ⟨q, rfl, e8, e9⟩ | ⟨v, q, v1, v2, ⟨ef, rfl, e8, e9⟩ | ⟨k, ef, hk, rfl, t1, e8, e9⟩⟩⟩
  · refine ref (fun M' D'' b6 b7 _ hr' => kf z1 C1 E1 M' D'' h1 ⟨by rw [e8, b6], by rw [e9, b7]⟩ hr') (fun v M' D'' q2 _ _ _ _ => ?_) (fun v k M' D'' q2 _ _ _ _ _ _ _ _ => ?_)
    · rw [q] at q2; cases q2
    · rw [q] at q2; cases q2
  · refine ref (fun M' D'' b6 b7 q2 hr' => ?_) (fun v' M' D'' q2 _ b6 b7 hr' => kf z1 C1 E1 M' D'' h1 ⟨by rw [e8, b6], by rw [e9, b7]⟩ hr') (fun v' k M' D'' q2 ef2 _ _ _ _ _ _ _ => ?_)
    · rw [q] at q2; cases q2
    · rw [q] at q2; cases q2
      rw [ef] at ef2; cases ef2
  · refine ref (fun M' D'' b6 b7 q2 hr' => ?_) (fun v' M' D'' q2 ef2 b6 b7 hr' => ?_) (fun v' k' M' D'' q2 ef2 t2 a3 a9 a16 a17 a4 hr' => ?_)
    · rw [q] at q2; cases q2
    · rw [q] at q2; cases q2
      rw [ef] at ef2; cases ef2
    · rw [q] at q2; cases q2
      rw [ef] at ef2; cases ef2
      have hx := tX_w (b := b) hi (tM_some q).1
      exact ks k z1 C1 E1 M' D'' hk (by omega) ⟨h1, t1, t2, ⟨by rw [e8, a16]; exact he.1, by rw [e9, a17]; exact he.2⟩, hr'⟩ hx.2 (tX_le hi).2 (e7.trans a3.symm) a9 a4
end
theorem sm_loop {G : osG} {m : Nat} {α β β1 β2 : Type} {Q : α → osS → β → (Nat → Nat → Int32) → (Nat → Nat → Int64) → Prop} {b1 : (β1 → osM α) → β1 → osM α} {b2 : (β2 → osM β) → β2 → osM β} (n : Nat) (I : Nat → β1 → osS → β2 → (Nat → Nat → Int32) → (Nat → Nat → Int64) → Prop)
    (hs : ∀ (ih1 : β1 → osM α) (ih2 : β2 → osM β) (i : Nat) (p : β1) (z : osS) (q : β2) (M : Nat → Nat → Int32) (D : Nat → Nat → Int64), i < n → I i p z q M D → (∀ p' z' q' M' D', I (i + 1) p' z' q' M' D' → gx (ih1 p' G z') (fun a z' => ux G m (ih2 q') M' D' (fun b M D => Q a z' b M D))) → gx (b1 ih1 p G z) (fun a z' => ux G m (b2 ih2 q) M D (fun b M D => Q a z' b M D)))
    (he : ∀ (ih1 : β1 → osM α) (ih2 : β2 → osM β) (p : β1) (z : osS) (q : β2) (M : Nat → Nat → Int32) (D : Nat → Nat → Int64), I n p z q M D → gx (b1 ih1 p G z) (fun a z' => ux G m (b2 ih2 q) M D (fun b M D => Q a z' b M D))) : ∀ (N i : Nat) (p : β1) (z : osS) (q : β2) (M : Nat → Nat → Int32) (D : Nat → Nat → Int64), i ≤ n → n - i < N → I i p z q M D → gx (osloop b1 N p G z) (fun a z' => ux G m (osloop b2 N q) M D (fun b M D => Q a z' b M D))
  | 0, i, p, z, q, M, D, _, h, _ => by omega
  | N + 1, i, p, z, q, M, D, hi, hN, hI => by
    show gx (b1 (osloop b1 N) p G z) (fun a z' => ux G m (b2 (osloop b2 N) q) M D (fun b M D => Q a z' b M D))
    by_cases h : i = n
    · subst h; exact he _ _ p z q M D hI
    · exact hs _ _ i p z q M D (by omega) hI (fun p' z' q' M' D' hI' => sm_loop n I hs he N (i + 1) p' z' q' M' D' (by omega) (by omega) hI')
