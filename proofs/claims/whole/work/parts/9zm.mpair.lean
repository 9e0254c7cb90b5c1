/-! a map's names and areas read, in both (by program) -/
def RM (M0 : Nat → Nat → Int32) (D0 : Nat → Nat → Int64) (M : Nat → Nat → Int32) (D' : Nat → Nat → Int64) : Prop := (∀ k, ¬ (k = 2 ∨ k = 4 ∨ k = 11 ∨ k = 13 ∨ k = 14 ∨ k = 15 ∨ k = 16 ∨ k = 17 ∨ k = 19) → M k = M0 k) ∧ ∀ k, ¬ k = 7 → ¬ k = 18 → D' k = D0 k
theorem RM.k {M0 M M1 : Nat → Nat → Int32} {D0 D' D1 : Nat → Nat → Int64} (h : RM M0 D0 M D') (hr : rk M M1) (hd : dk D' D1) : RM M0 D0 M1 D1 := ⟨fun k hk => (hr k (by omega)).trans (h.1 k hk), fun k h7 h18 => (hd k h18).trans (h.2 k h7 h18)⟩
theorem RM.w {M0 M M1 : Nat → Nat → Int32} {D0 D' D1 : Nat → Nat → Int64} (h : RM M0 D0 M D') (hr : ∀ k, ¬ k = 2 → ¬ k = 4 → M1 k = M k) (hd : ∀ k, ¬ k = 7 → D1 k = D' k) : RM M0 D0 M1 D1 := ⟨fun k hk => (hr k (by omega) (by omega)).trans (h.1 k hk), fun k h7 h18 => (hd k h7).trans (h.2 k h7 h18)⟩
def CM (G : osG) (N x L : Nat) (b : Nat → Nat) (W : Nat → Nat → Nat → Int32) : Prop := osInj G ∧ G.2.2.1 ≤ x ∧ 5000 < N ∧ L ≤ 1000 ∧ txB b W
/-- both at the token at i: B the class' draft of the board, S that of the state -/
def SM (z : osS) (x : Nat) (ad : Nat → Nat) (W : Nat → Nat → Nat → Int32) (D : Nat → Nat → Int64) (b : Nat → Nat) (L : Nat) (M0 : Nat → Nat → Int32) (i : Nat) (B S C : Nat → Nat → Int32) (E : Nat → Nat → Int64) (M : Nat → Nat → Int32) (D' : Nat → Nat → Int64) : Prop := MW z x ad (Ws (Ws W 2 B) 4 S) D C E ∧ tkC b L i C E ∧ tkR b L i M ∧ (C 8 0 = M 16 0 ∧ C 9 0 = M 17 0) ∧ RM M0 D M D'
def PM (x : Nat) (ad : Nat → Nat) (W : Nat → Nat → Nat → Int32) (D : Nat → Nat → Int64) (b : Nat → Nat) (L : Nat) (M0 : Nat → Nat → Int32) (i0 : Nat) (r1 : Int32) (z1 : osS) (r2 : Int32) (M' : Nat → Nat → Int32) (D' : Nat → Nat → Int64) : Prop := RM M0 D M' D' ∧ ∃ B' S' C' E', MW z1 x ad (Ws (Ws W 2 B') 4 S') D C' E' ∧ (C' 8 0 = M' 16 0 ∧ C' 9 0 = M' 17 0) ∧ ((r1 = 0 ∧ r2 = 0) ∨ (r1 = 1 ∧ r2 = 1 ∧ ∃ i' n np, i0 < i' ∧ i' ≤ L ∧ tkC b L i' C' E' ∧ tkR b L i' M' ∧ QM B' S' (M' 2) (D' 7) (M' 4) n np))
theorem Ws_sw {W : Nat → Nat → Nat → Int32} {B B' S : Nat → Nat → Int32} : Ws (Ws (Ws W 2 B) 4 S) 2 B' = Ws (Ws W 2 B') 4 S := by
  funext j
  unfold Ws
  by_cases e : j = 2
  · rw [if_pos e, if_neg (show ¬ j = 4 by omega), if_pos e]
  · rw [if_neg e, if_neg e, if_neg e]
section
variable {G : osG} {z z1 : osS} {N x n np L i i0 : Nat} {ad : Nat → Nat} {W : Nat → Nat → Nat → Int32} {D D' E : Nat → Nat → Int64} {b : Nat → Nat} {M0 M B B' S S' C : Nat → Nat → Int32}
theorem MW.b2 (h : MW z x ad (Ws (Ws W 2 B) 4 S) D C E) : rX0 z (ad 1) B := h.1.sp
theorem MW.d1 (h : MW z x ad (Ws (Ws W 2 B) 4 S) D C E) : rX5 z (ad 3) S := by
  have := h.1.dr
  rw [Ws_eq] at this; exact this
theorem MW.d2 (h : MW z x ad (Ws (Ws W 2 B) 4 S) D C E) (hf : osFr (ad 3) (ad 3 + 12) z z1) (hc : rX5 z1 (ad 3) S') : MW z1 x ad (Ws (Ws W 2 B) 4 S') D C E := by
  have := h.d hf hc
  rw [Ws_ws] at this; exact this
theorem MW.s2 (h : MW z x ad (Ws (Ws W 2 B) 4 S) D C E) (hf : osFr (ad 1) (ad 1 + 6) z z1) (hc : rX0 z1 (ad 1) B') : MW z1 x ad (Ws (Ws W 2 B') 4 S) D C E := by
  have := h.s hf hc
  rw [Ws_sw] at this; exact this
theorem MW.hA (h : MW z x ad W D C E) (hA : G.2.2.1 ≤ x) : G.2.2.1 ≤ ad 3 ∧ G.2.2.1 ≤ ad 1 := by have := h.1.ok.s; have := h.1.ok.b; omega
theorem PM_f {r1 r2 : Int32} (h : MW z x ad (Ws (Ws W 2 B) 4 S) D C E) (he : C 8 0 = M 16 0 ∧ C 9 0 = M 17 0) (hr : RM M0 D M D') (e1 : r1 = 0) (e2 : r2 = 0) : PM x ad W D b L M0 i0 r1 z r2 M D' := ⟨hr, B, S, C, E, h, he, Or.inl ⟨e1, e2⟩⟩
theorem PM_s (h : SM z x ad W D b L M0 i B S C E M D') (h1 : i0 < i) (h2 : i ≤ L) (hQ : QM B S (M 2) (D' 7) (M 4) n np) : PM x ad W D b L M0 i0 1 z 1 M D' := ⟨h.2.2.2.2, B, S, C, E, h.1, h.2.2.2.1, Or.inr ⟨rfl, rfl, i, n, np, h1, h2, h.2.1, h.2.2.1, hQ⟩⟩
theorem PM_01 {r1 r2 : Int32} (h : PM x ad W D b L M0 i0 r1 z r2 M D') : (r1 = 0 ∨ r1 = 1) ∧ (r2 = 0 ∨ r2 = 1) ∧ r1 = r2 := by
  obtain ⟨_, _, _, _, _, _, _, ⟨rfl, rfl⟩ | ⟨rfl, rfl, _⟩⟩ := h
  · exact ⟨Or.inl rfl, Or.inl rfl, rfl⟩
  · exact ⟨Or.inr rfl, Or.inr rfl, rfl⟩
theorem PM_mv {i1 : Nat} {r1 r2 : Int32} (h : PM x ad W D b L M0 i1 r1 z r2 M D') (hi : i0 ≤ i1) : PM x ad W D b L M0 i0 r1 z r2 M D' := by
  obtain ⟨a1, B, S, C, E, a2, a3, a4⟩ := h
  refine ⟨a1, B, S, C, E, a2, a3, ?_⟩
  rcases a4 with q | ⟨q1, q2, i', n, np, q3, q4⟩
  · exact Or.inl q
  · exact Or.inr ⟨q1, q2, i', n, np, by omega, q4⟩
/-- both fail: the class at a place that it has, the reference at its token -/
theorem m_fail {u v : Int32} (h : MW z x ad (Ws (Ws W 2 B) 4 S) D C E) (e7 : v = M 13 0) (hr : RM M0 D M D') (hA : G.2.2.1 ≤ x) : gx ((osbind (osrecv [3] (x + 4) (qX6_fail N (x + 4) u v)) fun x2 => osretZ x2) G z) (fun a z' => ux G (x + 129) (osbind (osgI [8] 13 (x + 129)) fun x1 => osbind (osrecv [8] (x + 129) (qX10_fails N (x + 129) u x1)) fun x2 => osretZ x2) M D' (fun b1 M' D'' => PM x ad W D b L M0 i0 a z' b1 M' D'')) := by
  refine gx_recvQ h.2.o (by decide) (c_fail_X3 h hA) (fun r z' ⟨e, p⟩ => gx_retZ (Or.inl e) ?_)
  refine ux_gI rfl (ux_call (ux_fails (by omega) (fun M2 b6 b7 r2 => ux_retZ (Or.inl rfl) (PM_f p ⟨b6.symm, ?_⟩ (hr.k (fun k hk => r2 k (by omega) (by omega)) dk_rf) e rfl))))
  rw [b7]; exact e7
theorem m_fail7 {u : Int32} (h : MW z x ad (Ws (Ws W 2 B) 4 S) D C E) (e7 : C 7 0 = M 13 0) (hr : RM M0 D M D') (hA : G.2.2.1 ≤ x) : gx ((osbind (osgI [3] 7 (x + 4)) fun x1 => osbind (osrecv [3] (x + 4) (qX6_fail N (x + 4) u x1)) fun x2 => osretZ x2) G z) (fun a z' => ux G (x + 129) (osbind (osgI [8] 13 (x + 129)) fun x1 => osbind (osrecv [8] (x + 129) (qX10_fails N (x + 129) u x1)) fun x2 => osretZ x2) M D' (fun b1 M' D'' => PM x ad W D b L M0 i0 a z' b1 M' D'')) :=
  gx_gI h.2.o (by decide) rfl (m_fail h e7 hr hA)
theorem m_name (cx : CM G N x L b W) (h : SM z x ad W D b L M0 i B S C E M D') (hi : i ≤ L) {f1 f2 : Int32 → osM Int32} {Q : Int32 → osS → Int32 → (Nat → Nat → Int32) → (Nat → Nat → Int64) → Prop}
    (kf : ∀ z1 C' E' M' D'', MW z1 x ad (Ws (Ws W 2 B) 4 S) D C' E' → (C' 8 0 = M' 16 0 ∧ C' 9 0 = M' 17 0) → RM M0 D M' D'' → gx (f1 0 G z1) (fun a z' => ux G (x + 129) (f2 0) M' D'' (fun b1 M D => Q a z' b1 M D)))
    (ks : ∀ v z1 C' E' M' D'', 0 < v → v < 2 ^ 25 → SM z1 x ad W D b L M0 (tX b L i) B S C' E' M' D'' → i < tX b L i → tX b L i ≤ L → C' 7 0 = M' 13 0 → D'' 18 0 = lN v → M' 2 = M 2 → M' 4 = M 4 → D'' 7 = D' 7 → gx (f1 (nI v) G z1) (fun a z' => ux G (x + 129) (f2 1) M' D'' (fun b1 M D => Q a z' b1 M D))) :
    gx (osbind (osrecv [3] (x + 4) (qX6_takeName N (x + 4))) f1 G z) (fun a z' => ux G (x + 129) (osbind (osrecv [8] (x + 129) (qX10_readName N (x + 129))) f2) M D' (fun b1 M D => Q a z' b1 M D)) := by
  obtain ⟨hI, hA, hN, hL, hb⟩ := cx
  obtain ⟨hw, tc, tr, he, hr⟩ := h
  have hb' : ∀ k, k < 1000 → b k < 256 := fun k hk => (hb k hk).1
  refine gx_recvQ hw.2.o (by decide) (c_name_X3 hw hb tc hL hi hA hN hI) ?_
  rintro r z1 ⟨C1, E1, h1, e7, ⟨q, rfl, e8, e9⟩ | ⟨v, q, rfl, t1, e8, e9⟩⟩
  · refine sm_u (ux_call (ux_name tr hb' hL (by omega) hN hi (fun _ M' D'' b6 b7 r1 d1 => sm_g (kf z1 C1 E1 M' D'' h1 ⟨by rw [e8, b6], by rw [e9, b7]⟩ (hr.k r1 d1))) (fun v q2 => ?_)))
    rw [q] at q2; cases q2
  · refine sm_u (ux_call (ux_name tr hb' hL (by omega) hN hi (fun q2 => ?_) (fun v2 q2 M' D'' t2 a3 a8 r1 d1 => sm_g ?_)))
    · rw [q] at q2; cases q2
    · rw [q] at q2; cases q2
      obtain ⟨m1, m2, m3, m4⟩ := tM_some q
      obtain ⟨v1, v2, _⟩ := tV_5 (b := b) hi m2 m1
      have hx := tX_w (b := b) hi m1
      exact ks v z1 C1 E1 M' D'' (by rw [m4]; exact v2) (by rw [m4]; exact v1) ⟨h1, t1, t2, ⟨by rw [e8, r1 16 (by omega)]; exact he.1, by rw [e9, r1 17 (by omega)]; exact he.2⟩, hr.k (rk2_rk r1) d1⟩ hx.2 (tX_le hi).2 (e7.trans a3.symm) a8 (r1 2 (by omega)) (r1 4 (by omega)) (d1 7 (by omega))
theorem nm_fdM {g : Nat → Int32} {d : Nat → Int64} {v : Nat} (hm : cpM B (fun _ => g) (fun _ => d) n np) (hv : v < 2 ^ 25) : fd (fun k => decide (d (0 + k) = lN v)) 0 n = fd (fun k => decide (B 5 k = nI v)) 0 n := nm_fd hm hv
theorem pm_fdM {g : Nat → Int32} {d : Nat → Int64} {v : Nat} (hm : cpM B (fun _ => g) (fun _ => d) n np) (hv : v < 2 ^ 25) : fd (fun k => decide (d (16 + k) = lN v)) 0 np = fd (fun k => decide (B 9 k = nI v)) 0 np := by
  have h4 := hm.p4
  refine fd_cong (fun j _ hj => ?_)
  obtain ⟨w, w0, w1, w2, w3⟩ := hm.2.2.2.1 j (by omega)
  have w3' : d (16 + j) = lN w := w3
  rw [w3', w2]
  exact dec_iff ((lN_eq (by omega) (by omega)).trans ⟨fun q => by rw [q], fun q => by
    have q := congrArg Int32.toInt q
    rw [nI_toInt (by omega), nI_toInt (by omega)] at q
    omega⟩)
theorem m_area (cx : CM G N x L b W) (h : SM z x ad W D b L M0 i B S C E M D') (hm : cpM B (fun _ => M 2) (fun _ => D' 7) n np) (hi : i ≤ L) {f1 f2 : Int32 → osM Int32} {Q : Int32 → osS → Int32 → (Nat → Nat → Int32) → (Nat → Nat → Int64) → Prop}
    (kf : ∀ z1 C' E' M' D'', MW z1 x ad (Ws (Ws W 2 B) 4 S) D C' E' → (C' 8 0 = M' 16 0 ∧ C' 9 0 = M' 17 0) → RM M0 D M' D'' → gx (f1 (-1) G z1) (fun a z' => ux G (x + 129) (f2 0) M' D'' (fun b1 M D => Q a z' b1 M D)))
    (ks : ∀ k z1 C' E' M' D'', k < n → k < 16 → SM z1 x ad W D b L M0 (tX b L i) B S C' E' M' D'' → i < tX b L i → tX b L i ≤ L → C' 7 0 = M' 13 0 → M' 19 0 = nI k → M' 2 = M 2 → M' 4 = M 4 → D'' 7 = D' 7 → gx (f1 (nI k) G z1) (fun a z' => ux G (x + 129) (f2 1) M' D'' (fun b1 M D => Q a z' b1 M D))) :
    gx (osbind (osrecv [3] (x + 4) (qX6_takeArea N (x + 4) (ad 1))) f1 G z) (fun a z' => ux G (x + 129) (osbind (osrecv [8] (x + 129) (qX10_readDraftArea N (x + 129))) f2) M D' (fun b1 M D => Q a z' b1 M D)) := by
  obtain ⟨hI, hA, hN, hL, hb⟩ := cx
  obtain ⟨hw, tc, tr, he, hr⟩ := h
  have h16 := hm.n16
  have hb' : ∀ k, k < 1000 → b k < 256 := fun k hk => (hb k hk).1
  have em1 : M 2 0 = nI n := hm.m0
  have fdE : ∀ v, tM b L i = some v → fd (fun k => decide (D' 7 (0 + k) = lN v)) 0 n = fd (fun k => decide (B 5 k = nI v)) 0 n := fun v q => by
    obtain ⟨m1, m2, m3, m4⟩ := tM_some q
    exact nm_fdM hm (by rw [m4]; exact (tV_5 (b := b) hi m2 m1).1)
  have ref : ∀ {r1 : Int32} {z1 : osS}, (∀ M' D'', M' 16 0 = 1 → M' 17 0 = nI (tS b L i) → tM b L i = none → RM M0 D M' D'' → gx (f1 r1 G z1) (fun a z' => ux G (x + 129) (f2 0) M' D'' (fun b1 M D => Q a z' b1 M D))) → (∀ v M' D'', tM b L i = some v → fd (fun k => decide (B 5 k = nI v)) 0 n = none → M' 16 0 = 2 → M' 17 0 = nI (tS b L i) → RM M0 D M' D'' → gx (f1 r1 G z1) (fun a z' => ux G (x + 129) (f2 0) M' D'' (fun b1 M D => Q a z' b1 M D))) → (∀ v k M' D'', tM b L i = some v → fd (fun k => decide (B 5 k = nI v)) 0 n = some k → tkR b L (tX b L i) M' → M' 13 0 = nI (tS b L i) → M' 19 0 = nI k → M' 16 = M 16 → M' 17 = M 17 → M' 2 = M 2 → M' 4 = M 4 → D'' 7 = D' 7 → RM M0 D M' D'' → gx (f1 r1 G z1) (fun a z' => ux G (x + 129) (f2 1) M' D'' (fun b1 M D => Q a z' b1 M D))) → gx (f1 r1 G z1) (fun a z' => ux G (x + 129) (osbind (osrecv [8] (x + 129) (qX10_readDraftArea N (x + 129))) f2) M D' (fun b1 M D => Q a z' b1 M D)) := by
    intro r1 z1 q0 q1 q2
    refine sm_u (ux_call ?_)
    unfold qX10_readDraftArea
    refine ux_gR rfl (ux_gR rfl (ux_a (i := 0) (fun z hz => hz.a2) rfl (by omega) (by omega) ?_))
    rw [em1]
    refine ux_call (ux_area (f := 7) (fun M' D'' z hz => hz.a7) (by omega) h16 tr hb' hL (by omega) hN hi (fun q M' D'' b6 b7 r1 d1 => ux_retZ (Or.inl rfl) (sm_g (q0 M' D'' b6 b7 q (hr.k r1 d1)))) (fun v q ef M' D'' b6 b7 r1 d1 => ux_retZ (Or.inl rfl) (sm_g (q1 v M' D'' q (by rw [← fdE v q]; exact ef) b6 b7 (hr.k r1 d1)))) (fun v k q ef M' D'' t1 a3 a9 a16 a17 r1 d1 => ux_retZ (Or.inr rfl) (sm_g (q2 v k M' D'' q (by rw [← fdE v q]; exact ef) t1 a3 a9 a16 a17 (r1 2 (by omega)) (r1 4 (by omega)) (d1 7 (by omega)) (hr.k r1 d1)))))
  refine gx_recvQ hw.2.o (by decide) (c_area_X3 hw hb tc hL hi hA hN hI (n := n) (B := B) (fun z1 C1 E1 h1 => h1.b2) hm.c0 h16) ?_
  rintro r z1 ⟨C1, E1, h1, e7, ⟨q, rfl, e8, e9⟩ | ⟨v, q, v1, v2, ⟨ef, rfl, e8, e9⟩ | ⟨k, ef, hk, rfl, t1, e8, e9⟩⟩⟩
  · refine ref (fun M' D'' b6 b7 _ hr' => kf z1 C1 E1 M' D'' h1 ⟨by rw [e8, b6], by rw [e9, b7]⟩ hr') (fun v M' D'' q2 _ _ _ _ => ?_) (fun v k M' D'' q2 _ _ _ _ _ _ _ _ _ _ => ?_)
    · rw [q] at q2; cases q2
    · rw [q] at q2; cases q2
  · refine ref (fun M' D'' b6 b7 q2 hr' => ?_) (fun v' M' D'' q2 _ b6 b7 hr' => kf z1 C1 E1 M' D'' h1 ⟨by rw [e8, b6], by rw [e9, b7]⟩ hr') (fun v' k M' D'' q2 ef2 _ _ _ _ _ _ _ _ _ => ?_)
    · rw [q] at q2; cases q2
    · rw [q] at q2; cases q2
      rw [ef] at ef2; cases ef2
  · refine ref (fun M' D'' b6 b7 q2 hr' => ?_) (fun v' M' D'' q2 ef2 b6 b7 hr' => ?_) (fun v' k' M' D'' q2 ef2 t2 a3 a9 a16 a17 a2 a4 a7 hr' => ?_)
    · rw [q] at q2; cases q2
    · rw [q] at q2; cases q2
      rw [ef] at ef2; cases ef2
    · rw [q] at q2; cases q2
      rw [ef] at ef2; cases ef2
      have hx := tX_w (b := b) hi (tM_some q).1
      exact ks k z1 C1 E1 M' D'' hk (by omega) ⟨h1, t1, t2, ⟨by rw [e8, a16]; exact he.1, by rw [e9, a17]; exact he.2⟩, hr'⟩ hx.2 (tX_le hi).2 (e7.trans a3.symm) a9 a2 a4 a7
end
