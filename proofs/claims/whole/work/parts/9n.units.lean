/-! writeUnits (by program) -/
theorem IV_out {W : Nat → Nat → Nat → Int32} {D : Nat → Nat → Int64} {n np T : Nat} {O' M' : Nat → Nat → Int32} {bs : List Int32} (h : IVn W D n np T) (ho : oL O' bs) (hr : rL M' bs) (hl : bs.length ≤ 360) (e2 : ∀ k, k = 1 ∨ k = 3 ∨ k = 5 ∨ k = 8 ∨ k = 9 ∨ k = 10 ∨ k = 16 ∨ k = 17 → M' k = W 20 k) : IVn (Ws (Ws W 7 O') 20 M') D n np T := by
  obtain ⟨h1, h2, h3, h4, h5, ⟨u, h6, h7, h8, h9⟩, _⟩ := h
  refine ⟨?_, ?_, ?_, ?_, ?_, ⟨u, h6, ?_, ?_, fun i hi => ?_⟩, ?_⟩
  · rw [Ws_ne (by omega), Ws_ne (by omega), Ws_eq]; exact cpM_keep h1 (e2 1 (by omega)) rfl
  · rw [Ws_ne (by omega), Ws_ne (by omega), Ws_eq, e2 3 (by omega)]; exact h2
  · rw [Ws_ne (by omega), Ws_ne (by omega), Ws_ne (by omega), Ws_ne (by omega)]; exact h3
  · rw [Ws_ne (by omega), Ws_ne (by omega), Ws_eq]
    unfold cpIn at h4 ⊢
    rw [e2 9 (by omega), e2 10 (by omega)]; exact h4
  · rw [Ws_ne (by omega), Ws_ne (by omega), Ws_eq, e2 16 (by omega), e2 17 (by omega)]; exact h5
  · rw [Ws_ne (by omega), Ws_ne (by omega)]; exact h7
  · rw [Ws_eq, e2 8 (by omega)]; exact h8
  · rw [Ws_ne (by omega), Ws_ne (by omega), Ws_eq, Ws_ne (by omega), Ws_ne (by omega), e2 5 (by omega)]; exact h9 i hi
  · rw [Ws_ne (by omega), Ws_eq, Ws_eq]
    exact ⟨bs.length, hl, ho.1, hr.1, fun k hk => (ho.2 k hk).trans (hr.2 k hk).symm⟩
def anm (C : Nat → Nat → Int32) (a : Nat) : List Int32 := nmL (tn (C 5 a)) 5
def pnm (C : Nat → Nat → Int32) (p : Nat) : List Int32 := nmL (tn (C 9 p)) 5
def unS (C S : Nat → Nat → Int32) (a : Nat) : List Int32 := pnm C (tn (S 6 a)) ++ (txt (if S 7 a = 1 then 0 else 1) ++ (anm C a ++ [10]))
def unL (C S : Nat → Nat → Int32) : Nat → List Int32
  | 0 => []
  | a + 1 => if uu S a = true then unL C S a ++ unS C S a else unL C S a
section
variable {C S M : Nat → Nat → Int32} {D : Nat → Nat → Int64} {n np T : Nat}
theorem nm_a (hm : cpM C M D n np) {a : Nat} (ha : a < n) : ∃ w, w < 2 ^ 25 ∧ C 5 a = nI w ∧ D 6 a = lN w ∧ anm C a = nmL w 5 := by
  obtain ⟨w, h0, h1, h2, h3⟩ := hm.2.2.1 a ha
  exact ⟨w, h1, h2, h3, by unfold anm; rw [h2, show tn (nI w) = w from nI_clamp (by omega)]⟩
theorem nm_p (hm : cpM C M D n np) {p : Nat} (hp : p < np) : ∃ w, w < 2 ^ 25 ∧ C 9 p = nI w ∧ D 6 (16 + p) = lN w ∧ pnm C p = nmL w 5 := by
  obtain ⟨w, h0, h1, h2, h3⟩ := hm.2.2.2.1 p hp
  exact ⟨w, h1, h2, h3, by unfold pnm; rw [h2, show tn (nI w) = w from nI_clamp (by omega)]⟩
theorem unS_len {a : Nat} : (unS C S a).length ≤ 14 := by
  unfold unS anm pnm
  have l1 := nmL_le (w := tn (C 9 (tn (S 6 a)))) 5
  have l2 := nmL_le (w := tn (C 5 a)) 5
  have l3 : (txt (if S 7 a = 1 then 0 else 1)).length = 3 := by split <;> rfl
  simp only [List.length_append, List.length_cons, List.length_nil]
  omega
theorem unL_len : ∀ i, (unL C S i).length ≤ 14 * fb_ct (uu S) i
  | 0 => Nat.le_refl 0
  | i + 1 => by
    have ih := unL_len i
    have l := unS_len (C := C) (S := S) (a := i)
    unfold unL
    rw [fb_ct_succ]
    split
    · rw [List.length_append]; omega
    · omega
theorem unL_cut (hj : stJ C S n np T) : ∀ k, n + k ≤ 16 → unL C S (n + k) = unL C S n
  | 0, _ => rfl
  | k + 1, h => by
    show unL C S (n + k + 1) = _
    rw [unL, if_neg, unL_cut hj k (by omega)]
    intro q
    exact absurd (hj.u (n + k) (by omega) q).1 (by omega)
end
section
variable {G : osG} {z : osS} {N x n np T : Nat} {ad : Nat → Nat} {W : Nat → Nat → Nat → Int32} {D : Nat → Nat → Int64}
theorem q_X9_writeUnits (hw : WD z x ad W D) (hi : IVn W D n np T) (hI : osInj G) (hA : G.2.2.1 ≤ x) (hN : 5000 < N) : gx (qX9_writeUnits N x G z) (fun v z' => v = nI (unL (W 1) (W 3) 16).length ∧ ∃ O', WD z' x ad (Ws W 7 O') D ∧ oL O' (unL (W 1) (W 3) 16)) := by
  have h16 := hi.m.n16
  have h4 := hi.m.p4
  have h12 := hi.i.j.c12
  have hb9 := hw.ok.b
  have hs9 := hw.ok.s
  unfold qX9_writeUnits
  refine gx_gR hw.x9.o (by decide) rfl (hw.x4.p1 (by decide) (by omega) (fun z1 f1 h1 => ?_))
  refine gx_loop 16 (fun i p z' => p = (x, nI i) ∧ osFr (x + 2) (x + 4) z z' ∧ ∃ O', rX4 z' (x + 2) O' ∧ oL O' (unL (W 1) (W 3) i)) ?_ ?_ N 0 _ z1 (Nat.zero_le _) (by omega) ⟨rfl, f1, _, h1, rfl, fun k hk => absurd hk (Nat.not_lt_zero k)⟩
  · rintro ih i p z' hi2 ⟨rfl, fr, O', h', e⟩ k
    show gx (bX9_writeUnits_10 N ih x (nI i) G z') _
    unfold bX9_writeUnits_10 qX9_writeUnits_107 qX9_writeUnits_79
    have x9 := hw.x9.keep fr (by omega)
    have nw := hw.nw.keep fr (by omega)
    refine gx_itef (nI_ge (a := i) (b := 16) hi2 (by omega)) (gx_gR x9.o (by decide) rfl (gx_recvE nw.o (by decide) (q_hasUnitN nw hi2) (gx_iteDn (fun c => k _ _ ⟨congrArg (fun t => (_, t)) (nI_sum (b := 1) rfl rfl), fr, O', h', ?_⟩) (fun c => ?_))))
    · rw [unL, if_neg (by unfold uu; rw [decide_eq_true c]; decide)]; exact e
    · have hu : uu (W 3) i = true := by unfold uu; rw [decide_eq_false c]; rfl
      obtain ⟨hin, ⟨p, hp, ep⟩, hk01⟩ := hi.i.j.u i hi2 hu
      obtain ⟨wp, wp1, wp2, wp3, wp4⟩ := nm_p hi.m hp
      obtain ⟨wa, wa1, wa2, wa3, wa4⟩ := nm_a hi.m hin
      have hl := unL_len (C := W 1) (S := W 3) i
      have hmon := fb_ct_mono (uu (W 3)) (show i + 1 ≤ 16 by omega)
      have hs1 : fb_ct (uu (W 3)) (i + 1) = fb_ct (uu (W 3)) i + 1 := by rw [fb_ct_succ, if_pos hu]
      have etp : tn (W 3 6 i) = p := by rw [ep]; exact nI_clamp (by omega)
      have bdk := hw.bd.keep fr (by omega)
      refine gx_gR x9.o (by decide) rfl (gx_gR x9.o (by decide) rfl (gx_gR bdk.o (by decide) rfl (gx_gR x9.o (by decide) rfl (gx_gR nw.o (by decide) rfl (gx_aE nw.a6 rfl hi2 (Nat.le_of_ble_eq_true rfl) ?_)))))
      rw [ep]
      refine gx_callE (q_entryN bdk.a9 (by omega) (by omega)) ?_
      rw [wp2]
      have ln1 := nmL_le (w := wp) 5
      have ln2 := nmL_le (w := wa) 5
      refine gx_recvQ h'.o (by decide) (q_X4_putName h' e wp1 (by omega) (by omega) hN) (fun _ z2 ⟨f2, O2, h2, e2⟩ => ?_)
      have fr2 := fr.tr f2
      have x9' := hw.x9.keep fr2 (by omega)
      have nw' := hw.nw.keep fr2 (by omega)
      refine gx_gR x9'.o (by decide) rfl (gx_gR x9'.o (by decide) rfl (gx_gR nw'.o (by decide) rfl (gx_aE nw'.a7 rfl hi2 (Nat.le_of_ble_eq_true rfl) ?_)))
      have tail : ∀ j, j < 6 → (txt j).length = 3 → txt j = txt (if W 3 7 i = 1 then 0 else 1) → gx ((osbind (osrecv [4] (x + 2) (qX4_putText N (x + 2) (G.2.2.2.2 j))) fun _ => osbind (osgR [7] 2 x) fun x1 => osbind (osgR [7] 10 x) fun x2 => osbind (osgR [0] 5 x2) fun x3 => osbind (osaI 0 x3 (nI i)) fun x4 => osbind (osrecv [4] x1 (qX4_putName N x1 x4)) fun _ => osbind (osgR [7] 2 x) fun x5 => osbind (osrecv [4] x5 (qX4_putByte N x5 (10 : Int32))) fun _ => ih (x, (nI i + (1 : Int32)))) G z2) (fun v z' => v = nI (unL (W 1) (W 3) 16).length ∧ ∃ O', WD z' x ad (Ws W 7 O') D ∧ oL O' (unL (W 1) (W 3) 16)) := fun j hj6 hj3 etx => by
        refine gx_recvQ h2.o (by decide) (q_X4_putText hI hj6 h2 e2 (by rw [List.length_append]; omega) (by omega) hN) (fun _ z3 ⟨f3, O3, h3, e3⟩ => ?_)
        have fr3 := fr2.tr f3
        have x93 := hw.x9.keep fr3 (by omega)
        have bd3 := hw.bd.keep fr3 (by omega)
        refine gx_gR x93.o (by decide) rfl (gx_gR x93.o (by decide) rfl (gx_gR bd3.o (by decide) rfl (gx_aE bd3.a5 rfl hi2 (Nat.le_of_ble_eq_true rfl) ?_)))
        rw [wa2]
        refine gx_recvQ h3.o (by decide) (q_X4_putName h3 e3 wa1 (by rw [List.length_append, List.length_append]; omega) (by omega) hN) (fun _ z4 ⟨f4, O4, h4', e4⟩ => ?_)
        have fr4 := fr3.tr f4
        have x94 := hw.x9.keep fr4 (by omega)
        refine gx_gR x94.o (by decide) rfl (gx_recvQ h4'.o (by decide) (q_X4_putByte (b := 10) h4' e4 (by rw [List.length_append, List.length_append, List.length_append]; omega) (by omega) (by omega)) (fun _ z5 ⟨f5, O5, h5, e5⟩ => k _ _ ⟨congrArg (fun t => (_, t)) (nI_sum (b := 1) rfl rfl), fr4.tr f5, O5, h5, ?_⟩))
        rw [unL, if_pos hu]
        unfold unS
        rw [etp, wp4, wa4, ← etx]
        rw [List.append_assoc, List.append_assoc, List.append_assoc] at e5
        exact e5
      refine gx_ite (fun c7 => gx_bind ⟨_, _, rfl, tail 0 (by omega) rfl ?_⟩) (fun c7 => gx_bind ⟨_, _, rfl, tail 1 (by omega) rfl ?_⟩)
      · rw [if_pos c7]
      · rw [if_neg c7]
  · rintro ih p z' ⟨rfl, fr, O', h', e⟩
    show gx (bX9_writeUnits_10 N ih x (nI 16) G z') _
    unfold bX9_writeUnits_10
    have x9 := hw.x9.keep fr (by omega)
    exact gx_itet (by decide) (gx_gR x9.o (by decide) rfl (gx_gI h'.o (by decide) rfl (gx_ret ⟨e.1, O', hw.c4 fr h', e⟩)))
theorem q_X10_writeUnits {z1 : osS} {m : Nat} {C S M : Nat → Nat → Int32} (hm : rX10 z1 m M D) (hc : cpM C M D n np) (hj : stJ C S n np T) (ht : cpT S (M 3)) (hA : G.2.2.1 ≤ m) (hN : 5000 < N) : gx (qX10_writeUnits N m G z1) (fun v z' => v = nI (unL C S 16).length ∧ osFr m (m + 21) z1 z' ∧ ∃ M', rX10 z' m M' D ∧ rL M' (unL C S 16) ∧ M' 0 0 = 0 ∧ ∀ k, ¬ k = 0 → ¬ k = 41 → ¬ k = 42 → M' k = M k) := by
  have h16 := hc.n16
  have h4 := hc.p4
  have h12 := hj.c12
  have ecut : unL C S 16 = unL C S n := by
    have := unL_cut hj (16 - n) (by omega)
    rw [show n + (16 - n) = 16 by omega] at this
    exact this
  rw [ecut]
  unfold qX10_writeUnits
  refine hm.p0 (by decide) hA (fun z2 f2 h2 => h2.p42 (by decide) hA (fun z3 f3 h3 => ?_))
  refine gx_loop n (fun i p z' => p = (m, nI i) ∧ osFr m (m + 21) z1 z' ∧ ∃ M', rX10 z' m M' D ∧ rL M' (unL C S i) ∧ M' 0 0 = 0 ∧ ∀ k, ¬ k = 0 → ¬ k = 41 → ¬ k = 42 → M' k = M k) ?_ ?_ N 0 _ z3 (Nat.zero_le _) (by omega) ⟨rfl, f2.tr f3, _, h3, ⟨rfl, fun k hk => absurd hk (Nat.not_lt_zero k)⟩, rfl, fun k q0 _ q2 => by rw [cset_ne q2, cset_ne q0]⟩
  · rintro ih i p z' hi2 ⟨rfl, fr, M', h', e, e0, er⟩ k
    show gx (bX10_writeUnits_12 N ih m (nI i) G z') _
    unfold bX10_writeUnits_12 qX10_writeUnits_102 qX10_writeUnits_83
    have hi16 : i < 16 := by omega
    have m0 : M' 1 0 = nI n := by rw [er 1 (by omega) (by omega) (by omega)]; exact hc.m0
    have m3 : M' 3 = M 3 := er 3 (by omega) (by omega) (by omega)
    obtain ⟨_, t21, _⟩ := ht.2.1 i hi16
    refine gx_gR h'.o (by decide) rfl (gx_aE (i := 0) h'.a1 rfl (by omega) (Nat.le_of_ble_eq_true rfl) ?_)
    rw [m0]
    refine gx_itef (nI_ge hi2 (by omega)) (gx_gR h'.o (by decide) rfl (gx_callE (q_X10_isUnit h'.a3 hi16 rfl) ?_))
    rw [m3, t21]
    refine gx_iteDn (fun c => k _ _ ⟨congrArg (fun t => (_, t)) (nI_sum (b := 1) rfl rfl), fr, M', h', ?_, e0, er⟩) (fun c => ?_)
    · rw [unL, if_neg (by unfold uu; rw [decide_eq_true c]; decide)]; exact e
    · have hu : uu S i = true := by unfold uu; rw [decide_eq_false c]; rfl
      obtain ⟨hin, ⟨p, hp, ep⟩, hk01⟩ := hj.u i hi16 hu
      obtain ⟨wp, wp1, wp2, wp3, wp4⟩ := nm_p hc hp
      obtain ⟨wa, wa1, wa2, wa3, wa4⟩ := nm_a hc hin
      have hl := unL_len (C := C) (S := S) i
      have hmon := fb_ct_mono (uu S) (show i + 1 ≤ 16 by omega)
      have hs1 : fb_ct (uu S) (i + 1) = fb_ct (uu S) i + 1 := by rw [fb_ct_succ, if_pos hu]
      have etp : tn (S 6 i) = p := by rw [ep]; exact nI_clamp (by omega)
      have t37 := ht.2.2.1 i hi16 hu
      refine gx_gR h'.o (by decide) rfl (gx_gR h'.o (by decide) rfl (gx_aE h'.a3 (nI_sum (a := 21) (b := i) rfl rfl) (by omega) (Nat.le_of_ble_eq_true rfl) ?_))
      rw [m3, t21, ep]
      refine gx_aEJ (i := 16 + p) h'.a6 (nI_sum (a := 16) rfl rfl) (by omega) (Nat.le_of_ble_eq_true rfl) ?_
      rw [wp3]
      have ln1 := wrL_le (w := wp) 8
      have ln2 := wrL_le (w := wa) 8
      refine gx_recvQ h'.o (by decide) (q_X10_writesWord h' e (by omega) (by omega) hA hN) (fun _ z4 ⟨f4, M4, h4', e4, r4⟩ => gx_recvQ h4'.o (by decide) (q_X10_writes h4' e4 (by rw [List.length_append]; omega) hA) (fun _ z5 ⟨f5, M5, h5, e5, r5⟩ => ?_))
      have m35 : M5 3 = M 3 := by rw [r5 3 (by omega) (by omega), r4 3 (by omega) (by omega), m3]
      refine gx_gR h5.o (by decide) rfl (gx_aE h5.a3 (nI_sum (a := 37) (b := i) rfl rfl) (by omega) (Nat.le_of_ble_eq_true rfl) ?_)
      rw [m35, t37]
      have tail : ∀ v, [32, v, 32] = txt (if S 7 i = 1 then 0 else 1) → gx ((osbind (osrecv [8] m (qX10_writes N m v)) fun _ => osbind (osgR [8] 6 m) fun x1 => osbind (osaJ 2 x1 (nI i)) fun x2 => osbind (osrecv [8] m (qX10_writesNext N m x2)) fun _ => osbind (osrecv [8] m (qX10_writes N m (10 : Int32))) fun _ => ih (m, (nI i + (1 : Int32)))) G z5) (fun v z' => v = nI (unL C S n).length ∧ osFr m (m + 21) z1 z' ∧ ∃ M', rX10 z' m M' D ∧ rL M' (unL C S n) ∧ M' 0 0 = 0 ∧ ∀ k, ¬ k = 0 → ¬ k = 41 → ¬ k = 42 → M' k = M k) := fun v etx => by
        refine gx_recvQ h5.o (by decide) (q_X10_writes h5 e5 (by rw [List.length_append, List.length_append]; simp only [List.length_cons, List.length_nil]; omega) hA) (fun _ z6 ⟨f6, M6, h6, e6, r6⟩ => ?_)
        refine gx_gR h6.o (by decide) rfl (gx_aEJ (i := i) h6.a6 rfl (by omega) (Nat.le_of_ble_eq_true rfl) ?_)
        rw [wa3]
        refine gx_recvQ h6.o (by decide) (q_X10_writesNext h6 e6 (by omega) (by rw [List.length_append, List.length_append, List.length_append]; simp only [List.length_cons, List.length_nil]; omega) hA hN) (fun _ z7 ⟨f7, M7, h7, e7, r7⟩ => gx_recvQ h7.o (by decide) (q_X10_writes h7 e7 (by rw [List.length_append, List.length_append, List.length_append, List.length_append]; simp only [List.length_cons, List.length_nil]; omega) hA) (fun _ z8 ⟨f8, M8, h8, e8, r8⟩ => k _ _ ⟨congrArg (fun t => (_, t)) (nI_sum (b := 1) rfl rfl), fr.tr (f4.tr (f5.tr (f6.tr (f7.tr f8)))), M8, h8, ?_, ?_, fun k q0 q1 q2 => ?_⟩))
        · rw [unL, if_pos hu]
          unfold unS
          rw [etp, wp4, wa4, ← etx, ← wrL_nm wp1, ← wrL_nm wa1]
          simp only [List.append_assoc, List.cons_append, List.nil_append] at e8 ⊢
          exact e8
        · rw [r8 0 (by omega) (by omega), r7 0 (by omega) (by omega), r6 0 (by omega) (by omega), r5 0 (by omega) (by omega), r4 0 (by omega) (by omega)]; exact e0
        · rw [r8 k q1 q2, r7 k q1 q2, r6 k q1 q2, r5 k q1 q2, r4 k q1 q2]; exact er k q0 q1 q2
      refine gx_ite (fun c7 => tail 65 ?_) (fun c7 => tail 70 ?_)
      · rw [c7]; rfl
      · rw [if_pos (by rcases hk01 with q | q; exact absurd q c7; exact q)]; rfl
  · rintro ih p z' ⟨rfl, fr, M', h', e, e0, er⟩
    show gx (bX10_writeUnits_12 N ih m (nI n) G z') _
    unfold bX10_writeUnits_12
    have m0 : M' 1 0 = nI n := by rw [er 1 (by omega) (by omega) (by omega)]; exact hc.m0
    refine gx_gR h'.o (by decide) rfl (gx_aE (i := 0) h'.a1 rfl (by omega) (Nat.le_of_ble_eq_true rfl) ?_)
    rw [m0]
    exact gx_itet ((nI_leI (by omega) (by omega)).mpr (Nat.le_refl n)) (gx_gI h'.o (by decide) rfl (gx_ret ⟨e.1, fr, M', h', e, e0, er⟩))
theorem d_writeUnits (hw : WD z x ad W D) (hi : IVn W D n np T) (hI : osInj G) (hA : G.2.2.1 ≤ x) (hN : 5000 < N) : gx (qX9_writeUnits N x G z) (fun v z1 => (∃ ad W D, WD z1 x ad W D) ∧ gx (qX10_writeUnits N (x + 129) G z1) (sameV T x z1 v)) := by
  refine gx_mono (q_X9_writeUnits hw hi hI hA hN) (fun v z1 ⟨ev, O', w1, ho⟩ => ⟨⟨ad, _, D, w1⟩, ?_⟩)
  have hm1 := w1.m
  rw [Ws_ne (by omega)] at hm1
  refine gx_mono (q_X10_writeUnits (C := W 1) (S := W 3) hm1 hi.m hi.i.j hi.s (by omega) hN) (fun b z2 ⟨eb, fr, M', h2, hr, e0, er⟩ => ⟨by rw [ev, eb], fr, ad, _, D, w1.ref fr h2, ⟨n, np, IV_out hi ho hr ?_ (fun k hk => er k (by omega) (by omega) (by omega))⟩, by rw [Ws_eq]; exact e0⟩)
  have := unL_len (C := W 1) (S := W 3) 16
  have := hi.i.j.c12
  omega
end
