/-! writeOrders: the reference; both (by program) -/
section
variable {G : osG} {z z1 : osS} {N m n np T : Nat} {C S M : Nat → Nat → Int32} {D : Nat → Nat → Int64}
/-- the reference while it writes -/
def wrR (z1 z' : osS) (m : Nat) (D : Nat → Nat → Int64) (M M' : Nat → Nat → Int32) (bs : List Int32) : Prop := osFr m (m + 21) z1 z' ∧ rX10 z' m M' D ∧ rL M' bs ∧ ∀ k, ¬ k = 41 → ¬ k = 42 → M' k = M k
theorem gx_rNext {α : Type} {f : Unit → osM α} {Q : α → osS → Prop} {z' : osS} {M' : Nat → Nat → Int32} {bs : List Int32} {w : Nat} (h : wrR z1 z' m D M M' bs) (hw : w < 2 ^ 40) (hl : bs.length + 9 ≤ 600) (hA : G.2.2.1 ≤ m) (hN : 5000 < N) (k : ∀ z2 M2, wrR z1 z2 m D M M2 (bs ++ (32 :: wrL w 8)) → gx (f () G z2) Q) : gx (osbind (osrecv [8] m (qX10_writesNext N m (lN w))) f G z') Q := by
  obtain ⟨fr, h', e, er⟩ := h
  exact gx_recvQ h'.o (by decide) (q_X10_writesNext h' e hw hl hA hN) (fun _ z2 ⟨f2, M2, h2, e2, r2⟩ => k z2 M2 ⟨fr.tr f2, h2, e2, fun r q1 q2 => (r2 r q1 q2).trans (er r q1 q2)⟩)
theorem gx_rByte {α : Type} {f : Unit → osM α} {Q : α → osS → Prop} {z' : osS} {M' : Nat → Nat → Int32} {bs : List Int32} {v : Int32} (h : wrR z1 z' m D M M' bs) (hl : bs.length < 600) (hA : G.2.2.1 ≤ m) (k : ∀ z2 M2, wrR z1 z2 m D M M2 (bs ++ [v]) → gx (f () G z2) Q) : gx (osbind (osrecv [8] m (qX10_writes N m v)) f G z') Q := by
  obtain ⟨fr, h', e, er⟩ := h
  exact gx_recvQ h'.o (by decide) (q_X10_writes h' e hl hA) (fun _ z2 ⟨f2, M2, h2, e2, r2⟩ => k z2 M2 ⟨fr.tr f2, h2, e2, fun r q1 q2 => (r2 r q1 q2).trans (er r q1 q2)⟩)
/-- the next word is an area's name -/
theorem gx_rArea {α : Type} {f : Unit → osM α} {Q : α → osS → Prop} {z' : osS} {M' : Nat → Nat → Int32} {bs : List Int32} {a : Nat} {v : Int32} (hc : cpM C M D n np) (h : wrR z1 z' m D M M' bs) (ev : v = nI a) (ha : a < n) (hl : bs.length + 9 ≤ 600) (hA : G.2.2.1 ≤ m) (hN : 5000 < N) (k : ∀ z2 M2, wrR z1 z2 m D M M2 (bs ++ (32 :: anm C a)) → gx (f () G z2) Q) : gx (osbind (osaJ 2 (m + 6) v) (fun x2 => osbind (osrecv [8] m (qX10_writesNext N m x2)) f) G z') Q := by
  obtain ⟨w, w1, w2, w3, w4⟩ := nm_a hc ha
  have h16 := hc.n16
  refine gx_aEJ (i := a) h.2.1.a6 ev (by omega) (Nat.le_of_ble_eq_true rfl) ?_
  rw [w3]
  refine gx_rNext h (by omega) hl hA hN (fun z2 M2 h2 => k z2 M2 ?_)
  rw [wrL_nm w1] at h2
  rw [w4]; exact h2
theorem q_X10_writesOrder (hc : cpM C M D n np) (hi : stI C S n np T) (ht : cpT S (M 3)) (ph : S 0 0 = 0) {z' : osS} {M' : Nat → Nat → Int32} {bs : List Int32} {a : Nat} (ha : a < 16) (hu : uu S a = true) (h : wrR z1 z' m D M M' bs) (hl : bs.length + 40 ≤ 600) (hA : G.2.2.1 ≤ m) (hN : 5000 < N) : gx (qX10_writesOrder N m (nI a) G z') (fun _ z2 => ∃ M2, wrR z1 z2 m D M M2 (bs ++ (anm C a ++ ordT C S a))) := by
  have h16 := hc.n16
  obtain ⟨o1, o2, o3, o4, o5, o6⟩ := hi.o ph a ha hu
  obtain ⟨hin, _, _⟩ := hi.j.u a ha hu
  obtain ⟨_, _, _, _, t117, t133, t149⟩ := ht.2.1 a ha
  obtain ⟨w, w1, w2, w3, w4⟩ := nm_a hc hin
  have l0 : (anm C a).length ≤ 5 := anm_le
  have l1 : (anm C (gof S a)).length ≤ 5 := anm_le
  have m3 : ∀ {z2 M2 b2}, wrR z1 z2 m D M M2 b2 → M2 3 = M 3 := fun h => h.2.2.2 3 (by omega) (by omega)
  unfold qX10_writesOrder
  refine gx_gR h.2.1.o (by decide) rfl (gx_aE h.2.1.a3 (nI_sum (a := 117) (b := a) rfl rfl) (by omega) (Nat.le_of_ble_eq_true rfl) ?_)
  rw [m3 h, t117]
  refine gx_gR h.2.1.o (by decide) rfl (gx_aEJ (i := a) h.2.1.a6 rfl (by omega) (Nat.le_of_ble_eq_true rfl) ?_)
  rw [w3]
  refine gx_recvQ h.2.1.o (by decide) (q_X10_writesWord h.2.1 h.2.2.1 (by omega) (by omega) hA hN) (fun _ z2 ⟨f2, M2, h2, e2, r2⟩ => ?_)
  have b2 : wrR z1 z2 m D M M2 (bs ++ anm C a) := ⟨h.1.tr f2, h2, by rw [w4, ← wrL_nm w1]; exact e2, fun r q1 q2 => (r2 r q1 q2).trans (h.2.2.2 r q1 q2)⟩
  have route : ∀ u, u < 2 ^ 40 → (wrL u 8).length ≤ 7 → ¬ S 12 a = 0 → (ordT C S a = (32 :: wrL u 8) ++ (32 :: anm C (gof S a)) ++ (if S 12 a = 3 ∨ S 12 a = 4 then (32 :: wrL 655 8) ++ (32 :: anm C (sof S a)) else [])) → gx (qX10_writesOrder_58 N m (nI a) (lN u) m G z2) (fun _ z3 => ∃ M2, wrR z1 z3 m D M M2 (bs ++ (anm C a ++ ordT C S a))) := fun u hu40 hu7 hk0 eo => by
    unfold qX10_writesOrder_58 qX10_writesOrder_120
    obtain ⟨g1, g2⟩ := o3 hk0
    refine gx_rNext b2 hu40 (by rw [List.length_append]; omega) hA hN (fun z3 M3 b3 => ?_)
    refine gx_gR b3.2.1.o (by decide) rfl (gx_gR b3.2.1.o (by decide) rfl (gx_aE b3.2.1.a3 (nI_sum (a := 133) (b := a) rfl rfl) (by omega) (Nat.le_of_ble_eq_true rfl) ?_))
    rw [m3 b3, t133]
    refine gx_rArea hc b3 g1 g2 (by simp only [List.length_append, List.length_cons]; omega) hA hN (fun z4 M4 b4 => ?_)
    refine gx_gR b4.2.1.o (by decide) rfl (gx_aE b4.2.1.a3 (nI_sum (a := 149) (b := a) rfl rfl) (by omega) (Nat.le_of_ble_eq_true rfl) ?_)
    rw [m3 b4, t149]
    have w7 := wrL_le (w := 655) 8
    by_cases q : S 12 a = 3 ∨ S 12 a = 4
    · obtain ⟨s1, s2⟩ := o4 q
      rw [if_pos q] at eo
      refine gx_itef (by rw [s1]; exact nI_m1 (by omega)) (gx_rNext (w := 655) b4 (by decide) (by simp only [List.length_append, List.length_cons]; omega) hA hN (fun z5 M5 b5 => ?_))
      refine gx_gR b5.2.1.o (by decide) rfl (gx_gR b5.2.1.o (by decide) rfl (gx_aE b5.2.1.a3 (nI_sum (a := 149) (b := a) rfl rfl) (by omega) (Nat.le_of_ble_eq_true rfl) ?_))
      rw [m3 b5, t149]
      refine gx_rArea hc b5 s1 s2 (by simp only [List.length_append, List.length_cons]; omega) hA hN (fun z6 M6 b6 => gx_ret ⟨M6, ?_⟩)
      rw [eo]
      simp only [List.append_assoc] at b6 ⊢
      exact b6
    · rw [if_neg q, List.append_nil] at eo
      refine gx_itet (o5 q) (gx_ret ⟨M4, ?_⟩)
      rw [eo]
      simp only [List.append_assoc] at b4 ⊢
      exact b4
  refine gx_ite (fun c0 => ?_) (fun c0 => gx_ite (fun c1 => ?_) (fun c1 => gx_ite (fun c4 => ?_) (fun c4 => ?_)))
  · refine gx_rNext (w := 277892) b2 (by decide) (by rw [List.length_append]; omega) hA hN (fun z3 M3 b3 => gx_ret ⟨M3, ?_⟩)
    unfold ordT
    rw [if_pos c0]
    rw [w_hold, List.append_assoc] at b3
    exact b3
  · refine route 655 (by decide) (by rw [w_to]; decide) c0 ?_
    unfold ordT
    rw [if_neg c0, if_pos c1, if_neg (by rw [c1]; decide), w_to, List.append_nil]
    rfl
  · refine route 116873721 (by decide) (by rw [w_conv]; decide) c0 ?_
    unfold ordT
    rw [if_neg c0, if_neg c1, if_neg (by rw [c4]; decide), if_neg (by rw [c4]; decide), if_pos (Or.inr c4), w_conv, w_to]
    simp only [List.append_assoc, List.cons_append, List.nil_append]
    rfl
  · refine route 21123055188 (by decide) (by rw [w_supp]; decide) c0 ?_
    unfold ordT
    rw [if_neg c0, if_neg c1, w_supp, w_to]
    by_cases c2 : S 12 a = 2
    · rw [if_pos c2, if_neg (by rw [c2]; decide), List.append_nil]
      simp only [List.append_assoc, List.cons_append, List.nil_append]
      rfl
    · have c3 : S 12 a = 3 := by rcases o1 with e | e | e | e | e; exact absurd e c0; exact absurd e c1; exact absurd e c2; exact e; exact absurd e c4
      rw [if_neg c2, if_pos c3, if_pos (Or.inl c3)]
      simp only [List.append_assoc, List.cons_append, List.nil_append]
      rfl
theorem q_X10_writeOrders_30 (hm : rX10 z m M D) (hr : rL M []) (hc : cpM C M D n np) (hi : stI C S n np T) (ht : cpT S (M 3)) (ph : S 0 0 = 0) (hA : G.2.2.1 ≤ m) (hN : 5000 < N) : gx (qX10_writeOrders_30 N (m, (0 : Int32)) G z) (fun v z' => v = nI (orL C S 16).length ∧ ∃ M', wrR z z' m D M M' (orL C S 16)) := by
  have h16 := hc.n16
  have h12 := hi.j.c12
  have ecut : orL C S 16 = orL C S n := by
    have := orL_cut hi.j (16 - n) (by omega)
    rw [show n + (16 - n) = 16 by omega] at this
    exact this
  rw [ecut]
  refine gx_loop n (fun i p z' => p = (m, nI i) ∧ ∃ M', wrR z z' m D M M' (orL C S i)) ?_ ?_ N 0 _ z (Nat.zero_le _) (by omega) ⟨rfl, M, osFr.rf, hm, hr, fun _ _ _ => rfl⟩
  · rintro ih i p z' hi2 ⟨rfl, M', h'⟩ k
    show gx (bX10_writeOrders_30 N ih m (nI i) G z') _
    unfold bX10_writeOrders_30 qX10_writeOrders_68
    have hi16 : i < 16 := by omega
    have m0 : M' 1 0 = nI n := by rw [h'.2.2.2 1 (by omega) (by omega)]; exact hc.m0
    have m3 : M' 3 = M 3 := h'.2.2.2 3 (by omega) (by omega)
    obtain ⟨_, t21, _⟩ := ht.2.1 i hi16
    refine gx_gR h'.2.1.o (by decide) rfl (gx_aE (i := 0) h'.2.1.a1 rfl (by omega) (Nat.le_of_ble_eq_true rfl) ?_)
    rw [m0]
    refine gx_itef (nI_ge hi2 (by omega)) (gx_gR h'.2.1.o (by decide) rfl (gx_callE (q_X10_isUnit h'.2.1.a3 hi16 rfl) ?_))
    rw [m3, t21]
    refine gx_iteDn (fun c => k _ _ ⟨congrArg (fun t => (_, t)) (nI_sum (b := 1) rfl rfl), M', ?_⟩) (fun c => ?_)
    · rw [orL, if_neg (by unfold uu; rw [decide_eq_true c]; decide)]; exact h'
    · have hu : uu S i = true := by unfold uu; rw [decide_eq_false c]; rfl
      have hl := orL_len (C := C) (S := S) i
      have hmon := fb_ct_mono (uu S) (show i + 1 ≤ 16 by omega)
      have hs1 : fb_ct (uu S) (i + 1) = fb_ct (uu S) i + 1 := by rw [fb_ct_succ, if_pos hu]
      have l1 : (anm C i).length ≤ 5 := anm_le
      have l2 := ordT_len (C := C) (S := S) (a := i)
      refine gx_recvQ h'.2.1.o (by decide) (q_X10_writesOrder hc hi ht ph hi16 hu h' (by omega) hA hN) (fun _ z2 ⟨M2, b2⟩ => ?_)
      refine gx_rByte b2 (by simp only [List.length_append]; omega) hA (fun z3 M3 b3 => gx_rByte b3 (by simp only [List.length_append, List.length_cons, List.length_nil]; omega) hA (fun z4 M4 b4 => k _ _ ⟨congrArg (fun t => (_, t)) (nI_sum (b := 1) rfl rfl), M4, ?_⟩))
      rw [orL, if_pos hu]
      unfold orS
      simp only [List.append_assoc, List.cons_append, List.nil_append] at b4 ⊢
      exact b4
  · rintro ih p z' ⟨rfl, M', h'⟩
    show gx (bX10_writeOrders_30 N ih m (nI n) G z') _
    unfold bX10_writeOrders_30
    have m0 : M' 1 0 = nI n := by rw [h'.2.2.2 1 (by omega) (by omega)]; exact hc.m0
    refine gx_gR h'.2.1.o (by decide) rfl (gx_aE (i := 0) h'.2.1.a1 rfl (by omega) (Nat.le_of_ble_eq_true rfl) ?_)
    rw [m0]
    exact gx_itet ((nI_leI (by omega) (by omega)).mpr (Nat.le_refl n)) (gx_gI h'.2.1.o (by decide) rfl (gx_ret ⟨h'.2.2.1.1, M', h'⟩))
end
section
variable {G : osG} {z : osS} {N x n np T : Nat} {ad : Nat → Nat} {W : Nat → Nat → Nat → Int32} {D : Nat → Nat → Int64}
theorem c_writeOrders (hw : WD z x ad W D) (hi : IVn W D n np T) (hI : osInj G) (hA : G.2.2.1 ≤ x) (hN : 5000 < N) : callT G z x T [(0, (1 : Int32))] (qX9_writeOrders N x) (qX10_writeOrders N (x + 129)) := by
  have hA' : G.2.2.1 ≤ x + 129 := by omega
  by_cases ph : W 3 0 0 = 0
  · refine ⟨fun r _ W1 D1 => r = .inr (nI (orL (W 1) (W 3) 16).length) ∧ D1 = D ∧ ∃ O', W1 = Ws W 7 O' ∧ oL O' (orL (W 1) (W 3) 16), gx_mono (q_X9_writeOrders hw hi hI ph hA hN) (fun r z1 ⟨e, O', w1, ho⟩ => ⟨ad, _, D, w1, e, rfl, O', rfl, ho⟩), ?_⟩
    rintro r z1 ad1 W1 D1 hw1 ⟨rfl, rfl, O', rfl, ho⟩
    have hm1 := hw1.m
    rw [Ws_ne (by omega)] at hm1
    unfold qX10_writeOrders qX10_writeOrders_15
    refine gx_gR hm1.o (by decide) rfl (gx_aE (i := 0) hm1.a3 rfl (by omega) (Nat.le_of_ble_eq_true rfl) ?_)
    rw [hi.s.1.1, ph]
    refine gx_itet rfl (gx_refF hm1 hA' (fun z2 f2 h2 => h2.p42 (by decide) hA' (fun z3 f3 h3 => ?_)))
    refine gx_mono (q_X10_writeOrders_30 (C := W 1) (S := W 3) h3 ⟨rfl, fun k hk => absurd hk (Nat.not_lt_zero k)⟩ (cpM_keep hi.m rfl rfl) hi.i hi.s ph hA' hN) (fun b z4 ⟨eb, M', fr4, h4, r4, er⟩ => ?_)
    have fr := (f2.tr f3).tr fr4
    refine ⟨fr, ad1, _, D1, hw1.ref fr h4, ⟨n, np, IV_out hi ho r4 ?_ (fun k hk => ?_)⟩, ?_⟩
    · have := orL_len (C := W 1) (S := W 3) 16
      have := hi.i.j.c12
      omega
    · rw [er k (by omega) (by omega), cset_ne (by omega)]; exact cset_ne (by omega)
    · rw [Ws_eq]
      exact ⟨by rw [er 0 (by omega) (by omega)]; rfl, eb.symm⟩
  · refine call_of hw (pair_of hi (.inl 0) ?_ (fun z1 ad1 hw1 => ?_))
    · unfold qX9_writeOrders
      exact gx_reqPh hw (fun _ => ⟨rfl, rfl⟩) (fun q => absurd q ph)
    · unfold qX10_writeOrders qX10_writeOrders_15
      refine gx_gR hw1.m.o (by decide) rfl (gx_aE (i := 0) hw1.m.a3 rfl (by omega) (Nat.le_of_ble_eq_true rfl) ?_)
      rw [hi.s.1.1]
      exact gx_itef ph (gx_refT hw1.m hA' (by decide) (fun z2 f2 h2 => gx_ret ⟨f2, _, h2, k0_ok, agrT (j := 0) (q := (0, 1)) rfl rfl (by decide)⟩))
end
