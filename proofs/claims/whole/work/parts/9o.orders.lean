/-! writeOrders (by program) -/
theorem gx_swB {α : Type} {G : osG} {z : osS} {Fs : List (osM α)} {Fd : osM α} {Q : α → osS → Prop} {c : Nat} {v : Int32} (e : v = nI (c + 1)) (hc : c < Fs.length) (h31 : c + 1 < 2 ^ 31) (k : gx ((Fs.getD c osno) G z) Q) : gx (osswitch v 1 Fs Fd G z) Q := by
  subst e
  unfold osswitch
  have e := nI_toInt h31
  show gx (if (1 : Int) ≤ (nI (c + 1)).toInt ∧ (nI (c + 1)).toInt < 1 + (Fs.length : Int) then _ else Fd G z) Q
  rw [if_pos (by rw [e]; omega), e, show (((c + 1 : Nat) : Int) - 1).toNat = c by omega]
  exact k
theorem gx_swB0 {α : Type} {G : osG} {z : osS} {Fs : List (osM α)} {Fd : osM α} {Q : α → osS → Prop} {v : Int32} (e : v = 0) (k : gx (Fd G z) Q) : gx (osswitch v 1 Fs Fd G z) Q := by
  subst e
  unfold osswitch
  rw [if_neg (by intro q; exact absurd q.1 (by decide))]
  exact k
def ordT (C S : Nat → Nat → Int32) (a : Nat) : List Int32 := if S 12 a = 0 then txt 5 else if S 12 a = 1 then txt 2 ++ anm C (gof S a) else if S 12 a = 2 then txt 3 ++ anm C (gof S a) else if S 12 a = 3 then txt 3 ++ (anm C (gof S a) ++ (txt 2 ++ anm C (sof S a))) else txt 4 ++ (anm C (gof S a) ++ (txt 2 ++ anm C (sof S a)))
def orS (C S : Nat → Nat → Int32) (a : Nat) : List Int32 := anm C a ++ (ordT C S a ++ [59, 10])
def orL (C S : Nat → Nat → Int32) : Nat → List Int32
  | 0 => []
  | a + 1 => if uu S a = true then orL C S a ++ orS C S a else orL C S a
theorem w_to : wrL 655 8 = [116, 111] := by decide +kernel
theorem w_hold : wrL 277892 8 = [104, 111, 108, 100] := by decide +kernel
theorem w_conv : wrL 116873721 8 = [99, 111, 110, 118, 111, 121] := by decide +kernel
theorem w_supp : wrL 21123055188 8 = [115, 117, 112, 112, 111, 114, 116] := by decide +kernel
section
variable {C S M : Nat → Nat → Int32} {D : Nat → Nat → Int64} {n np T : Nat}
theorem anm_le {a : Nat} : (anm C a).length ≤ 5 := nmL_le 5
theorem ordT_len {a : Nat} : (ordT C S a).length ≤ 23 := by
  have l1 : (anm C (gof S a)).length ≤ 5 := anm_le
  have l2 : (anm C (sof S a)).length ≤ 5 := anm_le
  have t2 : (txt 2).length = 4 := rfl
  have t3 : (txt 3).length = 9 := rfl
  have t4 : (txt 4).length = 8 := rfl
  have t5 : (txt 5).length = 5 := rfl
  unfold ordT
  repeat' split
  all_goals (try simp only [List.length_append])
  all_goals omega
theorem orS_len {a : Nat} : (orS C S a).length ≤ 30 := by
  have l1 : (anm C a).length ≤ 5 := anm_le
  have l2 := ordT_len (C := C) (S := S) (a := a)
  unfold orS
  simp only [List.length_append, List.length_cons, List.length_nil]
  omega
theorem orL_len : ∀ i, (orL C S i).length ≤ 30 * fb_ct (uu S) i
  | 0 => Nat.le_refl 0
  | i + 1 => by
    have ih := orL_len i
    have l := orS_len (C := C) (S := S) (a := i)
    unfold orL
    rw [fb_ct_succ]
    split
    · rw [List.length_append]; omega
    · omega
theorem orL_cut (hj : stJ C S n np T) : ∀ k, n + k ≤ 16 → orL C S (n + k) = orL C S n
  | 0, _ => rfl
  | k + 1, h => by
    show orL C S (n + k + 1) = _
    rw [orL, if_neg, orL_cut hj k (by omega)]
    intro q
    exact absurd (hj.u (n + k) (by omega) q).1 (by omega)
end
section
variable {G : osG} {z : osS} {N x n np T : Nat} {ad : Nat → Nat} {W : Nat → Nat → Nat → Int32} {D : Nat → Nat → Int64}
/-- the class' face while it writes -/
def wrW (z z' : osS) (x : Nat) (O' : Nat → Nat → Int32) (bs : List Int32) : Prop := osFr (x + 2) (x + 4) z z' ∧ rX4 z' (x + 2) O' ∧ oL O' bs
theorem gx_pText {α : Type} {f : Unit → osM α} {Q : α → osS → Prop} {z' : osS} {O' : Nat → Nat → Int32} {bs : List Int32} {j : Nat} (hI : osInj G) (hj : j < 6) (hw : WD z x ad W D) (h : wrW z z' x O' bs) (hl : bs.length + (txt j).length ≤ 360) (hA : G.2.2.1 ≤ x) (hN : 5000 < N) (k : ∀ z2 O2, wrW z z2 x O2 (bs ++ txt j) → gx (f () G z2) Q) : gx (osbind (osgR [7] 2 x) (fun x1 => osbind (ostext j) fun x2 => osbind (osrecv [4] x1 (qX4_putText N x1 x2)) f) G z') Q := by
  obtain ⟨fr, h', e⟩ := h
  have x9 := hw.x9.keep fr (by omega)
  refine gx_gR x9.o (by decide) rfl (gx_bind ⟨_, _, rfl, gx_recvQ h'.o (by decide) (q_X4_putText hI hj h' e hl (by omega) hN) (fun _ z2 ⟨f2, O2, h2, e2⟩ => k z2 O2 ⟨fr.tr f2, h2, e2⟩)⟩)
theorem gx_pName {α : Type} {f : Unit → osM α} {Q : α → osS → Prop} {z' : osS} {O' : Nat → Nat → Int32} {bs : List Int32} {a : Nat} {v : Int32} (hw : WD z x ad W D) (hm : cpM (W 1) (W 20) D n np) (h : wrW z z' x O' bs) (ev : v = nI a) (ha : a < n) (hl : bs.length + 5 ≤ 360) (hA : G.2.2.1 ≤ x) (hN : 5000 < N) (k : ∀ z2 O2, wrW z z2 x O2 (bs ++ anm (W 1) a) → gx (f () G z2) Q) : gx (osbind (osgR [7] 2 x) (fun x1 => osbind (osgR [7] 10 x) fun x2 => osbind (osgR [0] 5 x2) fun x3 => osbind (qX9_entry N x3 v) fun x4 => osbind (osrecv [4] x1 (qX4_putName N x1 x4)) f) G z') Q := by
  subst ev
  obtain ⟨fr, h', e⟩ := h
  have hb9 := hw.ok.b
  have h16 := hm.n16
  have x9 := hw.x9.keep fr (by omega)
  have bd := hw.bd.keep fr (by omega)
  obtain ⟨w, w1, w2, w3, w4⟩ := nm_a hm ha
  refine gx_gR x9.o (by decide) rfl (gx_gR x9.o (by decide) rfl (gx_gR bd.o (by decide) rfl (gx_callE (q_entryN bd.a5 (by omega) (by omega)) ?_)))
  rw [w2]
  refine gx_recvQ h'.o (by decide) (q_X4_putName h' e w1 hl (by omega) hN) (fun _ z2 ⟨f2, O2, h2, e2⟩ => k z2 O2 ⟨fr.tr f2, h2, by rw [w4]; exact e2⟩)
theorem q_X9_putRoute {z' : osS} {O' : Nat → Nat → Int32} {bs : List Int32} {a b : Nat} {v w : Int32} (hI : osInj G) (hw : WD z x ad W D) (hm : cpM (W 1) (W 20) D n np) (h : wrW z z' x O' bs) (ev : v = nI a) (ha : a < n) (ew : w = nI b) (hb : b < n) (hl : bs.length + 14 ≤ 360) (hA : G.2.2.1 ≤ x) (hN : 5000 < N) : gx (qX9_putRoute N x v w G z') (fun _ z2 => ∃ O2, wrW z z2 x O2 (bs ++ (anm (W 1) a ++ (txt 2 ++ anm (W 1) b)))) := by
  unfold qX9_putRoute
  have l1 : (anm (W 1) a).length ≤ 5 := anm_le
  have t2 : (txt 2).length = 4 := rfl
  refine gx_pName hw hm h ev ha (by omega) hA hN (fun z2 O2 h2 => gx_pText hI (by omega) hw h2 (by rw [List.length_append]; omega) hA hN (fun z3 O3 h3 => gx_pName hw hm h3 ew hb (by rw [List.length_append, List.length_append]; omega) hA hN (fun z4 O4 h4 => gx_ret ⟨O4, ?_⟩)))
  rw [List.append_assoc, List.append_assoc] at h4; exact h4
theorem q_X9_putOrder {z' : osS} {O' : Nat → Nat → Int32} {bs : List Int32} {a : Nat} (hI : osInj G) (hw : WD z x ad W D) (hi : IVn W D n np T) (ph : W 3 0 0 = 0) (ha : a < 16) (hu : uu (W 3) a = true) (h : wrW z z' x O' bs) (hl : bs.length + 23 ≤ 360) (hA : G.2.2.1 ≤ x) (hN : 5000 < N) : gx (qX9_putOrder N x (W 3 12 a) (W 3 13 a) (W 3 14 a) G z') (fun _ z2 => ∃ O2, wrW z z2 x O2 (bs ++ ordT (W 1) (W 3) a)) := by
  have hm := hi.m
  obtain ⟨o1, o2, o3, o4, o5, o6⟩ := hi.i.o ph a ha hu
  have l1 : (anm (W 1) (gof (W 3) a)).length ≤ 5 := anm_le
  have t2 : (txt 2).length = 4 := rfl
  have t3 : (txt 3).length = 9 := rfl
  have t4 : (txt 4).length = 8 := rfl
  have t5 : (txt 5).length = 5 := rfl
  have x9 := hw.x9.keep h.1 (by omega)
  unfold qX9_putOrder qX9_putOrder_142
  rcases o1 with e | e | e | e | e
  · refine gx_swB0 e (gx_pText hI (by omega) hw h (by omega) hA hN (fun z2 O2 h2 => gx_ret ⟨O2, ?_⟩))
    unfold ordT; rw [if_pos e]; exact h2
  · obtain ⟨g1, g2⟩ := o3 (by rw [e]; decide)
    refine gx_swB (c := 0) e (by show 0 < 4; omega) (by omega) (gx_pText hI (by omega) hw h (by omega) hA hN (fun z2 O2 h2 => gx_pName hw hm h2 g1 g2 (by rw [List.length_append]; omega) hA hN (fun z3 O3 h3 => gx_ret ⟨O3, ?_⟩)))
    unfold ordT; rw [if_neg (by rw [e]; decide), if_pos e, ← List.append_assoc]; exact h3
  · obtain ⟨g1, g2⟩ := o3 (by rw [e]; decide)
    refine gx_swB (c := 1) e (by show 1 < 4; omega) (by omega) (gx_pText hI (by omega) hw h (by omega) hA hN (fun z2 O2 h2 => gx_pName hw hm h2 g1 g2 (by rw [List.length_append]; omega) hA hN (fun z3 O3 h3 => gx_ret ⟨O3, ?_⟩)))
    unfold ordT; rw [if_neg (by rw [e]; decide), if_neg (by rw [e]; decide), if_pos e, ← List.append_assoc]; exact h3
  · obtain ⟨g1, g2⟩ := o3 (by rw [e]; decide)
    obtain ⟨s1, s2⟩ := o4 (Or.inl e)
    refine gx_swB (c := 2) e (by show 2 < 4; omega) (by omega) (gx_pText hI (by omega) hw h (by omega) hA hN (fun z2 O2 h2 => gx_recvQ (hw.x9.keep h2.1 (by omega)).o (by decide) (q_X9_putRoute hI hw hm h2 g1 g2 s1 s2 (by rw [List.length_append]; omega) hA hN) (fun _ z3 ⟨O3, h3⟩ => gx_ret ⟨O3, ?_⟩)))
    unfold ordT; rw [if_neg (by rw [e]; decide), if_neg (by rw [e]; decide), if_neg (by rw [e]; decide), if_pos e, ← List.append_assoc]; exact h3
  · obtain ⟨g1, g2⟩ := o3 (by rw [e]; decide)
    obtain ⟨s1, s2⟩ := o4 (Or.inr e)
    refine gx_swB (c := 3) e (by show 3 < 4; omega) (by omega) (gx_pText hI (by omega) hw h (by omega) hA hN (fun z2 O2 h2 => gx_recvQ (hw.x9.keep h2.1 (by omega)).o (by decide) (q_X9_putRoute hI hw hm h2 g1 g2 s1 s2 (by rw [List.length_append]; omega) hA hN) (fun _ z3 ⟨O3, h3⟩ => gx_ret ⟨O3, ?_⟩)))
    unfold ordT; rw [if_neg (by rw [e]; decide), if_neg (by rw [e]; decide), if_neg (by rw [e]; decide), if_neg (by rw [e]; decide), ← List.append_assoc]; exact h3
theorem q_X9_writeOrders (hw : WD z x ad W D) (hi : IVn W D n np T) (hI : osInj G) (ph : W 3 0 0 = 0) (hA : G.2.2.1 ≤ x) (hN : 5000 < N) : gx (qX9_writeOrders N x G z) (fun v z' => v = .inr (nI (orL (W 1) (W 3) 16).length) ∧ ∃ O', WD z' x ad (Ws W 7 O') D ∧ oL O' (orL (W 1) (W 3) 16)) := by
  have h16 := hi.m.n16
  have h12 := hi.i.j.c12
  have hb9 := hw.ok.b
  have hs9 := hw.ok.s
  unfold qX9_writeOrders
  refine gx_reqPh hw (fun q => absurd ph q) (fun _ => gx_gR hw.x9.o (by decide) rfl (hw.x4.p1 (by decide) (by omega) (fun z1 f1 h1 => ?_)))
  refine gx_loop 16 (fun i p z' => p = (x, nI i) ∧ ∃ O', wrW z z' x O' (orL (W 1) (W 3) i)) ?_ ?_ N 0 _ z1 (Nat.zero_le _) (by omega) ⟨rfl, _, f1, h1, rfl, fun k hk => absurd hk (Nat.not_lt_zero k)⟩
  · rintro ih i p z' hi2 ⟨rfl, O', h'⟩ k
    show gx (bX9_writeOrders_15 N ih x (nI i) G z') _
    unfold bX9_writeOrders_15 qX9_writeOrders_97
    have fr := h'.1
    have x9 := hw.x9.keep fr (by omega)
    have nw := hw.nw.keep fr (by omega)
    refine gx_itef (nI_ge (a := i) (b := 16) hi2 (by omega)) (gx_gR x9.o (by decide) rfl (gx_recvE nw.o (by decide) (q_hasUnitN nw hi2) (gx_iteDn (fun c => k _ _ ⟨congrArg (fun t => (_, t)) (nI_sum (b := 1) rfl rfl), O', ?_⟩) (fun c => ?_))))
    · rw [orL, if_neg (by unfold uu; rw [decide_eq_true c]; decide)]; exact h'
    · have hu : uu (W 3) i = true := by unfold uu; rw [decide_eq_false c]; rfl
      obtain ⟨hin, _, _⟩ := hi.i.j.u i hi2 hu
      obtain ⟨wa, wa1, wa2, wa3, wa4⟩ := nm_a hi.m hin
      have hl := orL_len (C := W 1) (S := W 3) i
      have hmon := fb_ct_mono (uu (W 3)) (show i + 1 ≤ 16 by omega)
      have hs1 : fb_ct (uu (W 3)) (i + 1) = fb_ct (uu (W 3)) i + 1 := by rw [fb_ct_succ, if_pos hu]
      have bd := hw.bd.keep fr (by omega)
      have l1 : (anm (W 1) i).length ≤ 5 := anm_le
      have l2 := ordT_len (C := W 1) (S := W 3) (a := i)
      refine gx_gR x9.o (by decide) rfl (gx_gR x9.o (by decide) rfl (gx_gR bd.o (by decide) rfl (gx_aE bd.a5 rfl hi2 (Nat.le_of_ble_eq_true rfl) ?_)))
      rw [wa2]
      refine gx_recvQ h'.2.1.o (by decide) (q_X4_putName h'.2.1 h'.2.2 wa1 (by omega) (by omega) hN) (fun _ z2 ⟨f2, O2, h2, e2⟩ => ?_)
      have w2 : wrW z z2 x O2 (orL (W 1) (W 3) i ++ anm (W 1) i) := ⟨fr.tr f2, h2, by rw [wa4]; exact e2⟩
      have x92 := hw.x9.keep w2.1 (by omega)
      have nw2 := hw.nw.keep w2.1 (by omega)
      refine gx_gR x92.o (by decide) rfl (gx_gR nw2.o (by decide) rfl (gx_aE nw2.a12 rfl hi2 (Nat.le_of_ble_eq_true rfl) (gx_gR x92.o (by decide) rfl (gx_gR nw2.o (by decide) rfl (gx_aE nw2.a13 rfl hi2 (Nat.le_of_ble_eq_true rfl) (gx_gR x92.o (by decide) rfl (gx_gR nw2.o (by decide) rfl (gx_aE nw2.a14 rfl hi2 (Nat.le_of_ble_eq_true rfl) (gx_recvQ x92.o (by decide) (q_X9_putOrder hI hw hi ph hi2 hu w2 (by rw [List.length_append]; omega) hA hN) (fun _ z3 ⟨O3, w3⟩ => ?_))))))))))
      have x93 := hw.x9.keep w3.1 (by omega)
      refine gx_gR x93.o (by decide) rfl (gx_recvQ w3.2.1.o (by decide) (q_X4_putByte (b := 59) w3.2.1 w3.2.2 (by rw [List.length_append, List.length_append]; omega) (by omega) (by omega)) (fun _ z4 ⟨f4, O4, h4, e4⟩ => ?_))
      have x94 := hw.x9.keep (w3.1.tr f4) (by omega)
      refine gx_gR x94.o (by decide) rfl (gx_recvQ h4.o (by decide) (q_X4_putByte (b := 10) h4 e4 (by rw [List.length_append, List.length_append, List.length_append]; simp only [List.length_cons, List.length_nil]; omega) (by omega) (by omega)) (fun _ z5 ⟨f5, O5, h5, e5⟩ => k _ _ ⟨congrArg (fun t => (_, t)) (nI_sum (b := 1) rfl rfl), O5, (w3.1.tr f4).tr f5, h5, ?_⟩))
      rw [orL, if_pos hu]
      unfold orS
      simp only [List.append_assoc, List.cons_append, List.nil_append] at e5 ⊢
      exact e5
  · rintro ih p z' ⟨rfl, O', fr, h', e⟩
    show gx (bX9_writeOrders_15 N ih x (nI 16) G z') _
    unfold bX9_writeOrders_15
    have x9 := hw.x9.keep fr (by omega)
    exact gx_itet (by decide) (gx_gR x9.o (by decide) rfl (gx_gI h'.o (by decide) rfl (gx_Rt (gx_ret ⟨by rw [e.1], O', hw.c4 fr h', e⟩))))
end
