/-! a State's writes (by program) -/
def placed (S : Nat → Nat → Int32) (i : Nat) (v w : Int32) : Nat → Nat → Int32 := cset (cset S 6 (upd (S 6) i v)) 7 (upd (S 7) i w)
theorem q_X5_placeUnit {G : osG} {z : osS} {N : Nat} {i : Nat} {v : Int32} {w : Int32} {s : Nat} {S : Nat → Nat → Int32} (h : rX5 z s S) (hA : G.2.2.1 ≤ s) (hi : i < 16) : gx (qX5_placeUnit N s (nI i) v w G z) (fun _ z' => osFr s (s + 12) z z' ∧ rX5 z' s (placed S i v w)) := by
  unfold qX5_placeUnit
  (repeat (first | unfold qX5_placeUnit_24))
  exact gx_itef (nI_nl0 (a := i) (rfl) (by omega)) (gx_itef (nI_nleE (a := 16) (rfl) (rfl) (by omega) (by omega)) (gx_gR h.o (by decide) rfl (h.s6 (rfl) (by omega) (by omega) (fun z_1 f_1 h_1 => gx_gR h_1.o (by decide) rfl (h_1.s7 (rfl) (by omega) (by omega) (fun z_2 f_2 h_2 => gx_ret ⟨((f_1.wide (by omega) (by omega)).tr (f_2.wide (by omega) (by omega))), (by first | with_reducible exact h_2 | exact h_2)⟩))))))
theorem q_X5_placeUnitE {G : osG} {z : osS} {N : Nat} {i : Nat} {v : Int32} {w : Int32} {s : Nat} {S : Nat → Nat → Int32} {x1 : Int32} (h : rX5 z s S) (hA : G.2.2.1 ≤ s) (hi : i < 16) (e1 : x1 = nI i) : gx (qX5_placeUnit N s x1 v w G z) (fun _ z' => osFr s (s + 12) z z' ∧ rX5 z' s (placed S i v w)) := by
  subst e1
  exact q_X5_placeUnit h hA hi
def ordered (S : Nat → Nat → Int32) (i : Nat) (u v w : Int32) : Nat → Nat → Int32 := cset (cset (cset S 12 (upd (S 12) i u)) 13 (upd (S 13) i v)) 14 (upd (S 14) i w)
theorem q_X5_giveOrder {G : osG} {z : osS} {N : Nat} {i : Nat} {u : Int32} {v : Int32} {w : Int32} {s : Nat} {S : Nat → Nat → Int32} (h : rX5 z s S) (hA : G.2.2.1 ≤ s) (hi : i < 16) : gx (qX5_giveOrder N s (nI i) u v w G z) (fun _ z' => osFr s (s + 12) z z' ∧ rX5 z' s (ordered S i u v w)) := by
  unfold qX5_giveOrder
  (repeat (first | unfold qX5_giveOrder_32))
  exact gx_itef (nI_nl0 (a := i) (rfl) (by omega)) (gx_itef (nI_nleE (a := 16) (rfl) (rfl) (by omega) (by omega)) (gx_gR h.o (by decide) rfl (h.s12 (rfl) (by omega) (by omega) (fun z_1 f_1 h_1 => gx_gR h_1.o (by decide) rfl (h_1.s13 (rfl) (by omega) (by omega) (fun z_2 f_2 h_2 => gx_gR h_2.o (by decide) rfl (h_2.s14 (rfl) (by omega) (by omega) (fun z_3 f_3 h_3 => gx_ret ⟨(((f_1.wide (by omega) (by omega)).tr (f_2.wide (by omega) (by omega))).tr (f_3.wide (by omega) (by omega))), (by first | with_reducible exact h_3 | exact h_3)⟩))))))))
theorem q_X5_giveOrderE {G : osG} {z : osS} {N : Nat} {i : Nat} {u : Int32} {v : Int32} {w : Int32} {s : Nat} {S : Nat → Nat → Int32} {x1 : Int32} (h : rX5 z s S) (hA : G.2.2.1 ≤ s) (hi : i < 16) (e1 : x1 = nI i) : gx (qX5_giveOrder N s x1 u v w G z) (fun _ z' => osFr s (s + 12) z z' ∧ rX5 z' s (ordered S i u v w)) := by
  subst e1
  exact q_X5_giveOrder h hA hi
theorem q_X5_giveRetreat {G : osG} {z : osS} {N : Nat} {i : Nat} {v : Int32} {s : Nat} {S : Nat → Nat → Int32} (h : rX5 z s S) (hA : G.2.2.1 ≤ s) (hi : i < 16) : gx (qX5_giveRetreat N s (nI i) v G z) (fun _ z' => osFr s (s + 12) z z' ∧ rX5 z' s (cset S 11 (upd (S 11) i v))) := by
  unfold qX5_giveRetreat
  (repeat (first | unfold qX5_giveRetreat_17))
  exact gx_itef (nI_nl0 (a := i) (rfl) (by omega)) (gx_itef (nI_nleE (a := 16) (rfl) (rfl) (by omega) (by omega)) (gx_gR h.o (by decide) rfl (h.s11 (rfl) (by omega) (by omega) (fun z_1 f_1 h_1 => gx_ret ⟨(f_1.wide (by omega) (by omega)), (by first | with_reducible exact h_1 | exact h_1)⟩))))
theorem q_X5_giveRetreatE {G : osG} {z : osS} {N : Nat} {i : Nat} {v : Int32} {s : Nat} {S : Nat → Nat → Int32} {x1 : Int32} (h : rX5 z s S) (hA : G.2.2.1 ≤ s) (hi : i < 16) (e1 : x1 = nI i) : gx (qX5_giveRetreat N s x1 v G z) (fun _ z' => osFr s (s + 12) z z' ∧ rX5 z' s (cset S 11 (upd (S 11) i v))) := by
  subst e1
  exact q_X5_giveRetreat h hA hi
theorem q_X5_giveCenter {G : osG} {z : osS} {N : Nat} {i : Nat} {v : Int32} {s : Nat} {S : Nat → Nat → Int32} (h : rX5 z s S) (hA : G.2.2.1 ≤ s) (hi : i < 16) : gx (qX5_giveCenter N s (nI i) v G z) (fun _ z' => osFr s (s + 12) z z' ∧ rX5 z' s (cset S 5 (upd (S 5) i v))) := by
  unfold qX5_giveCenter
  (repeat (first | unfold qX5_giveCenter_17))
  exact gx_itef (nI_nl0 (a := i) (rfl) (by omega)) (gx_itef (nI_nleE (a := 16) (rfl) (rfl) (by omega) (by omega)) (gx_gR h.o (by decide) rfl (h.s5 (rfl) (by omega) (by omega) (fun z_1 f_1 h_1 => gx_ret ⟨(f_1.wide (by omega) (by omega)), (by first | with_reducible exact h_1 | exact h_1)⟩))))
theorem q_X5_giveCenterE {G : osG} {z : osS} {N : Nat} {i : Nat} {v : Int32} {s : Nat} {S : Nat → Nat → Int32} {x1 : Int32} (h : rX5 z s S) (hA : G.2.2.1 ≤ s) (hi : i < 16) (e1 : x1 = nI i) : gx (qX5_giveCenter N s x1 v G z) (fun _ z' => osFr s (s + 12) z z' ∧ rX5 z' s (cset S 5 (upd (S 5) i v))) := by
  subst e1
  exact q_X5_giveCenter h hA hi
def stCU (a : Nat) (S : Nat → Nat → Int32) : Nat → Nat → Int32 := cset (cset S 6 (upd (S 6) a (-1))) 7 (upd (S 7) a (-1))
theorem q_X5_clearUnits_b {G : osG} {z : osS} {N : Nat} {s : Nat} {S : Nat → Nat → Int32} (h : rX5 z s S) {a : Nat} {Q : Unit → osS → Prop} {ih : Nat × Int32 → osM Unit} (hA : G.2.2.1 ≤ s) (hN : 16 < N) (h9 : a < 16) (k : ∀ z1, osFr s (s + 12) z z1 → rX5 z1 s (stCU a S) → gx (ih (s, nI a + 1) G z1) Q) : gx (bX5_clearUnits_2 N ih s (nI a) G z) Q := by
  unfold bX5_clearUnits_2
  exact gx_itef (nI_nleE (a := 16) (rfl) (rfl) (by omega) (by omega)) (gx_gR h.o (by decide) rfl (h.s6 (rfl) (by omega) (by omega) (fun z_1 f_1 h_1 => gx_gR h_1.o (by decide) rfl (h_1.s7 (rfl) (by omega) (by omega) (fun z_2 f_2 h_2 => k _ ((f_1.wide (by omega) (by omega)).tr (f_2.wide (by omega) (by omega))) (by first | with_reducible exact h_2 | (unfold stCU; with_reducible exact h_2) | exact h_2))))))
theorem q_X5_clearUnits {G : osG} {z : osS} {N : Nat} {s : Nat} {S : Nat → Nat → Int32} (h : rX5 z s S) (hA : G.2.2.1 ≤ s) (hN : 16 < N) : gx (qX5_clearUnits N s G z) (fun _ z' => osFr s (s + 12) z z' ∧ rX5 z' s (osit (fun a W => stCU a W) 0 16 S)) := by
  unfold qX5_clearUnits qX5_clearUnits_2
  refine gx_loop 16 (fun i p z' => p = (s, nI i) ∧ osFr s (s + 12) z z' ∧ rX5 z' s (osit (fun a W => stCU a W) 0 i S)) ?_ ?_ N 0 _ z (Nat.zero_le _) (by omega) ⟨rfl, osFr.rf, h⟩
  · rintro ih a p z' h9 ⟨rfl, f_0, h_0⟩ k
    exact q_X5_clearUnits_b h_0 hA (by first | assumption | omega) h9 (fun z1 f_1 h_1 => k _ _ ⟨by rw [nI_1], f_0.tr f_1, by rw [osit_last, Nat.zero_add]; exact h_1⟩)
  · rintro ih p z' ⟨rfl, f_0, h_0⟩
    show gx (bX5_clearUnits_2 N ih s (nI 16) G z') _
    unfold bX5_clearUnits_2
    exact gx_itet le16 (gx_ret ⟨f_0, h_0⟩)
def stCD (a : Nat) (S : Nat → Nat → Int32) : Nat → Nat → Int32 := cset (cset (cset (cset S 8 (upd (S 8) a (-1))) 9 (upd (S 9) a (-1))) 10 (upd (S 10) a (-1))) 11 (upd (S 11) a (-1))
theorem q_X5_clearDislodged_b {G : osG} {z : osS} {N : Nat} {s : Nat} {S : Nat → Nat → Int32} (h : rX5 z s S) {a : Nat} {Q : Unit → osS → Prop} {ih : Nat × Int32 → osM Unit} (hA : G.2.2.1 ≤ s) (hN : 16 < N) (h9 : a < 16) (k : ∀ z1, osFr s (s + 12) z z1 → rX5 z1 s (stCD a S) → gx (ih (s, nI a + 1) G z1) Q) : gx (bX5_clearDislodged_2 N ih s (nI a) G z) Q := by
  unfold bX5_clearDislodged_2
  exact gx_itef (nI_nleE (a := 16) (rfl) (rfl) (by omega) (by omega)) (gx_gR h.o (by decide) rfl (h.s8 (rfl) (by omega) (by omega) (fun z_1 f_1 h_1 => gx_gR h_1.o (by decide) rfl (h_1.s9 (rfl) (by omega) (by omega) (fun z_2 f_2 h_2 => gx_gR h_2.o (by decide) rfl (h_2.s10 (rfl) (by omega) (by omega) (fun z_3 f_3 h_3 => gx_gR h_3.o (by decide) rfl (h_3.s11 (rfl) (by omega) (by omega) (fun z_4 f_4 h_4 => k _ ((((f_1.wide (by omega) (by omega)).tr (f_2.wide (by omega) (by omega))).tr (f_3.wide (by omega) (by omega))).tr (f_4.wide (by omega) (by omega))) (by first | with_reducible exact h_4 | (unfold stCD; with_reducible exact h_4) | exact h_4))))))))))
theorem q_X5_clearDislodged {G : osG} {z : osS} {N : Nat} {s : Nat} {S : Nat → Nat → Int32} (h : rX5 z s S) (hA : G.2.2.1 ≤ s) (hN : 16 < N) : gx (qX5_clearDislodged N s G z) (fun _ z' => osFr s (s + 12) z z' ∧ rX5 z' s (osit (fun a W => stCD a W) 0 16 S)) := by
  unfold qX5_clearDislodged qX5_clearDislodged_2
  refine gx_loop 16 (fun i p z' => p = (s, nI i) ∧ osFr s (s + 12) z z' ∧ rX5 z' s (osit (fun a W => stCD a W) 0 i S)) ?_ ?_ N 0 _ z (Nat.zero_le _) (by omega) ⟨rfl, osFr.rf, h⟩
  · rintro ih a p z' h9 ⟨rfl, f_0, h_0⟩ k
    exact q_X5_clearDislodged_b h_0 hA (by first | assumption | omega) h9 (fun z1 f_1 h_1 => k _ _ ⟨by rw [nI_1], f_0.tr f_1, by rw [osit_last, Nat.zero_add]; exact h_1⟩)
  · rintro ih p z' ⟨rfl, f_0, h_0⟩
    show gx (bX5_clearDislodged_2 N ih s (nI 16) G z') _
    unfold bX5_clearDislodged_2
    exact gx_itet le16 (gx_ret ⟨f_0, h_0⟩)
def stHA (a : Nat) (S : Nat → Nat → Int32) : Nat → Nat → Int32 := ordered S a 0 (-1) (-1)
theorem q_X5_holdAll_b {G : osG} {z : osS} {N : Nat} {s : Nat} {S : Nat → Nat → Int32} (h : rX5 z s S) {a : Nat} {Q : Unit → osS → Prop} {ih : Nat × Int32 → osM Unit} (hA : G.2.2.1 ≤ s) (hN : 16 < N) (h9 : a < 16) (k : ∀ z1, osFr s (s + 12) z z1 → rX5 z1 s (stHA a S) → gx (ih (s, nI a + 1) G z1) Q) : gx (bX5_holdAll_2 N ih s (nI a) G z) Q := by
  unfold bX5_holdAll_2
  exact gx_itef (nI_nleE (a := 16) (rfl) (rfl) (by omega) (by omega)) (gx_recvQ h.o (by decide) (q_X5_giveOrderE h (by omega) (by first | assumption | omega | exact (hg _ (by omega) (by assumption)).2 | exact (hm (by assumption) (by assumption)).1 | exact (hm (by assumption) (by assumption)).2 | exact hz8 | exact hz10 | exact hu (by assumption) | exact (hm1 (by assumption)).1 | exact (hm1 (by assumption)).2 | simp_all) (rfl)) (fun v_1 z_1 ⟨f_1, s_1⟩ => k _ (f_1.wide (by omega) (by omega)) (by first | with_reducible exact s_1 | (unfold stHA; with_reducible exact s_1) | exact s_1)))
theorem q_X5_holdAll {G : osG} {z : osS} {N : Nat} {s : Nat} {S : Nat → Nat → Int32} (h : rX5 z s S) (hA : G.2.2.1 ≤ s) (hN : 16 < N) : gx (qX5_holdAll N s G z) (fun _ z' => osFr s (s + 12) z z' ∧ rX5 z' s (osit (fun a W => stHA a W) 0 16 S)) := by
  unfold qX5_holdAll qX5_holdAll_2
  refine gx_loop 16 (fun i p z' => p = (s, nI i) ∧ osFr s (s + 12) z z' ∧ rX5 z' s (osit (fun a W => stHA a W) 0 i S)) ?_ ?_ N 0 _ z (Nat.zero_le _) (by omega) ⟨rfl, osFr.rf, h⟩
  · rintro ih a p z' h9 ⟨rfl, f_0, h_0⟩ k
    exact q_X5_holdAll_b h_0 hA (by first | assumption | omega) h9 (fun z1 f_1 h_1 => k _ _ ⟨by rw [nI_1], f_0.tr f_1, by rw [osit_last, Nat.zero_add]; exact h_1⟩)
  · rintro ih p z' ⟨rfl, f_0, h_0⟩
    show gx (bX5_holdAll_2 N ih s (nI 16) G z') _
    unfold bX5_holdAll_2
    exact gx_itet le16 (gx_ret ⟨f_0, h_0⟩)
