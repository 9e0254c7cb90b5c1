/-! Judge: weigh (by program) -/
def stGr (L : Nat → Nat → Int32) (F s : Int32) (c : Nat) (g : Int32) : Int32 := if bt s c = true then g ||| (L 15 c &&& F) else g
def grw (L : Nat → Nat → Int32) (F s : Int32) : Int32 := osit (stGr L F s) 0 16 s
def fixi (w : Int32 → Int32) : Nat → Int32 → Int32
  | 0, s => s
  | k + 1, s => if w s = s then s else fixi w k (w s)
def jFl (L J : Nat → Nat → Int32) (a : Nat) : Int32 := L 12 a &&& (J 6 0 ^^^ (-1 : Int32))
def jCar (L J : Nat → Nat → Int32) (a : Nat) : Bool := !decide (fixi (grw L (jFl L J a)) 16 (jFl L J a &&& L 13 a) &&& L 14 a = 0)
section
variable {G : osG} {z : osS} {N j a : Nat} {L J : Nat → Nat → Int32}
theorem q_X1_isCarried_49b {c : Nat} {F r x g : Int32} {Q : Int32 → osS → Prop} {c36 : Nat × Int32 × Int32 × Int32 × Int32 → osM Int32} {ih : Nat × Int32 × Int32 × Int32 × Int32 × Int32 × Int32 → osM Int32} (hj : rX1 z j J) (hl : rX2 z (j + 1) L) (hc : c < 16) (k : ∀ g1, g1 = stGr L F r c g → gx (ih (j, nI a, F, r, x, g1, nI c + 1) G z) Q) : gx (bX1_isCarried_49 N c36 ih j (nI a) F r x g (nI c) G z) Q := by
  unfold bX1_isCarried_49
  (repeat (first | unfold qX1_isCarried_82))
  exact gx_itef (nI_nleE (a := 16) (rfl) (rfl) (by omega) (by omega)) (gx_callE (q_hasE rfl (by omega)) (gx_iteB (fun (c_1 : (bt (r) c) = false) => k _ (by unfold stGr; simp only [cset_ap, c_1, Nat.reduceEqDiff, reduceIte, Bool.false_eq_true, ite_true, ite_false])) (fun (c_1 : (bt (r) c) = true) => gx_gR hj.o (by decide) rfl (gx_gR hl.o (by decide) rfl (gx_aE hl.a15 (rfl) (by omega) (Nat.le_of_ble_eq_true rfl) (k _ (by unfold stGr; simp only [cset_ap, if_pos c_1, Nat.reduceEqDiff, reduceIte, Bool.false_eq_true, ite_true, ite_false])))))))
theorem q_X1_isCarried_49 {F r x : Int32} {Q : Int32 → osS → Prop} {c36 : Nat × Int32 × Int32 × Int32 × Int32 → osM Int32} (hj : rX1 z j J) (hl : rX2 z (j + 1) L) (hN : 16 < N) (k1 : grw L F r = r → gx (qX1_isCarried_106 N j (nI a) r G z) Q) (k2 : ¬ grw L F r = r → gx (c36 (j, nI a, F, grw L F r, x + 1) G z) Q) : gx (qX1_isCarried_49 N c36 (j, nI a, F, r, x, r, nI 0) G z) Q := by
  unfold qX1_isCarried_49
  refine gx_loop 16 (fun i p z' => p = (j, nI a, F, r, x, osit (stGr L F r) 0 i r, nI i) ∧ z' = z) ?_ ?_ N 0 _ z (Nat.zero_le _) (by omega) ⟨rfl, rfl⟩
  · rintro ih c p z' hc ⟨rfl, rfl⟩ k
    show gx (bX1_isCarried_49 N c36 ih j (nI a) F r x _ (nI c) G z') _
    exact q_X1_isCarried_49b hj hl hc (fun g1 e => k _ _ ⟨by rw [nI_1, e, osit_last, Nat.zero_add], rfl⟩)
  · rintro ih p z' ⟨rfl, rfl⟩
    show gx (bX1_isCarried_49 N c36 ih j (nI a) F r x (grw L F r) (nI 16) G z') _
    unfold bX1_isCarried_49
    exact gx_itet le16 (gx_ite k1 k2)
theorem q_X1_isCarried (hj : rX1 z j J) (hl : rX2 z (j + 1) L) (ha : a < 16) (hN : 16 < N) : qX1_isCarried N j (nI a) G z = some (b2i (jCar L J a), z) := by
  refine gx_eq ?_
  unfold qX1_isCarried
  refine gx_gR hj.o (by decide) rfl (gx_gR hl.o (by decide) rfl (gx_callE (q_entryN hl.a12 ha (by omega)) (gx_gI hj.o (by decide) rfl (gx_retb (gx_gR hj.o (by decide) rfl (gx_gR hl.o (by decide) rfl (gx_callE (q_entryN hl.a13 ha (by omega)) ?_)))))))
  show gx (qX1_isCarried_36 N (j, nI a, jFl L J a, jFl L J a &&& L 13 a, nI 0) G z) _
  have fin : ∀ r, r = fixi (grw L (jFl L J a)) 16 (jFl L J a &&& L 13 a) → gx (qX1_isCarried_106 N j (nI a) r G z) (fun v z' => v = b2i (jCar L J a) ∧ z' = z) := fun r e => by
    unfold qX1_isCarried_106 qX1_isCarried_127
    refine gx_gR hj.o (by decide) rfl (gx_gR hl.o (by decide) rfl (gx_callE (q_entryN hl.a14 ha (by omega)) (gx_ite (fun c1 => gx_retZ (Or.inl rfl) ⟨?_, rfl⟩) (fun c1 => gx_retZ (Or.inr rfl) ⟨?_, rfl⟩))))
    · unfold jCar; rw [← e, show decide (r &&& L 14 a = 0) = true from decide_eq_true c1]; rfl
    · unfold jCar; rw [← e, show decide (r &&& L 14 a = 0) = false from decide_eq_false c1]; rfl
  unfold qX1_isCarried_36
  generalize hs : jFl L J a &&& L 13 a = s0 at fin ⊢
  refine gx_loop 16 (fun i p z' => z' = z ∧ ∃ r, p = (j, nI a, jFl L J a, r, nI i) ∧ fixi (grw L (jFl L J a)) 16 s0 = fixi (grw L (jFl L J a)) (16 - i) r) ?_ ?_ N 0 _ z (Nat.zero_le _) (by omega) ⟨rfl, s0, rfl, rfl⟩
  · rintro ih i p z' hi ⟨rfl, r, rfl, e⟩ k
    show gx (bX1_isCarried_36 N ih j (nI a) (jFl L J a) r (nI i) G z') _
    unfold bX1_isCarried_36
    have e2 : fixi (grw L (jFl L J a)) (16 - i) r = if grw L (jFl L J a) r = r then r else fixi (grw L (jFl L J a)) (16 - (i + 1)) (grw L (jFl L J a) r) := by
      rw [show 16 - i = (16 - (i + 1)) + 1 by omega]; rfl
    refine gx_itef (ge16 hi) (q_X1_isCarried_49 hj hl hN (fun c1 => fin r (by rw [e, e2, if_pos c1])) (fun c1 => ?_))
    rw [nI_1]
    exact k _ _ ⟨rfl, _, rfl, by rw [e, e2, if_neg c1]⟩
  · rintro ih p z' ⟨rfl, r, rfl, e⟩
    show gx (bX1_isCarried_36 N ih j (nI a) (jFl L J a) r (nI 16) G z') _
    unfold bX1_isCarried_36
    exact gx_itet le16 (fin r (by rw [e]; rfl))
end
def stEn (L : Nat → Nat → Int32) (o : Int32) (c : Nat) (g : Int32) : Int32 := if bt o c = true then g ||| L 6 c else g
def jEnt (L : Nat → Nat → Int32) (o : Int32) : Int32 := osit (stEn L o) 0 16 0
def stW1 (L : Nat → Nat → Int32) (a : Nat) (J : Nat → Nat → Int32) : Nat → Nat → Int32 := if J 1 0 = 0 then J else if L 12 a = 0 then J else if jCar L J a = true then cset J 2 (fun _ => J 2 0 ||| sg a) else J
def stW2 (L : Nat → Nat → Int32) (a : Nat) (J : Nat → Nat → Int32) : Nat → Nat → Int32 := if bt (L 5 0 &&& (J 6 0 ^^^ (-1 : Int32))) a = true then (if L 11 a &&& J 2 0 = 0 then cset J 3 (fun _ => J 3 0 ||| sg a) else J) else J
def wgh0 (L J : Nat → Nat → Int32) (o : Int32) : Nat → Nat → Int32 := cset (cset (cset (cset J 5 fun _ => o) 6 fun _ => (jEnt L o &&& L 0 0) &&& (o ^^^ (-1 : Int32))) 2 fun _ => L 2 0) 3 fun _ => (0 : Int32)
def wgh (L J : Nat → Nat → Int32) (o : Int32) : Nat → Nat → Int32 := osit (fun a W => stW2 L a W) 0 16 (osit (fun a W => stW1 L a W) 0 16 (wgh0 L J o))
theorem q_bX1_weigh_76b {G : osG} {z : osS} {N j a : Nat} {L J : Nat → Nat → Int32} {Q : Unit → osS → Prop} {ih : Nat × Int32 → osM Unit} (hj : rX1 z j J) (hl : rX2 z (j + 1) L) (hA : G.2.2.1 ≤ j) (h9 : a < 16) (hN : 16 < N) (k : ∀ z1, osFr j (j + 1) z z1 → rX1 z1 j (stW1 L a J) → gx (ih (j, nI a + 1) G z1) Q) : gx (bX1_weigh_76 N ih j (nI a) G z) Q := by
  unfold bX1_weigh_76
  (repeat (first | unfold qX1_weigh_122))
  exact gx_itef (nI_nleE (a := 16) (rfl) (rfl) (by omega) (by omega)) (gx_gI hj.o (by decide) rfl (gx_ite (fun (c_1 : (J 1 0) = (0 : Int32)) => k _ osFr.rf (by first | with_reducible exact hj | (unfold stW1; with_reducible exact hj) | (unfold stW1; simp only [cset_ap, if_pos c_1, Nat.reduceEqDiff, reduceIte, Bool.false_eq_true, ite_true, ite_false]; exact hj) | (unfold stW1; simp [c_1]; with_reducible exact hj) | (unfold stW1; simp only [c_1, if_true, if_false, ite_true, ite_false, Bool.false_eq_true, reduceIte]; exact hj) | (exfalso; clear hj hl; simp_all; done) | exact hj)) (fun (c_1 : ¬ ((J 1 0) = (0 : Int32))) => gx_gR hj.o (by decide) rfl (gx_gR hl.o (by decide) rfl (gx_aE hl.a12 (rfl) (by omega) (Nat.le_of_ble_eq_true rfl) (gx_ite (fun (c_2 : (L 12 a) = (0 : Int32)) => k _ osFr.rf (by first | with_reducible exact hj | (unfold stW1; with_reducible exact hj) | (unfold stW1; simp only [cset_ap, if_neg c_1, if_pos c_2, Nat.reduceEqDiff, reduceIte, Bool.false_eq_true, ite_true, ite_false]; exact hj) | (unfold stW1; simp [c_1, c_2]; with_reducible exact hj) | (unfold stW1; simp only [c_1, c_2, if_true, if_false, ite_true, ite_false, Bool.false_eq_true, reduceIte]; exact hj) | (exfalso; clear hj hl; simp_all; done) | exact hj)) (fun (c_2 : ¬ ((L 12 a) = (0 : Int32))) => gx_recvE hj.o (by decide) (q_X1_isCarried hj hl (by omega) hN) (gx_iteB (fun (c_3 : (jCar L J a) = false) => k _ osFr.rf (by first | with_reducible exact hj | (unfold stW1; with_reducible exact hj) | (unfold stW1; simp only [cset_ap, if_neg c_1, if_neg c_2, c_3, Nat.reduceEqDiff, reduceIte, Bool.false_eq_true, ite_true, ite_false]; exact hj) | (unfold stW1; simp [c_1, c_2, c_3]; with_reducible exact hj) | (unfold stW1; simp only [c_1, c_2, c_3, if_true, if_false, ite_true, ite_false, Bool.false_eq_true, reduceIte]; exact hj) | (exfalso; clear hj hl; simp_all; done) | exact hj)) (fun (c_3 : (jCar L J a) = true) => gx_gI hj.o (by decide) rfl (gx_callE (q_bitE (by omega) rfl) (hj.p2 (by decide) (by omega) (fun z_4 f_4 hj_4 => have hl_4 := hl.keep f_4 (by omega); k _ (f_4.wide (by omega) (by omega)) (by first | with_reducible exact hj_4 | (unfold stW1; with_reducible exact hj_4) | (unfold stW1; simp only [cset_ap, if_neg c_1, if_neg c_2, if_pos c_3, Nat.reduceEqDiff, reduceIte, Bool.false_eq_true, ite_true, ite_false]; exact hj_4) | (unfold stW1; simp [c_1, c_2, c_3]; with_reducible exact hj_4) | (unfold stW1; simp only [c_1, c_2, c_3, if_true, if_false, ite_true, ite_false, Bool.false_eq_true, reduceIte]; exact hj_4) | (exfalso; clear hj_4 hl_4; simp_all; done) | exact hj_4)))))))))))))
theorem q_bX1_weigh_130b {G : osG} {z : osS} {N j a : Nat} {L J : Nat → Nat → Int32} {Q : Unit → osS → Prop} {ih : Nat × Int32 → osM Unit} (hj : rX1 z j J) (hl : rX2 z (j + 1) L) (hA : G.2.2.1 ≤ j) (h9 : a < 16) (hN : 16 < N) (k : ∀ z1, osFr j (j + 1) z z1 → rX1 z1 j (stW2 L a J) → gx (ih (j, nI a + 1) G z1) Q) : gx (bX1_weigh_130 N ih j (nI a) G z) Q := by
  unfold bX1_weigh_130
  (repeat (first | unfold qX1_weigh_187))
  exact gx_itef (nI_nleE (a := 16) (rfl) (rfl) (by omega) (by omega)) (gx_gR hj.o (by decide) rfl (gx_gI hl.o (by decide) rfl (gx_gI hj.o (by decide) rfl (gx_callE (q_hasE rfl (by omega)) (gx_iteB (fun (c_1 : (bt (((L 5 0) &&& ((J 6 0) ^^^ (-1 : Int32)))) a) = false) => k _ osFr.rf (by first | with_reducible exact hj | (unfold stW2; with_reducible exact hj) | (unfold stW2; simp only [cset_ap, c_1, Nat.reduceEqDiff, reduceIte, Bool.false_eq_true, ite_true, ite_false]; exact hj) | (unfold stW2; simp [c_1]; with_reducible exact hj) | (unfold stW2; simp only [c_1, if_true, if_false, ite_true, ite_false, Bool.false_eq_true, reduceIte]; exact hj) | (exfalso; clear hj hl; simp_all; done) | exact hj)) (fun (c_1 : (bt (((L 5 0) &&& ((J 6 0) ^^^ (-1 : Int32)))) a) = true) => gx_gR hj.o (by decide) rfl (gx_gR hl.o (by decide) rfl (gx_aE hl.a11 (rfl) (by omega) (Nat.le_of_ble_eq_true rfl) (gx_gI hj.o (by decide) rfl (gx_ite (fun (c_2 : ((L 11 a) &&& (J 2 0)) = (0 : Int32)) => gx_gI hj.o (by decide) rfl (gx_callE (q_bitE (by omega) rfl) (hj.p3 (by decide) (by omega) (fun z_3 f_3 hj_3 => have hl_3 := hl.keep f_3 (by omega); k _ (f_3.wide (by omega) (by omega)) (by first | with_reducible exact hj_3 | (unfold stW2; with_reducible exact hj_3) | (unfold stW2; simp only [cset_ap, if_pos c_1, if_pos c_2, Nat.reduceEqDiff, reduceIte, Bool.false_eq_true, ite_true, ite_false]; exact hj_3) | (unfold stW2; simp [c_1, c_2]; with_reducible exact hj_3) | (unfold stW2; simp only [c_1, c_2, if_true, if_false, ite_true, ite_false, Bool.false_eq_true, reduceIte]; exact hj_3) | (exfalso; clear hj_3 hl_3; simp_all; done) | exact hj_3))))) (fun (c_2 : ¬ (((L 11 a) &&& (J 2 0)) = (0 : Int32))) => k _ osFr.rf (by first | with_reducible exact hj | (unfold stW2; with_reducible exact hj) | (unfold stW2; simp only [cset_ap, if_pos c_1, if_neg c_2, Nat.reduceEqDiff, reduceIte, Bool.false_eq_true, ite_true, ite_false]; exact hj) | (unfold stW2; simp [c_1, c_2]; with_reducible exact hj) | (unfold stW2; simp only [c_1, c_2, if_true, if_false, ite_true, ite_false, Bool.false_eq_true, reduceIte]; exact hj) | (exfalso; clear hj hl; simp_all; done) | exact hj))))))))))))
section
variable {G : osG} {z : osS} {N j : Nat} {L J : Nat → Nat → Int32}
theorem q_X1_weigh_130 (hj : rX1 z j J) (hl : rX2 z (j + 1) L) (hA : G.2.2.1 ≤ j) (hN : 16 < N) : gx (qX1_weigh_130 N (j, nI 0) G z) (fun _ z' => osFr j (j + 1) z z' ∧ rX1 z' j (osit (fun a W => stW2 L a W) 0 16 J)) := by
  unfold qX1_weigh_130
  refine gx_loop 16 (fun i p z' => p = (j, nI i) ∧ osFr j (j + 1) z z' ∧ rX1 z' j (osit (fun a W => stW2 L a W) 0 i J)) ?_ ?_ N 0 _ z (Nat.zero_le _) (by omega) ⟨rfl, osFr.rf, hj⟩
  · rintro ih a p z' h9 ⟨rfl, f_0, h_0⟩ k
    show gx (bX1_weigh_130 N ih j (nI a) G z') _
    exact q_bX1_weigh_130b h_0 (hl.keep f_0 (by omega)) hA h9 hN (fun z1 f_1 h_1 => k _ _ ⟨by rw [nI_1], f_0.tr f_1, by rw [osit_last, Nat.zero_add]; exact h_1⟩)
  · rintro ih p z' ⟨rfl, f_0, h_0⟩
    show gx (bX1_weigh_130 N ih j (nI 16) G z') _
    unfold bX1_weigh_130
    exact gx_itet le16 (gx_ret ⟨f_0, h_0⟩)
theorem q_X1_weigh_76 (hj : rX1 z j J) (hl : rX2 z (j + 1) L) (hA : G.2.2.1 ≤ j) (hN : 16 < N) : gx (qX1_weigh_76 N (j, nI 0) G z) (fun _ z' => osFr j (j + 1) z z' ∧ rX1 z' j (osit (fun a W => stW2 L a W) 0 16 (osit (fun a W => stW1 L a W) 0 16 J))) := by
  unfold qX1_weigh_76
  refine gx_loop 16 (fun i p z' => p = (j, nI i) ∧ osFr j (j + 1) z z' ∧ rX1 z' j (osit (fun a W => stW1 L a W) 0 i J)) ?_ ?_ N 0 _ z (Nat.zero_le _) (by omega) ⟨rfl, osFr.rf, hj⟩
  · rintro ih a p z' h9 ⟨rfl, f_0, h_0⟩ k
    show gx (bX1_weigh_76 N ih j (nI a) G z') _
    exact q_bX1_weigh_76b h_0 (hl.keep f_0 (by omega)) hA h9 hN (fun z1 f_1 h_1 => k _ _ ⟨by rw [nI_1], f_0.tr f_1, by rw [osit_last, Nat.zero_add]; exact h_1⟩)
  · rintro ih p z' ⟨rfl, f_0, h_0⟩
    show gx (bX1_weigh_76 N ih j (nI 16) G z') _
    unfold bX1_weigh_76
    exact gx_itet le16 (gx_mono (q_X1_weigh_130 h_0 (hl.keep f_0 (by omega)) hA hN) (fun _ z1 ⟨f1, h1⟩ => ⟨f_0.tr f1, h1⟩))
theorem q_X1_weigh {o : Int32} (hj : rX1 z j J) (hl : rX2 z (j + 1) L) (hA : G.2.2.1 ≤ j) (hN : 16 < N) : gx (qX1_weigh N j o G z) (fun _ z' => osFr j (j + 1) z z' ∧ rX1 z' j (wgh L J o)) := by
  unfold qX1_weigh
  refine hj.p5 (by decide) hA (fun z0 f0 hj0 => ?_)
  have hl0 := hl.keep f0 (by omega)
  unfold qX1_weigh_9
  refine gx_loop 16 (fun i p z' => p = (j, o, osit (stEn L o) 0 i 0, nI i) ∧ z' = z0) ?_ ?_ N 0 _ z0 (Nat.zero_le _) (by omega) ⟨rfl, rfl⟩
  · rintro ih a p z' h9 ⟨rfl, rfl⟩ k
    generalize hg : osit (stEn L o) 0 a 0 = g at k ⊢
    show gx (bX1_weigh_9 N ih j o g (nI a) G z') _
    unfold bX1_weigh_9 qX1_weigh_35
    rw [nI_1]
    have k' : ∀ g1, g1 = stEn L o a g → gx (ih (j, o, g1, nI (a + 1)) G z') _ := fun g1 e => k _ _ ⟨by rw [e, osit_last, Nat.zero_add, hg], rfl⟩
    refine gx_itef (ge16 h9) (gx_callE (q_hasN (by omega)) (gx_iteB (fun c1 => k' _ ?_) (fun c1 => gx_gR hj0.o (by decide) rfl (gx_gR hl0.o (by decide) rfl (gx_aN hl0.a6 h9 (by omega) (k' _ ?_))))))
    · unfold stEn; rw [c1]; simp
    · unfold stEn; rw [if_pos c1]
  · rintro ih p z' ⟨rfl, rfl⟩
    show gx (bX1_weigh_9 N ih j o (jEnt L o) (nI 16) G z') _
    unfold bX1_weigh_9
    refine gx_itet le16 (gx_gR hj0.o (by decide) rfl (gx_gI hl0.o (by decide) rfl (hj0.p6 (by decide) hA (fun z1 f1 hj1 => ?_))))
    have hl1 := hl0.keep f1 (by omega)
    refine gx_gR hj1.o (by decide) rfl (gx_gI hl1.o (by decide) rfl (hj1.p2 (by decide) hA (fun z2 f2 hj2 => hj2.p3 (by decide) hA (fun z3 f3 hj3 => ?_))))
    exact gx_mono (q_X1_weigh_76 hj3 ((hl1.keep f2 (by omega)).keep f3 (by omega)) hA hN) (fun _ z4 ⟨f4, h4⟩ => ⟨(((f0.tr f1).tr f2).tr f3).tr f4, h4⟩)
end
