/-! Judge: its reads (by program) -/
def hi0 (x : Int32) : Prop := ∀ i, 16 ≤ i → i < 32 → bt x i = false
theorem and_hi {x y : Int32} (h : hi0 x) : hi0 (x &&& y) := fun i h1 h2 => by rw [b_and, h i h1 h2, Bool.false_and]
def cnt (x : Int32) : Nat := fb_ct (bt x) 16
theorem q_bc {G : osG} {z : osS} {N : Nat} {x : Int32} (h : hi0 x) : qJ6_bitCount_0f7a4 N x G z = some (nI (cnt x), z) := q_bitCount h
def jStr (L J : Nat → Nat → Int32) (a : Nat) : Int32 := (1 : Int32) + nI (cnt (L 8 a &&& J 3 0))
def jHs (L J : Nat → Nat → Int32) (a : Nat) : Int32 := if L 6 a &&& J 5 0 = 0 then L 9 a else if bt (L 3 0) a = true then L 9 a else 0
def jAtt (L J : Nat → Nat → Int32) (a : Nat) : Int32 := if bt (J 2 0) a = true then (if bt (jHs L J a) a = true then 0 else (1 : Int32) + nI (cnt ((L 8 a &&& J 3 0) &&& (jHs L J a ^^^ (-1 : Int32))))) else 0
def jRes (L J : Nat → Nat → Int32) (a : Nat) : Int32 := if L 6 a &&& L 0 0 = 0 then 0 else if L 6 a &&& L 1 0 = 0 then (1 : Int32) + nI (cnt (L 10 a &&& J 3 0)) else if bt (L 3 0) a = true then (1 : Int32) + nI (cnt (L 10 a &&& J 3 0)) else if L 6 a &&& J 5 0 = 0 then 1 else 0
theorem q_X1_strengthOf {G : osG} {z : osS} {N : Nat} {a : Nat} {j : Nat} {J : Nat → Nat → Int32} {L : Nat → Nat → Int32} (hj : rX1 z j J) (hl : rX2 z (j + 1) L) (ha : a < 16) (hz8 : ∀ a, a < 16 → hi0 (L 8 a)) : qX1_strengthOf N j (nI a) G z = some (jStr L J a, z) := by
  refine gx_eq ?_
  unfold qX1_strengthOf
  exact gx_gR hj.o (by decide) rfl (gx_gR hl.o (by decide) rfl (gx_callE (q_entryE hl.a8 rfl (by omega) (by omega)) (gx_gI hj.o (by decide) rfl (gx_callE (q_bc (by first | assumption | exact and_hi (hz8 _ (by omega)) | exact and_hi (and_hi (hz8 _ (by omega))) | exact and_hi (hz10 _ (by omega)))) (gx_ret ⟨(by first | with_reducible rfl | (simp [b2i, jStr]; done) | (clear hj hl; simp_all [b2i, jStr]; done)), rfl⟩)))))
theorem q_X1_strengthOfE {G : osG} {z : osS} {N : Nat} {a : Nat} {j : Nat} {J : Nat → Nat → Int32} {L : Nat → Nat → Int32} {x1 : Int32} (hj : rX1 z j J) (hl : rX2 z (j + 1) L) (ha : a < 16) (hz8 : ∀ a, a < 16 → hi0 (L 8 a)) (e1 : x1 = nI a) : qX1_strengthOf N j x1 G z = some (jStr L J a, z) := by
  subst e1
  exact q_X1_strengthOf hj hl ha hz8
theorem q_X1_attackOf {G : osG} {z : osS} {N : Nat} {a : Nat} {j : Nat} {J : Nat → Nat → Int32} {L : Nat → Nat → Int32} (hj : rX1 z j J) (hl : rX2 z (j + 1) L) (ha : a < 16) (hz8 : ∀ a, a < 16 → hi0 (L 8 a)) : qX1_attackOf N j (nI a) G z = some (jAtt L J a, z) := by
  refine gx_eq ?_
  unfold qX1_attackOf
  (repeat (first | unfold qX1_attackOf_52 | unfold qX1_attackOf_53 | unfold qX1_attackOf_73))
  exact gx_gI hj.o (by decide) rfl (gx_callE (q_hasE rfl (by omega)) (gx_iteB (fun (c_1 : (bt ((J 2 0)) a) = false) => gx_ret ⟨(by first | with_reducible rfl | (simp [c_1, b2i, jAtt, jHs]; done) | (clear hj hl; simp_all [b2i, jAtt, jHs]; done)), rfl⟩) (fun (c_1 : (bt ((J 2 0)) a) = true) => gx_gR hj.o (by decide) rfl (gx_gR hl.o (by decide) rfl (gx_callE (q_entryE hl.a6 rfl (by omega) (by omega)) (gx_gI hj.o (by decide) rfl (gx_ite (fun (c_2 : (L 6 a &&& (J 5 0)) = (0 : Int32)) => gx_itet (by decide) (gx_gR hj.o (by decide) rfl (gx_gR hl.o (by decide) rfl (gx_callE (q_entryE hl.a9 rfl (by omega) (by omega)) (gx_callE (q_hasE rfl (by omega)) (gx_iteB (fun (c_3 : (bt (L 9 a) a) = false) => gx_gR hj.o (by decide) rfl (gx_gR hl.o (by decide) rfl (gx_callE (q_entryE hl.a8 rfl (by omega) (by omega)) (gx_gI hj.o (by decide) rfl (gx_callE (q_bc (by first | assumption | exact and_hi (hz8 _ (by omega)) | exact and_hi (and_hi (hz8 _ (by omega))) | exact and_hi (hz10 _ (by omega)))) (gx_ret ⟨(by first | with_reducible rfl | (simp [c_1, c_2, c_3, b2i, jAtt, jHs]; done) | (clear hj hl; simp_all [b2i, jAtt, jHs]; done)), rfl⟩)))))) (fun (c_3 : (bt (L 9 a) a) = true) => gx_ret ⟨(by first | with_reducible rfl | (simp [c_1, c_2, c_3, b2i, jAtt, jHs]; done) | (clear hj hl; simp_all [b2i, jAtt, jHs]; done)), rfl⟩))))))) (fun (c_2 : ¬ ((L 6 a &&& (J 5 0)) = (0 : Int32))) => gx_gR hj.o (by decide) rfl (gx_gI hl.o (by decide) rfl (gx_callE (q_hasE rfl (by omega)) (gx_iteB (fun (c_4 : (bt ((L 3 0)) a) = false) => gx_itef (by decide) (gx_callE (q_hasE rfl (by omega)) (gx_iteB (fun (c_5 : (bt ((0 : Int32)) a) = false) => gx_gR hj.o (by decide) rfl (gx_gR hl.o (by decide) rfl (gx_callE (q_entryE hl.a8 rfl (by omega) (by omega)) (gx_gI hj.o (by decide) rfl (gx_callE (q_bc (by first | assumption | exact and_hi (hz8 _ (by omega)) | exact and_hi (and_hi (hz8 _ (by omega))) | exact and_hi (hz10 _ (by omega)))) (gx_ret ⟨(by first | with_reducible rfl | (simp [c_1, c_2, c_4, c_5, b2i, jAtt, jHs]; done) | (clear hj hl; simp_all [b2i, jAtt, jHs]; done)), rfl⟩)))))) (fun (c_5 : (bt ((0 : Int32)) a) = true) => gx_ret ⟨(by first | with_reducible rfl | (simp [c_1, c_2, c_4, c_5, b2i, jAtt, jHs]; done) | (clear hj hl; simp_all [b2i, jAtt, jHs]; done)), rfl⟩)))) (fun (c_4 : (bt ((L 3 0)) a) = true) => gx_itet (by decide) (gx_gR hj.o (by decide) rfl (gx_gR hl.o (by decide) rfl (gx_callE (q_entryE hl.a9 rfl (by omega) (by omega)) (gx_callE (q_hasE rfl (by omega)) (gx_iteB (fun (c_6 : (bt (L 9 a) a) = false) => gx_gR hj.o (by decide) rfl (gx_gR hl.o (by decide) rfl (gx_callE (q_entryE hl.a8 rfl (by omega) (by omega)) (gx_gI hj.o (by decide) rfl (gx_callE (q_bc (by first | assumption | exact and_hi (hz8 _ (by omega)) | exact and_hi (and_hi (hz8 _ (by omega))) | exact and_hi (hz10 _ (by omega)))) (gx_ret ⟨(by first | with_reducible rfl | (simp [c_1, c_2, c_4, c_6, b2i, jAtt, jHs]; done) | (clear hj hl; simp_all [b2i, jAtt, jHs]; done)), rfl⟩)))))) (fun (c_6 : (bt (L 9 a) a) = true) => gx_ret ⟨(by first | with_reducible rfl | (simp [c_1, c_2, c_4, c_6, b2i, jAtt, jHs]; done) | (clear hj hl; simp_all [b2i, jAtt, jHs]; done)), rfl⟩))))))))))))))))))
theorem q_X1_attackOfE {G : osG} {z : osS} {N : Nat} {a : Nat} {j : Nat} {J : Nat → Nat → Int32} {L : Nat → Nat → Int32} {x1 : Int32} (hj : rX1 z j J) (hl : rX2 z (j + 1) L) (ha : a < 16) (hz8 : ∀ a, a < 16 → hi0 (L 8 a)) (e1 : x1 = nI a) : qX1_attackOf N j x1 G z = some (jAtt L J a, z) := by
  subst e1
  exact q_X1_attackOf hj hl ha hz8
theorem q_X1_resistanceTo {G : osG} {z : osS} {N : Nat} {a : Nat} {j : Nat} {J : Nat → Nat → Int32} {L : Nat → Nat → Int32} (hj : rX1 z j J) (hl : rX2 z (j + 1) L) (ha : a < 16) (hz10 : ∀ a, a < 16 → hi0 (L 10 a)) : qX1_resistanceTo N j (nI a) G z = some (jRes L J a, z) := by
  refine gx_eq ?_
  unfold qX1_resistanceTo
  (repeat (first | unfold qX1_resistanceTo_67 | unfold qX1_resistanceTo_66))
  exact gx_gR hj.o (by decide) rfl (gx_gR hl.o (by decide) rfl (gx_callE (q_entryE hl.a6 rfl (by omega) (by omega)) (gx_gR hj.o (by decide) rfl (gx_gI hl.o (by decide) rfl (gx_ite (fun (c_1 : (L 6 a &&& (L 0 0)) = (0 : Int32)) => gx_ret ⟨(by first | with_reducible rfl | (simp [c_1, b2i, jRes]; done) | (clear hj hl; simp_all [b2i, jRes]; done)), rfl⟩) (fun (c_1 : ¬ ((L 6 a &&& (L 0 0)) = (0 : Int32))) => gx_gR hj.o (by decide) rfl (gx_gI hl.o (by decide) rfl (gx_ite (fun (c_2 : (L 6 a &&& (L 1 0)) = (0 : Int32)) => gx_gR hj.o (by decide) rfl (gx_gR hl.o (by decide) rfl (gx_callE (q_entryE hl.a10 rfl (by omega) (by omega)) (gx_gI hj.o (by decide) rfl (gx_callE (q_bc (by first | assumption | exact and_hi (hz8 _ (by omega)) | exact and_hi (and_hi (hz8 _ (by omega))) | exact and_hi (hz10 _ (by omega)))) (gx_ret ⟨(by first | with_reducible rfl | (simp [c_1, c_2, b2i, jRes]; done) | (clear hj hl; simp_all [b2i, jRes]; done)), rfl⟩)))))) (fun (c_2 : ¬ ((L 6 a &&& (L 1 0)) = (0 : Int32))) => gx_gR hj.o (by decide) rfl (gx_gI hl.o (by decide) rfl (gx_callE (q_hasE rfl (by omega)) (gx_iteB (fun (c_3 : (bt ((L 3 0)) a) = false) => gx_gI hj.o (by decide) rfl (gx_ite (fun (c_4 : (L 6 a &&& (J 5 0)) = (0 : Int32)) => gx_ret ⟨(by first | with_reducible rfl | (simp [c_1, c_2, c_3, c_4, b2i, jRes]; done) | (clear hj hl; simp_all [b2i, jRes]; done)), rfl⟩) (fun (c_4 : ¬ ((L 6 a &&& (J 5 0)) = (0 : Int32))) => gx_ret ⟨(by first | with_reducible rfl | (simp [c_1, c_2, c_3, c_4, b2i, jRes]; done) | (clear hj hl; simp_all [b2i, jRes]; done)), rfl⟩))) (fun (c_3 : (bt ((L 3 0)) a) = true) => gx_gR hj.o (by decide) rfl (gx_gR hl.o (by decide) rfl (gx_callE (q_entryE hl.a10 rfl (by omega) (by omega)) (gx_gI hj.o (by decide) rfl (gx_callE (q_bc (by first | assumption | exact and_hi (hz8 _ (by omega)) | exact and_hi (and_hi (hz8 _ (by omega))) | exact and_hi (hz10 _ (by omega)))) (gx_ret ⟨(by first | with_reducible rfl | (simp [c_1, c_2, c_3, b2i, jRes]; done) | (clear hj hl; simp_all [b2i, jRes]; done)), rfl⟩))))))))))))))))))
theorem q_X1_resistanceToE {G : osG} {z : osS} {N : Nat} {a : Nat} {j : Nat} {J : Nat → Nat → Int32} {L : Nat → Nat → Int32} {x1 : Int32} (hj : rX1 z j J) (hl : rX2 z (j + 1) L) (ha : a < 16) (hz10 : ∀ a, a < 16 → hi0 (L 10 a)) (e1 : x1 = nI a) : qX1_resistanceTo N j x1 G z = some (jRes L J a, z) := by
  subst e1
  exact q_X1_resistanceTo hj hl ha hz10
def stPv (L J : Nat → Nat → Int32) (s : Int32) (c : Nat) (g : Int32) : Int32 := if bt s c = true then (if bt (L 3 0) c = true then (if L 6 c &&& J 5 0 = 0 then osmax g (jStr L J c) else g) else osmax g (jStr L J c)) else g
def jPrev (L J : Nat → Nat → Int32) (a : Nat) : Int32 := osit (stPv L J (L 7 a &&& J 2 0)) 0 16 0
theorem osit_st {α : Type} {f : Nat → α → α} {n : Nat} {a0 v : α} (h : v = f n (osit f 0 n a0)) : v = osit f 0 (n + 1) a0 := by rw [osit_last, Nat.zero_add]; exact h
theorem q_X1_preventionOf_22b {G : osG} {z : osS} {N j c : Nat} {s g : Int32} {L J : Nat → Nat → Int32} {Q : Int32 → osS → Prop} {ih : Nat × Int32 × Int32 × Int32 → osM Int32} (hj : rX1 z j J) (hl : rX2 z (j + 1) L) (hz8 : ∀ a, a < 16 → hi0 (L 8 a)) (hc : c < 16) (k : ∀ g1, g1 = stPv L J s c g → gx (ih (j, s, g1, nI c + 1) G z) Q) : gx (bX1_preventionOf_22 N ih j s g (nI c) G z) Q := by
  unfold bX1_preventionOf_22
  (repeat (first | unfold qX1_preventionOf_66 | unfold qX1_preventionOf_67 | unfold qX1_preventionOf_94))
  exact gx_itef (nI_nleE (a := 16) (rfl) (rfl) (by omega) (by omega)) (gx_gR hj.o (by decide) rfl (gx_gI hl.o (by decide) rfl (gx_callE (q_hasE rfl (by omega)) (gx_iteB (fun (c_1 : (bt ((L 3 0)) c) = false) => gx_callE (q_hasE rfl (by omega)) (gx_iteB (fun (c_2 : (bt (s) c) = false) => k _ (by unfold stPv; simp only [cset_ap, c_1, c_2, Nat.reduceEqDiff, reduceIte, Bool.false_eq_true, ite_true, ite_false])) (fun (c_2 : (bt (s) c) = true) => gx_itet (by decide) (gx_recvE hj.o (by decide) (q_X1_strengthOfE hj hl (by omega) (by first | assumption | omega | exact (hg _ (by omega) (by assumption)).2 | exact (hm (by assumption) (by assumption)).1 | exact (hm (by assumption) (by assumption)).2 | exact hz8 | exact hz10 | exact hu (by assumption) | exact (hm1 (by assumption)).1 | exact (hm1 (by assumption)).2 | simp_all) (rfl)) (k _ (by unfold stPv; simp only [cset_ap, c_1, if_pos c_2, Nat.reduceEqDiff, reduceIte, Bool.false_eq_true, ite_true, ite_false])))))) (fun (c_1 : (bt ((L 3 0)) c) = true) => gx_gR hj.o (by decide) rfl (gx_gR hl.o (by decide) rfl (gx_aE hl.a6 (rfl) (by omega) (Nat.le_of_ble_eq_true rfl) (gx_gI hj.o (by decide) rfl (gx_ite (fun (c_3 : ((L 6 c) &&& (J 5 0)) = (0 : Int32)) => gx_callE (q_hasE rfl (by omega)) (gx_iteB (fun (c_4 : (bt (s) c) = false) => k _ (by unfold stPv; simp only [cset_ap, if_pos c_1, if_pos c_3, c_4, Nat.reduceEqDiff, reduceIte, Bool.false_eq_true, ite_true, ite_false])) (fun (c_4 : (bt (s) c) = true) => gx_itet (by decide) (gx_recvE hj.o (by decide) (q_X1_strengthOfE hj hl (by omega) (by first | assumption | omega | exact (hg _ (by omega) (by assumption)).2 | exact (hm (by assumption) (by assumption)).1 | exact (hm (by assumption) (by assumption)).2 | exact hz8 | exact hz10 | exact hu (by assumption) | exact (hm1 (by assumption)).1 | exact (hm1 (by assumption)).2 | simp_all) (rfl)) (k _ (by unfold stPv; simp only [cset_ap, if_pos c_1, if_pos c_3, if_pos c_4, Nat.reduceEqDiff, reduceIte, Bool.false_eq_true, ite_true, ite_false])))))) (fun (c_3 : ¬ (((L 6 c) &&& (J 5 0)) = (0 : Int32))) => gx_callE (q_hasE rfl (by omega)) (gx_iteB (fun (c_5 : (bt (s) c) = false) => k _ (by unfold stPv; simp only [cset_ap, if_pos c_1, if_neg c_3, c_5, Nat.reduceEqDiff, reduceIte, Bool.false_eq_true, ite_true, ite_false])) (fun (c_5 : (bt (s) c) = true) => gx_itef (by decide) (k _ (by unfold stPv; simp only [cset_ap, if_pos c_1, if_neg c_3, if_pos c_5, Nat.reduceEqDiff, reduceIte, Bool.false_eq_true, ite_true, ite_false]))))))))))))))
theorem q_X1_preventionOf {G : osG} {z : osS} {N j a : Nat} {L J : Nat → Nat → Int32} (hj : rX1 z j J) (hl : rX2 z (j + 1) L) (ha : a < 16) (hz8 : ∀ a, a < 16 → hi0 (L 8 a)) (hN : 16 < N) : qX1_preventionOf N j (nI a) G z = some (jPrev L J a, z) := by
  refine gx_eq ?_
  unfold qX1_preventionOf
  refine gx_gR hj.o (by decide) rfl (gx_gR hl.o (by decide) rfl (gx_callE (q_entryN hl.a7 ha (by omega)) (gx_gI hj.o (by decide) rfl ?_)))
  unfold qX1_preventionOf_22 jPrev
  refine gx_loop 16 (fun i p z' => p = (j, L 7 a &&& J 2 0, osit (stPv L J (L 7 a &&& J 2 0)) 0 i 0, nI i) ∧ z' = z) ?_ ?_ N 0 _ z (Nat.zero_le _) (by omega) ⟨rfl, rfl⟩
  · rintro ih c p z' hc ⟨rfl, rfl⟩ k
    show gx (bX1_preventionOf_22 N ih j _ _ (nI c) G z') _
    exact q_X1_preventionOf_22b hj hl hz8 hc (fun g1 e => k _ _ ⟨by rw [nI_1, e, osit_last, Nat.zero_add], rfl⟩)
  · rintro ih p z' ⟨rfl, rfl⟩
    show gx (bX1_preventionOf_22 N ih j _ _ (nI 16) G z') _
    unfold bX1_preventionOf_22
    exact gx_itet le16 (gx_ret ⟨by with_reducible rfl, rfl⟩)
theorem q_X1_shouldSucceed {G : osG} {z : osS} {N : Nat} {a : Nat} {j : Nat} {J : Nat → Nat → Int32} {L : Nat → Nat → Int32} (hj : rX1 z j J) (hl : rX2 z (j + 1) L) (ha : a < 16) (hz8 : ∀ a, a < 16 → hi0 (L 8 a)) (hz10 : ∀ a, a < 16 → hi0 (L 10 a)) (hN : 16 < N) : qX1_shouldSucceed N j (nI a) G z = some (b2i (!decide (jAtt L J a ≤ jRes L J a) && !decide (jAtt L J a ≤ jPrev L J a)), z) := by
  refine gx_eq ?_
  unfold qX1_shouldSucceed
  (repeat (first | unfold qX1_shouldSucceed_28 | unfold qX1_shouldSucceed_29))
  exact gx_recvE hj.o (by decide) (q_X1_attackOfE hj hl (by omega) (by first | assumption | omega | exact (hg _ (by omega) (by assumption)).2 | exact (hm (by assumption) (by assumption)).1 | exact (hm (by assumption) (by assumption)).2 | exact hz8 | exact hz10 | exact hu (by assumption) | exact (hm1 (by assumption)).1 | exact (hm1 (by assumption)).2 | simp_all) (rfl)) (gx_recvE hj.o (by decide) (q_X1_resistanceToE hj hl (by omega) (by first | assumption | omega | exact (hg _ (by omega) (by assumption)).2 | exact (hm (by assumption) (by assumption)).1 | exact (hm (by assumption) (by assumption)).2 | exact hz8 | exact hz10 | exact hu (by assumption) | exact (hm1 (by assumption)).1 | exact (hm1 (by assumption)).2 | simp_all) (rfl)) (gx_ite (fun (c_1 : jAtt L J a ≤ jRes L J a) => gx_retZ (Or.inl rfl) ⟨(by first | with_reducible rfl | (simp [c_1, b2i]; done) | (clear hj hl; simp_all [b2i]; done)), rfl⟩) (fun (c_1 : ¬ (jAtt L J a ≤ jRes L J a)) => gx_recvE hj.o (by decide) (q_X1_preventionOf hj hl (by omega) hz8 hN) (gx_ite (fun (c_2 : jAtt L J a ≤ jPrev L J a) => gx_retZ (Or.inl rfl) ⟨(by first | with_reducible rfl | (simp [c_1, c_2, b2i]; done) | (clear hj hl; simp_all [b2i]; done)), rfl⟩) (fun (c_2 : ¬ (jAtt L J a ≤ jPrev L J a)) => gx_retZ (Or.inr rfl) ⟨(by first | with_reducible rfl | (simp [c_1, c_2, b2i]; done) | (clear hj hl; simp_all [b2i]; done)), rfl⟩)))))
theorem q_X1_shouldSucceedE {G : osG} {z : osS} {N : Nat} {a : Nat} {j : Nat} {J : Nat → Nat → Int32} {L : Nat → Nat → Int32} {x1 : Int32} (hj : rX1 z j J) (hl : rX2 z (j + 1) L) (ha : a < 16) (hz8 : ∀ a, a < 16 → hi0 (L 8 a)) (hz10 : ∀ a, a < 16 → hi0 (L 10 a)) (hN : 16 < N) (e1 : x1 = nI a) : qX1_shouldSucceed N j x1 G z = some (b2i (!decide (jAtt L J a ≤ jRes L J a) && !decide (jAtt L J a ≤ jPrev L J a)), z) := by
  subst e1
  exact q_X1_shouldSucceed hj hl ha hz8 hz10 hN
def jRsn (L J : Nat → Nat → Int32) (a : Nat) : Int32 := if bt (J 2 0) a = true then (if jAtt L J a ≤ jRes L J a then 2 else 3) else 1
theorem q_X1_reasonFor {G : osG} {z : osS} {N : Nat} {a : Nat} {j : Nat} {J : Nat → Nat → Int32} {L : Nat → Nat → Int32} (hj : rX1 z j J) (hl : rX2 z (j + 1) L) (ha : a < 16) (hz8 : ∀ a, a < 16 → hi0 (L 8 a)) (hz10 : ∀ a, a < 16 → hi0 (L 10 a)) : qX1_reasonFor N j (nI a) G z = some (jRsn L J a, z) := by
  refine gx_eq ?_
  unfold qX1_reasonFor
  (repeat (first | unfold qX1_reasonFor_31))
  exact gx_gI hj.o (by decide) rfl (gx_callE (q_hasE rfl (by omega)) (gx_iteB (fun (c_1 : (bt ((J 2 0)) a) = false) => gx_ret ⟨(by first | with_reducible rfl | (simp [c_1, b2i, jRsn]; done) | (clear hj hl; simp_all [b2i, jRsn]; done)), rfl⟩) (fun (c_1 : (bt ((J 2 0)) a) = true) => gx_recvE hj.o (by decide) (q_X1_attackOfE hj hl (by omega) (by first | assumption | omega | exact (hg _ (by omega) (by assumption)).2 | exact (hm (by assumption) (by assumption)).1 | exact (hm (by assumption) (by assumption)).2 | exact hz8 | exact hz10 | exact hu (by assumption) | exact (hm1 (by assumption)).1 | exact (hm1 (by assumption)).2 | simp_all) (rfl)) (gx_recvE hj.o (by decide) (q_X1_resistanceToE hj hl (by omega) (by first | assumption | omega | exact (hg _ (by omega) (by assumption)).2 | exact (hm (by assumption) (by assumption)).1 | exact (hm (by assumption) (by assumption)).2 | exact hz8 | exact hz10 | exact hu (by assumption) | exact (hm1 (by assumption)).1 | exact (hm1 (by assumption)).2 | simp_all) (rfl)) (gx_ite (fun (c_2 : jAtt L J a ≤ jRes L J a) => gx_ret ⟨(by first | with_reducible rfl | (simp [c_1, c_2, b2i, jRsn]; done) | (clear hj hl; simp_all [b2i, jRsn]; done)), rfl⟩) (fun (c_2 : ¬ (jAtt L J a ≤ jRes L J a)) => gx_ret ⟨(by first | with_reducible rfl | (simp [c_1, c_2, b2i, jRsn]; done) | (clear hj hl; simp_all [b2i, jRsn]; done)), rfl⟩))))))
theorem q_X1_reasonForE {G : osG} {z : osS} {N : Nat} {a : Nat} {j : Nat} {J : Nat → Nat → Int32} {L : Nat → Nat → Int32} {x1 : Int32} (hj : rX1 z j J) (hl : rX2 z (j + 1) L) (ha : a < 16) (hz8 : ∀ a, a < 16 → hi0 (L 8 a)) (hz10 : ∀ a, a < 16 → hi0 (L 10 a)) (e1 : x1 = nI a) : qX1_reasonFor N j x1 G z = some (jRsn L J a, z) := by
  subst e1
  exact q_X1_reasonFor hj hl ha hz8 hz10
def jSum (L J : Nat → Nat → Int32) (a : Nat) : Int32 := if bt (L 0 0) a = true then (if bt (L 1 0) a = true then (if bt (J 5 0) a = true then 1 else 2) else if bt (L 4 0) a = true then (if bt (J 3 0) a = true then 3 else 4) else 5) else 0
theorem q_X1_summaryOf {G : osG} {z : osS} {N : Nat} {a : Nat} {j : Nat} {J : Nat → Nat → Int32} {L : Nat → Nat → Int32} (hj : rX1 z j J) (hl : rX2 z (j + 1) L) (ha : a < 16) : qX1_summaryOf N j (nI a) G z = some (jSum L J a, z) := by
  refine gx_eq ?_
  unfold qX1_summaryOf
  (repeat (first | unfold qX1_summaryOf_77 | unfold qX1_summaryOf_46))
  exact gx_gR hj.o (by decide) rfl (gx_gI hl.o (by decide) rfl (gx_callE (q_hasE rfl (by omega)) (gx_iteB (fun (c_1 : (bt ((L 0 0)) a) = false) => gx_ret ⟨(by first | with_reducible rfl | (simp [c_1, b2i, jSum]; done) | (clear hj hl; simp_all [b2i, jSum]; done)), rfl⟩) (fun (c_1 : (bt ((L 0 0)) a) = true) => gx_gR hj.o (by decide) rfl (gx_gI hl.o (by decide) rfl (gx_callE (q_hasE rfl (by omega)) (gx_iteB (fun (c_2 : (bt ((L 1 0)) a) = false) => gx_gR hj.o (by decide) rfl (gx_gI hl.o (by decide) rfl (gx_callE (q_hasE rfl (by omega)) (gx_iteB (fun (c_3 : (bt ((L 4 0)) a) = false) => gx_ret ⟨(by first | with_reducible rfl | (simp [c_1, c_2, c_3, b2i, jSum]; done) | (clear hj hl; simp_all [b2i, jSum]; done)), rfl⟩) (fun (c_3 : (bt ((L 4 0)) a) = true) => gx_gI hj.o (by decide) rfl (gx_callE (q_hasE rfl (by omega)) (gx_iteB (fun (c_4 : (bt ((J 3 0)) a) = false) => gx_ret ⟨(by first | with_reducible rfl | (simp [c_1, c_2, c_3, c_4, b2i, jSum]; done) | (clear hj hl; simp_all [b2i, jSum]; done)), rfl⟩) (fun (c_4 : (bt ((J 3 0)) a) = true) => gx_ret ⟨(by first | with_reducible rfl | (simp [c_1, c_2, c_3, c_4, b2i, jSum]; done) | (clear hj hl; simp_all [b2i, jSum]; done)), rfl⟩)))))))) (fun (c_2 : (bt ((L 1 0)) a) = true) => gx_gI hj.o (by decide) rfl (gx_callE (q_hasE rfl (by omega)) (gx_iteB (fun (c_5 : (bt ((J 5 0)) a) = false) => gx_ret ⟨(by first | with_reducible rfl | (simp [c_1, c_2, c_5, b2i, jSum]; done) | (clear hj hl; simp_all [b2i, jSum]; done)), rfl⟩) (fun (c_5 : (bt ((J 5 0)) a) = true) => gx_ret ⟨(by first | with_reducible rfl | (simp [c_1, c_2, c_5, b2i, jSum]; done) | (clear hj hl; simp_all [b2i, jSum]; done)), rfl⟩)))))))))))
theorem q_X1_summaryOfE {G : osG} {z : osS} {N : Nat} {a : Nat} {j : Nat} {J : Nat → Nat → Int32} {L : Nat → Nat → Int32} {x1 : Int32} (hj : rX1 z j J) (hl : rX2 z (j + 1) L) (ha : a < 16) (e1 : x1 = nI a) : qX1_summaryOf N j x1 G z = some (jSum L J a, z) := by
  subst e1
  exact q_X1_summaryOf hj hl ha
def stFG (L J : Nat → Nat → Int32) (c : Nat) (g : Int32) : Int32 := if bt (J 2 0 &&& (J 5 0 ^^^ (-1 : Int32))) c = true then g ||| L 6 c else g
def jFail (L J : Nat → Nat → Int32) : Int32 := osit (stFG L J) 0 16 0
theorem q_X1_findFailedGoals_4b {G : osG} {z : osS} {N j c : Nat} {g : Int32} {L J : Nat → Nat → Int32} {Q : Int32 → osS → Prop} {ih : Nat × Int32 × Int32 → osM Int32} (hj : rX1 z j J) (hl : rX2 z (j + 1) L) (hc : c < 16) (k : ∀ g1, g1 = stFG L J c g → gx (ih (j, g1, nI c + 1) G z) Q) : gx (bX1_findFailedGoals_4 N ih j g (nI c) G z) Q := by
  unfold bX1_findFailedGoals_4
  (repeat (first | unfold qX1_findFailedGoals_40))
  exact gx_itef (nI_nleE (a := 16) (rfl) (rfl) (by omega) (by omega)) (gx_gI hj.o (by decide) rfl (gx_gI hj.o (by decide) rfl (gx_callE (q_hasE rfl (by omega)) (gx_iteB (fun (c_1 : (bt (((J 2 0) &&& ((J 5 0) ^^^ (-1 : Int32)))) c) = false) => k _ (by unfold stFG; simp only [cset_ap, c_1, Nat.reduceEqDiff, reduceIte, Bool.false_eq_true, ite_true, ite_false])) (fun (c_1 : (bt (((J 2 0) &&& ((J 5 0) ^^^ (-1 : Int32)))) c) = true) => gx_gR hj.o (by decide) rfl (gx_gR hl.o (by decide) rfl (gx_aE hl.a6 (rfl) (by omega) (Nat.le_of_ble_eq_true rfl) (k _ (by unfold stFG; simp only [cset_ap, if_pos c_1, Nat.reduceEqDiff, reduceIte, Bool.false_eq_true, ite_true, ite_false])))))))))
theorem q_X1_findFailedGoals {G : osG} {z : osS} {N j : Nat} {L J : Nat → Nat → Int32} (hj : rX1 z j J) (hl : rX2 z (j + 1) L) (hN : 16 < N) : qX1_findFailedGoals N j G z = some (jFail L J, z) := by
  refine gx_eq ?_
  unfold qX1_findFailedGoals qX1_findFailedGoals_4 jFail
  refine gx_loop 16 (fun i p z' => p = (j, osit (stFG L J) 0 i 0, nI i) ∧ z' = z) ?_ ?_ N 0 _ z (Nat.zero_le _) (by omega) ⟨rfl, rfl⟩
  · rintro ih c p z' hc ⟨rfl, rfl⟩ k
    show gx (bX1_findFailedGoals_4 N ih j _ (nI c) G z') _
    exact q_X1_findFailedGoals_4b hj hl hc (fun g1 e => k _ _ ⟨by rw [nI_1, e, osit_last, Nat.zero_add], rfl⟩)
  · rintro ih p z' ⟨rfl, rfl⟩
    show gx (bX1_findFailedGoals_4 N ih j _ (nI 16) G z') _
    unfold bX1_findFailedGoals_4
    exact gx_itet le16 (gx_ret ⟨by with_reducible rfl, rfl⟩)
def jAtP (L J : Nat → Nat → Int32) (a c : Nat) : Bool := bt (J 5 0 &&& L 2 0) c && decide (L 6 c = sg a)
theorem q_X1_findAttacker {G : osG} {z : osS} {N j a : Nat} {L J : Nat → Nat → Int32} (hj : rX1 z j J) (hl : rX2 z (j + 1) L) (ha : a < 16) (hN : 16 < N) : qX1_findAttacker N j (nI a) G z = some (oi (fd (jAtP L J a) 0 16), z) := by
  refine gx_eq ?_
  unfold qX1_findAttacker qX1_findAttacker_2
  refine gx_loop 16 (fun i p z' => p = (j, nI a, nI i) ∧ z' = z ∧ fd (jAtP L J a) 0 16 = fd (jAtP L J a) i (16 - i)) ?_ ?_ N 0 _ z (Nat.zero_le _) (by omega) ⟨rfl, rfl, rfl⟩
  · rintro ih c p z' hc ⟨rfl, rfl, e⟩ k
    show gx (bX1_findAttacker_2 N ih j (nI a) (nI c) G z') _
    unfold bX1_findAttacker_2 qX1_findAttacker_45
    rw [nI_1]
    have no : jAtP L J a c = false → gx (ih (j, nI a, nI (c + 1)) G z') _ := fun q => k _ _ ⟨rfl, rfl, by rw [e, fd_miss hc (by simp [q])]⟩
    refine gx_itef (ge16 hc) (gx_gI hj.o (by decide) rfl (gx_gR hj.o (by decide) rfl (gx_gI hl.o (by decide) rfl (gx_callE (q_hasN (by omega)) (gx_iteB (fun c1 => ?_) (fun c1 => ?_))))))
    · exact no (by unfold jAtP; rw [show bt (J 5 0 &&& L 2 0) c = false from c1, Bool.false_and])
    · refine gx_gR hj.o (by decide) rfl (gx_gR hl.o (by decide) rfl (gx_aN hl.a6 hc (by omega) (gx_callE (q_bit (by omega)) (gx_ite (fun c2 => gx_ret ⟨?_, rfl⟩) (fun c2 => ?_)))))
      · rw [e, fd_hit hc (by unfold jAtP; rw [show bt (J 5 0 &&& L 2 0) c = true from c1]; simp [show L 6 c = sg a from c2])]; rfl
      · exact no (by unfold jAtP; simp [show ¬ L 6 c = sg a from c2])
  · rintro ih p z' ⟨rfl, rfl, e⟩
    show gx (bX1_findAttacker_2 N ih j (nI a) (nI 16) G z') _
    unfold bX1_findAttacker_2
    exact gx_itet le16 (gx_ret ⟨by rw [e, fd_end]; rfl, rfl⟩)
def jSh (L J : Nat → Nat → Int32) (a : Nat) : Bool := !decide (jAtt L J a ≤ jRes L J a) && !decide (jAtt L J a ≤ jPrev L J a)
def jBad (L J : Nat → Nat → Int32) (a : Nat) : Bool := bt (L 1 0) a && !decide (jSh L J a = bt (J 5 0) a)
theorem q_X1_isConsistent {G : osG} {z : osS} {N j : Nat} {L J : Nat → Nat → Int32} (hj : rX1 z j J) (hl : rX2 z (j + 1) L) (hz8 : ∀ a, a < 16 → hi0 (L 8 a)) (hz10 : ∀ a, a < 16 → hi0 (L 10 a)) (hN : 16 < N) : qX1_isConsistent N j G z = some (b2i (!(fd (jBad L J) 0 16).isSome), z) := by
  refine gx_eq ?_
  unfold qX1_isConsistent qX1_isConsistent_2
  refine gx_loop 16 (fun i p z' => p = (j, nI i) ∧ z' = z ∧ fd (jBad L J) 0 16 = fd (jBad L J) i (16 - i)) ?_ ?_ N 0 _ z (Nat.zero_le _) (by omega) ⟨rfl, rfl, rfl⟩
  · rintro ih c p z' hc ⟨rfl, rfl, e⟩ k
    show gx (bX1_isConsistent_2 N ih j (nI c) G z') _
    unfold bX1_isConsistent_2 qX1_isConsistent_40
    rw [nI_1]
    have no : jBad L J c = false → gx (ih (j, nI (c + 1)) G z') _ := fun q => k _ _ ⟨rfl, rfl, by rw [e, fd_miss hc (by simp [q])]⟩
    refine gx_itef (ge16 hc) (gx_gR hj.o (by decide) rfl (gx_gI hl.o (by decide) rfl (gx_callE (q_hasN (by omega)) (gx_iteB (fun c1 => ?_) (fun c1 => ?_)))))
    · exact no (by unfold jBad; rw [show bt (L 1 0) c = false from c1, Bool.false_and])
    · refine gx_recvE hj.o (by decide) (q_X1_shouldSucceed hj hl hc hz8 hz10 hN) (gx_gI hj.o (by decide) rfl (gx_callE (q_hasN (by omega)) (gx_ite (fun c2 => ?_) (fun c2 => gx_retZ (Or.inl rfl) ⟨?_, rfl⟩))))
      · have c3 : jSh L J c = bt (J 5 0) c := by
          have : b2i (jSh L J c) = b2i (bt (J 5 0) c) := c2
          cases h1 : jSh L J c <;> cases h2 : bt (J 5 0) c <;> rw [h1, h2] at this <;> first | rfl | exact absurd this (by decide)
        exact no (by unfold jBad; simp [c3])
      · have c3 : ¬ jSh L J c = bt (J 5 0) c := fun q => c2 (by show b2i (jSh L J c) = b2i (bt (J 5 0) c); rw [q])
        rw [e, fd_hit hc (by unfold jBad; rw [show bt (L 1 0) c = true from c1]; simp [c3])]; rfl
  · rintro ih p z' ⟨rfl, rfl, e⟩
    show gx (bX1_isConsistent_2 N ih j (nI 16) G z') _
    unfold bX1_isConsistent_2
    exact gx_itet le16 (gx_retZ (Or.inr rfl) ⟨by rw [e, fd_end]; rfl, rfl⟩)
