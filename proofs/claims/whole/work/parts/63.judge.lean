/-! Judge: explain; State: carryOut (by program) -/
theorem gx_swk {α : Type} {G : osG} {z : osS} {Q : α → osS → Prop} {x : Int32} {lo : Int} {Fs : List (osM α)} {Fd F : osM α} (h : lo ≤ x.toInt ∧ x.toInt < lo + Fs.length) (e : Fs.getD (x.toInt - lo).toNat osno = F) (k : gx (F G z) Q) : gx (osswitch x lo Fs Fd G z) Q := by
  unfold osswitch; rw [if_pos h, e]; exact k
theorem gx_swd {α : Type} {G : osG} {z : osS} {Q : α → osS → Prop} {x : Int32} {lo : Int} {Fs : List (osM α)} {Fd : osM α} (h : ¬ (lo ≤ x.toInt ∧ x.toInt < lo + Fs.length)) (k : gx (Fd G z) Q) : gx (osswitch x lo Fs Fd G z) Q := by
  unfold osswitch; rw [if_neg h]; exact k
def exV (L J : Nat → Nat → Int32) (a : Nat) : Nat → Int32
  | 0 => jSum L J a
  | 1 => if bt (J 6 0) a = true then 1 else 0
  | 2 => if bt (L 0 0) a = true then jStr L J a else 0
  | 3 => if bt (L 1 0) a = true then jAtt L J a else 0
  | 4 => if bt (L 1 0) a = true then (if bt (J 5 0) a = true then 0 else jRsn L J a) else 0
  | _ => if bt (J 2 0 &&& (L 2 0 ^^^ (-1 : Int32))) a = true then 1 else 0
theorem q_X1_explain0 {G : osG} {z : osS} {N j a : Nat} {L J : Nat → Nat → Int32} (hj : rX1 z j J) (hl : rX2 z (j + 1) L) (ha : a < 16) (hz8 : ∀ a, a < 16 → hi0 (L 8 a)) (hz10 : ∀ a, a < 16 → hi0 (L 10 a)) : qX1_explain N j (nI a) (nI 0) G z = some (jSum L J a, z) := by
  refine gx_eq ?_
  unfold qX1_explain
  exact gx_gR hj.o (by decide) rfl (gx_gI hl.o (by decide) rfl (gx_callE (q_hasE rfl (by omega)) (gx_swk (by decide) rfl (gx_recvE hj.o (by decide) (q_X1_summaryOfE hj hl (by omega) (rfl)) (gx_ret ⟨by with_reducible rfl, rfl⟩)))))
theorem q_X1_explain1 {G : osG} {z : osS} {N j a : Nat} {L J : Nat → Nat → Int32} (hj : rX1 z j J) (hl : rX2 z (j + 1) L) (ha : a < 16) (hz8 : ∀ a, a < 16 → hi0 (L 8 a)) (hz10 : ∀ a, a < 16 → hi0 (L 10 a)) : qX1_explain N j (nI a) (nI 1) G z = some (if bt (J 6 0) a = true then 1 else 0, z) := by
  refine gx_eq ?_
  unfold qX1_explain
  (repeat (first | unfold qX1_explain_70))
  exact gx_gR hj.o (by decide) rfl (gx_gI hl.o (by decide) rfl (gx_callE (q_hasE rfl (by omega)) (gx_swk (by decide) rfl (gx_gI hj.o (by decide) rfl (gx_callE (q_hasE rfl (by omega)) (gx_iteB (fun (c_1 : (bt ((J 6 0)) a) = false) => gx_ret ⟨by simp only [cset_ap, c_1, Nat.reduceEqDiff, reduceIte, Bool.false_eq_true, ite_true, ite_false], rfl⟩) (fun (c_1 : (bt ((J 6 0)) a) = true) => gx_ret ⟨by simp only [cset_ap, if_pos c_1, Nat.reduceEqDiff, reduceIte, Bool.false_eq_true, ite_true, ite_false], rfl⟩)))))))
theorem q_X1_explain2 {G : osG} {z : osS} {N j a : Nat} {L J : Nat → Nat → Int32} (hj : rX1 z j J) (hl : rX2 z (j + 1) L) (ha : a < 16) (hz8 : ∀ a, a < 16 → hi0 (L 8 a)) (hz10 : ∀ a, a < 16 → hi0 (L 10 a)) : qX1_explain N j (nI a) (nI 2) G z = some (if bt (L 0 0) a = true then jStr L J a else 0, z) := by
  refine gx_eq ?_
  unfold qX1_explain
  (repeat (first | unfold qX1_explain_94))
  exact gx_gR hj.o (by decide) rfl (gx_gI hl.o (by decide) rfl (gx_callE (q_hasE rfl (by omega)) (gx_swk (by decide) rfl (gx_gR hj.o (by decide) rfl (gx_gI hl.o (by decide) rfl (gx_callE (q_hasE rfl (by omega)) (gx_iteB (fun (c_1 : (bt ((L 0 0)) a) = false) => gx_ret ⟨by simp only [cset_ap, c_1, Nat.reduceEqDiff, reduceIte, Bool.false_eq_true, ite_true, ite_false], rfl⟩) (fun (c_1 : (bt ((L 0 0)) a) = true) => gx_recvE hj.o (by decide) (q_X1_strengthOfE hj hl (by omega) (by first | assumption | omega | exact (hg _ (by omega) (by assumption)).2 | exact (hm (by assumption) (by assumption)).1 | exact (hm (by assumption) (by assumption)).2 | exact hz8 | exact hz10 | exact hu (by assumption) | exact (hm1 (by assumption)).1 | exact (hm1 (by assumption)).2 | simp_all) (rfl)) (gx_ret ⟨by simp only [cset_ap, if_pos c_1, Nat.reduceEqDiff, reduceIte, Bool.false_eq_true, ite_true, ite_false], rfl⟩)))))))))
theorem q_X1_explain3 {G : osG} {z : osS} {N j a : Nat} {L J : Nat → Nat → Int32} (hj : rX1 z j J) (hl : rX2 z (j + 1) L) (ha : a < 16) (hz8 : ∀ a, a < 16 → hi0 (L 8 a)) (hz10 : ∀ a, a < 16 → hi0 (L 10 a)) : qX1_explain N j (nI a) (nI 3) G z = some (if bt (L 1 0) a = true then jAtt L J a else 0, z) := by
  refine gx_eq ?_
  unfold qX1_explain
  (repeat (first | unfold qX1_explain_108))
  exact gx_gR hj.o (by decide) rfl (gx_gI hl.o (by decide) rfl (gx_callE (q_hasE rfl (by omega)) (gx_swk (by decide) rfl (gx_iteB (fun (c_1 : (bt ((L 1 0)) a) = false) => gx_ret ⟨by simp only [cset_ap, c_1, Nat.reduceEqDiff, reduceIte, Bool.false_eq_true, ite_true, ite_false], rfl⟩) (fun (c_1 : (bt ((L 1 0)) a) = true) => gx_recvE hj.o (by decide) (q_X1_attackOfE hj hl (by omega) (by first | assumption | omega | exact (hg _ (by omega) (by assumption)).2 | exact (hm (by assumption) (by assumption)).1 | exact (hm (by assumption) (by assumption)).2 | exact hz8 | exact hz10 | exact hu (by assumption) | exact (hm1 (by assumption)).1 | exact (hm1 (by assumption)).2 | simp_all) (rfl)) (gx_ret ⟨by simp only [cset_ap, if_pos c_1, Nat.reduceEqDiff, reduceIte, Bool.false_eq_true, ite_true, ite_false], rfl⟩))))))
theorem q_X1_explain4 {G : osG} {z : osS} {N j a : Nat} {L J : Nat → Nat → Int32} (hj : rX1 z j J) (hl : rX2 z (j + 1) L) (ha : a < 16) (hz8 : ∀ a, a < 16 → hi0 (L 8 a)) (hz10 : ∀ a, a < 16 → hi0 (L 10 a)) : qX1_explain N j (nI a) (nI 4) G z = some (if bt (L 1 0) a = true then (if bt (J 5 0) a = true then 0 else jRsn L J a) else 0, z) := by
  refine gx_eq ?_
  unfold qX1_explain
  (repeat (first | unfold qX1_explain_132 | unfold qX1_explain_133))
  exact gx_gR hj.o (by decide) rfl (gx_gI hl.o (by decide) rfl (gx_callE (q_hasE rfl (by omega)) (gx_swk (by decide) rfl (gx_iteB (fun (c_1 : (bt ((L 1 0)) a) = false) => gx_ret ⟨by simp only [cset_ap, c_1, Nat.reduceEqDiff, reduceIte, Bool.false_eq_true, ite_true, ite_false], rfl⟩) (fun (c_1 : (bt ((L 1 0)) a) = true) => gx_gI hj.o (by decide) rfl (gx_callE (q_hasE rfl (by omega)) (gx_iteB (fun (c_2 : (bt ((J 5 0)) a) = false) => gx_recvE hj.o (by decide) (q_X1_reasonForE hj hl (by omega) (by first | assumption | omega | exact (hg _ (by omega) (by assumption)).2 | exact (hm (by assumption) (by assumption)).1 | exact (hm (by assumption) (by assumption)).2 | exact hz8 | exact hz10 | exact hu (by assumption) | exact (hm1 (by assumption)).1 | exact (hm1 (by assumption)).2 | simp_all) (by first | assumption | omega | exact (hg _ (by omega) (by assumption)).2 | exact (hm (by assumption) (by assumption)).1 | exact (hm (by assumption) (by assumption)).2 | exact hz8 | exact hz10 | exact hu (by assumption) | exact (hm1 (by assumption)).1 | exact (hm1 (by assumption)).2 | simp_all) (rfl)) (gx_ret ⟨by simp only [cset_ap, if_pos c_1, c_2, Nat.reduceEqDiff, reduceIte, Bool.false_eq_true, ite_true, ite_false], rfl⟩)) (fun (c_2 : (bt ((J 5 0)) a) = true) => gx_ret ⟨by simp only [cset_ap, if_pos c_1, if_pos c_2, Nat.reduceEqDiff, reduceIte, Bool.false_eq_true, ite_true, ite_false], rfl⟩))))))))
theorem q_X1_explain5 {G : osG} {z : osS} {N j a : Nat} {L J : Nat → Nat → Int32} (hj : rX1 z j J) (hl : rX2 z (j + 1) L) (ha : a < 16) (hz8 : ∀ a, a < 16 → hi0 (L 8 a)) (hz10 : ∀ a, a < 16 → hi0 (L 10 a)) : qX1_explain N j (nI a) (nI 5) G z = some (if bt (J 2 0 &&& (L 2 0 ^^^ (-1 : Int32))) a = true then 1 else 0, z) := by
  refine gx_eq ?_
  unfold qX1_explain
  (repeat (first | unfold qX1_explain_160))
  exact gx_gR hj.o (by decide) rfl (gx_gI hl.o (by decide) rfl (gx_callE (q_hasE rfl (by omega)) (gx_swd (by decide) (gx_gI hj.o (by decide) rfl (gx_gR hj.o (by decide) rfl (gx_gI hl.o (by decide) rfl (gx_callE (q_hasE rfl (by omega)) (gx_iteB (fun (c_1 : (bt (((J 2 0) &&& ((L 2 0) ^^^ (-1 : Int32)))) a) = false) => gx_ret ⟨by simp only [cset_ap, c_1, Nat.reduceEqDiff, reduceIte, Bool.false_eq_true, ite_true, ite_false], rfl⟩) (fun (c_1 : (bt (((J 2 0) &&& ((L 2 0) ^^^ (-1 : Int32)))) a) = true) => gx_ret ⟨by simp only [cset_ap, if_pos c_1, Nat.reduceEqDiff, reduceIte, Bool.false_eq_true, ite_true, ite_false], rfl⟩)))))))))
theorem q_X1_explain {G : osG} {z : osS} {N j a w : Nat} {L J : Nat → Nat → Int32} (hj : rX1 z j J) (hl : rX2 z (j + 1) L) (ha : a < 16) (hw : w < 6) (hz8 : ∀ a, a < 16 → hi0 (L 8 a)) (hz10 : ∀ a, a < 16 → hi0 (L 10 a)) : qX1_explain N j (nI a) (nI w) G z = some (exV L J a w, z) := by
  rcases (show w = 0 ∨ w = 1 ∨ w = 2 ∨ w = 3 ∨ w = 4 ∨ w = 5 by omega) with e | e | e | e | e | e <;> subst e
  · exact q_X1_explain0 hj hl ha hz8 hz10
  · exact q_X1_explain1 hj hl ha hz8 hz10
  · exact q_X1_explain2 hj hl ha hz8 hz10
  · exact q_X1_explain3 hj hl ha hz8 hz10
  · exact q_X1_explain4 hj hl ha hz8 hz10
  · exact q_X1_explain5 hj hl ha hz8 hz10
theorem q_X1_explainAll {G : osG} {z : osS} {N j s : Nat} {L J S : Nat → Nat → Int32} (hj : rX1 z j J) (hl : rX2 z (j + 1) L) (h : rX5 z s S) (hA : G.2.2.1 ≤ s) (hd : s + 12 ≤ j ∨ j + 12 ≤ s) (hz8 : ∀ a, a < 16 → hi0 (L 8 a)) (hz10 : ∀ a, a < 16 → hi0 (L 10 a)) (hN : 96 < N) : gx (qX1_explainAll N j (s + 11) G z) (fun _ z' => osFr s (s + 12) z z' ∧ rX5 z' s (cset S 15 (fl (S 15) (fun i => exV L J (i / 6) (i % 6)) 96))) := by
  unfold qX1_explainAll qX1_explainAll_2
  refine gx_loop 96 (fun i p z' => p = (j, s + 11, nI i) ∧ osFr s (s + 12) z z' ∧ rX5 z' s (cset S 15 (fl (S 15) (fun i => exV L J (i / 6) (i % 6)) i))) ?_ ?_ N 0 _ z (Nat.zero_le _) (by omega) ⟨rfl, osFr.rf, by rw [fl_0, cset_same]; exact h⟩
  · rintro ih i p z' hi ⟨rfl, f_0, h_0⟩ k
    have hj0 := hj.keep f_0 (by omega)
    have hl0 := hl.keep f_0 (by omega)
    show gx (bX1_explainAll_2 N ih j (s + 11) (nI i) G z') _
    unfold bX1_explainAll_2
    refine gx_len h_0.a15 (gx_itef (ge96 hi) (gx_guard (by decide) (gx_guard (by decide) ?_)))
    have e1 : nI i / (6 : Int32) = nI (i / 6) := nI_div (b := 6) (by omega) (by omega)
    have e2 : nI i - nI (i / 6) * (6 : Int32) = nI (i % 6) := by rw [← e1]; exact mod_nI (b := 6) (by omega) (by omega)
    rw [e1, e2]
    refine gx_recvE hj0.o (by decide) (q_X1_explain hj0 hl0 (by omega) (by omega) hz8 hz10) (h_0.s15 rfl hi hA (fun z1 f1 h1 => ?_))
    rw [nI_1]
    refine k _ _ ⟨rfl, f_0.tr f1, h1.ext (fun q => ?_)⟩
    by_cases e : q = 15
    · subst e
      rw [cset_eq, cset_eq]
      show upd (cset S 15 (fl (S 15) (fun i => exV L J (i / 6) (i % 6)) i) 15) i _ = _
      rw [cset_eq]
      exact fl_s (g := fun i => exV L J (i / 6) (i % 6))
    · rw [cset_ne e, cset_ne e, cset_ne e]
  · rintro ih p z' ⟨rfl, f_0, h_0⟩
    show gx (bX1_explainAll_2 N ih j (s + 11) (nI 96) G z') _
    unfold bX1_explainAll_2
    exact gx_len h_0.a15 (gx_itet le96 (gx_ret ⟨f_0, h_0⟩))
def stCO (U J L : Nat → Nat → Int32) (a : Nat) (S : Nat → Nat → Int32) : Nat → Nat → Int32 := if bt (J 5 0) a = true then placed S (gof U a) (U 6 a) (U 7 a) else if bt (J 6 0) a = true then cset (cset (cset S 8 (upd (S 8) a (U 6 a))) 9 (upd (S 9) a (U 7 a))) 10 (upd (S 10) a (oi (fd (jAtP L J a) 0 16))) else if U 6 a = -1 then S else placed S a (U 6 a) (U 7 a)
def stCN (F : Int32) (a : Nat) (S : Nat → Nat → Int32) : Nat → Nat → Int32 := if bt F a = true then (if S 6 a = -1 then cset S 4 (fun _ => S 4 0 ||| sg a) else S) else S
theorem q_bX5_carryOut_10 {G : osG} {z : osS} {N j s t a : Nat} {L J S U : Nat → Nat → Int32} {Q : Unit → osS → Prop} {ih : Nat × Nat × Nat × Int32 → osM Unit} (h : rX5 z s S) (hu : rX5 z t U) (hj : rX1 z j J) (hl : rX2 z (j + 1) L) (hA : G.2.2.1 ≤ s) (hd : s + 12 ≤ j ∨ j + 12 ≤ s) (hd2 : s + 12 ≤ t ∨ t + 12 ≤ s) (hm2 : bt (J 5 0) a = true → U 13 a = nI (gof U a) ∧ gof U a < 16) (h9 : a < 16) (hN : 16 < N) (k : ∀ z1, osFr s (s + 12) z z1 → rX5 z1 s (stCO U J L a S) → gx (ih (s, t, j, nI a + 1) G z1) Q) : gx (bX5_carryOut_10 N ih s t j (nI a) G z) Q := by
  unfold bX5_carryOut_10
  (repeat (first | unfold qX5_carryOut_116))
  exact gx_itef (nI_nleE (a := 16) (rfl) (rfl) (by omega) (by omega)) (gx_gR hu.o (by decide) rfl (gx_aE hu.a6 (rfl) (by omega) (Nat.le_of_ble_eq_true rfl) (gx_gR hu.o (by decide) rfl (gx_aE hu.a7 (rfl) (by omega) (Nat.le_of_ble_eq_true rfl) (gx_gI hj.o (by decide) rfl (gx_callE (q_hasE rfl (by omega)) (gx_iteB (fun (c_1 : (bt ((J 5 0)) a) = false) => gx_gI hj.o (by decide) rfl (gx_callE (q_hasE rfl (by omega)) (gx_iteB (fun (c_2 : (bt ((J 6 0)) a) = false) => gx_ite (fun (c_3 : (U 6 a) = (-1 : Int32)) => k _ osFr.rf (by first | with_reducible exact h | (unfold stCO; with_reducible exact h) | (unfold stCO; simp only [cset_ap, c_1, c_2, if_pos c_3, Nat.reduceEqDiff, reduceIte, Bool.false_eq_true, ite_true, ite_false]; exact h) | (unfold stCO; simp [c_1, c_2, c_3]; with_reducible exact h) | (unfold stCO; simp only [c_1, c_2, c_3, if_true, if_false, ite_true, ite_false, Bool.false_eq_true, reduceIte]; exact h) | (exfalso; clear h hu hj hl; simp_all; done) | exact h)) (fun (c_3 : ¬ ((U 6 a) = (-1 : Int32))) => gx_recvQ h.o (by decide) (q_X5_placeUnitE h (by omega) (by first | assumption | omega | exact (hg _ (by omega) (by assumption)).2 | exact (hm (by assumption) (by assumption)).1 | exact (hm (by assumption) (by assumption)).2 | exact hz8 | exact hz10 | exact hu (by assumption) | exact (hm1 (by assumption)).1 | exact (hm1 (by assumption)).2 | simp_all) (rfl)) (fun v_4 z_4 ⟨f_4, s_4⟩ => have hu_4 := hu.keep f_4 (by omega); have hj_4 := hj.keep f_4 (by omega); have hl_4 := hl.keep f_4 (by omega); k _ (f_4.wide (by omega) (by omega)) (by first | with_reducible exact s_4 | (unfold stCO; with_reducible exact s_4) | (unfold stCO; simp only [cset_ap, c_1, c_2, if_neg c_3, Nat.reduceEqDiff, reduceIte, Bool.false_eq_true, ite_true, ite_false]; exact s_4) | (unfold stCO; simp [c_1, c_2, c_3]; with_reducible exact s_4) | (unfold stCO; simp only [c_1, c_2, c_3, if_true, if_false, ite_true, ite_false, Bool.false_eq_true, reduceIte]; exact s_4) | (exfalso; clear s_4 hu_4 hj_4 hl_4; simp_all; done) | exact s_4)))) (fun (c_2 : (bt ((J 6 0)) a) = true) => gx_gR h.o (by decide) rfl (h.s8 (rfl) (by omega) (by omega) (fun z_5 f_5 h_5 => have hu_5 := hu.keep f_5 (by omega); have hj_5 := hj.keep f_5 (by omega); have hl_5 := hl.keep f_5 (by omega); gx_gR h_5.o (by decide) rfl (h_5.s9 (rfl) (by omega) (by omega) (fun z_6 f_6 h_6 => have hu_6 := hu_5.keep f_6 (by omega); have hj_6 := hj_5.keep f_6 (by omega); have hl_6 := hl_5.keep f_6 (by omega); gx_gR h_6.o (by decide) rfl (gx_recvE hj_6.o (by decide) (q_X1_findAttacker hj_6 hl_6 (by omega) hN) (h_6.s10 (rfl) (by omega) (by omega) (fun z_7 f_7 h_7 => have hu_7 := hu_6.keep f_7 (by omega); have hj_7 := hj_6.keep f_7 (by omega); have hl_7 := hl_6.keep f_7 (by omega); k _ (((f_5.wide (by omega) (by omega)).tr (f_6.wide (by omega) (by omega))).tr (f_7.wide (by omega) (by omega))) (by first | with_reducible exact h_7 | (unfold stCO; with_reducible exact h_7) | (unfold stCO; simp only [cset_ap, c_1, if_pos c_2, Nat.reduceEqDiff, reduceIte, Bool.false_eq_true, ite_true, ite_false]; exact h_7) | (unfold stCO; simp [c_1, c_2]; with_reducible exact h_7) | (unfold stCO; simp only [c_1, c_2, if_true, if_false, ite_true, ite_false, Bool.false_eq_true, reduceIte]; exact h_7) | (exfalso; clear h_7 hu_7 hj_7 hl_7; simp_all; done) | exact h_7)))))))))))) (fun (c_1 : (bt ((J 5 0)) a) = true) => gx_gR hu.o (by decide) rfl (gx_aE hu.a13 (rfl) (by omega) (Nat.le_of_ble_eq_true rfl) (gx_recvQ h.o (by decide) (q_X5_placeUnitE h (by omega) (by first | assumption | omega | exact (hg _ (by omega) (by assumption)).2 | exact (hm (by assumption) (by assumption)).1 | exact (hm (by assumption) (by assumption)).2 | exact hz8 | exact hz10 | exact hu (by assumption) | exact (hm1 (by assumption)).1 | exact (hm1 (by assumption)).2 | simp_all) ((hm2 (by assumption)).1)) (fun v_8 z_8 ⟨f_8, s_8⟩ => have hu_8 := hu.keep f_8 (by omega); have hj_8 := hj.keep f_8 (by omega); have hl_8 := hl.keep f_8 (by omega); k _ (f_8.wide (by omega) (by omega)) (by first | with_reducible exact s_8 | (unfold stCO; with_reducible exact s_8) | (unfold stCO; simp only [cset_ap, if_pos c_1, Nat.reduceEqDiff, reduceIte, Bool.false_eq_true, ite_true, ite_false]; exact s_8) | (unfold stCO; simp [c_1]; with_reducible exact s_8) | (unfold stCO; simp only [c_1, if_true, if_false, ite_true, ite_false, Bool.false_eq_true, reduceIte]; exact s_8) | (exfalso; clear s_8 hu_8 hj_8 hl_8; simp_all; done) | exact s_8))))))))))))
theorem q_bX5_carryOut_135 {G : osG} {z : osS} {N j s a : Nat} {F : Int32} {S : Nat → Nat → Int32} {Q : Unit → osS → Prop} {ih : Nat × Nat × Int32 × Int32 → osM Unit} (h : rX5 z s S) (hA : G.2.2.1 ≤ s) (h9 : a < 16) (k : ∀ z1, osFr s (s + 12) z z1 → rX5 z1 s (stCN F a S) → gx (ih (s, j, F, nI a + 1) G z1) Q) : gx (bX5_carryOut_135 N ih s j F (nI a) G z) Q := by
  unfold bX5_carryOut_135
  (repeat (first | unfold qX5_carryOut_174))
  exact gx_itef (nI_nleE (a := 16) (rfl) (rfl) (by omega) (by omega)) (gx_callE (q_hasE rfl (by omega)) (gx_iteB (fun (c_1 : (bt (F) a) = false) => k _ osFr.rf (by first | with_reducible exact h | (unfold stCN; with_reducible exact h) | (unfold stCN; simp only [cset_ap, c_1, Nat.reduceEqDiff, reduceIte, Bool.false_eq_true, ite_true, ite_false]; exact h) | (unfold stCN; simp [c_1]; with_reducible exact h) | (unfold stCN; simp only [c_1, if_true, if_false, ite_true, ite_false, Bool.false_eq_true, reduceIte]; exact h) | (exfalso; clear h; simp_all; done) | exact h)) (fun (c_1 : (bt (F) a) = true) => gx_recvE h.o (by decide) (q_hasUnitE h rfl (by omega)) (gx_iteDn (fun (c_2 : S 6 a = -1) => gx_gI h.o (by decide) rfl (gx_callE (q_bitE (by omega) rfl) (h.p4 (by decide) (by omega) (fun z_3 f_3 h_3 => k _ (f_3.wide (by omega) (by omega)) (by first | with_reducible exact h_3 | (unfold stCN; with_reducible exact h_3) | (unfold stCN; simp only [cset_ap, if_pos c_1, if_pos c_2, Nat.reduceEqDiff, reduceIte, Bool.false_eq_true, ite_true, ite_false]; exact h_3) | (unfold stCN; simp [c_1, c_2]; with_reducible exact h_3) | (unfold stCN; simp only [c_1, c_2, if_true, if_false, ite_true, ite_false, Bool.false_eq_true, reduceIte]; exact h_3) | (exfalso; clear h_3; simp_all; done) | exact h_3))))) (fun (c_2 : ¬ (S 6 a = -1)) => k _ osFr.rf (by first | with_reducible exact h | (unfold stCN; with_reducible exact h) | (unfold stCN; simp only [cset_ap, if_pos c_1, if_neg c_2, Nat.reduceEqDiff, reduceIte, Bool.false_eq_true, ite_true, ite_false]; exact h) | (unfold stCN; simp [c_1, c_2]; with_reducible exact h) | (unfold stCN; simp only [c_1, c_2, if_true, if_false, ite_true, ite_false, Bool.false_eq_true, reduceIte]; exact h) | (exfalso; clear h; simp_all; done) | exact h))))))
def cOut1 (U J L S : Nat → Nat → Int32) : Nat → Nat → Int32 := osit (fun a W => stCO U J L a W) 0 16 (osit (fun a W => stCD a W) 0 16 (osit (fun a W => stCU a W) 0 16 S))
def cOut2 (U J L S : Nat → Nat → Int32) : Nat → Nat → Int32 := osit (fun a W => stCN (jFail L J) a W) 0 16 (cset (cOut1 U J L S) 4 fun _ => (0 : Int32))
def cOut3 (J W : Nat → Nat → Int32) : Nat → Nat → Int32 := cset (cset W 2 fun _ => (1 : Int32)) 3 fun _ => J 7 0
def cOut (U J L S : Nat → Nat → Int32) : Nat → Nat → Int32 := cset (cOut3 J (cOut2 U J L S)) 15 (fl (cOut3 J (cOut2 U J L S) 15) (fun i => exV L J (i / 6) (i % 6)) 96)
theorem q_X5_carryOut {G : osG} {z : osS} {N j s t : Nat} {L J S U : Nat → Nat → Int32} (h : rX5 z s S) (hu : rX5 z t U) (hj : rX1 z j J) (hl : rX2 z (j + 1) L) (hA : G.2.2.1 ≤ s) (hd : s + 12 ≤ j ∨ j + 12 ≤ s) (hd2 : s + 12 ≤ t ∨ t + 12 ≤ s) (hm2 : ∀ a, a < 16 → bt (J 5 0) a = true → U 13 a = nI (gof U a) ∧ gof U a < 16) (hz8 : ∀ a, a < 16 → hi0 (L 8 a)) (hz10 : ∀ a, a < 16 → hi0 (L 10 a)) (hN : 96 < N) : gx (qX5_carryOut N s t j G z) (fun _ z' => osFr s (s + 12) z z' ∧ rX5 z' s (cOut U J L S)) := by
  unfold qX5_carryOut
  refine gx_recvQ h.o (by decide) (q_X5_clearUnits h hA (by omega)) (fun _ z1 ⟨f1, h1⟩ => gx_recvQ h1.o (by decide) (q_X5_clearDislodged h1 hA (by omega)) (fun _ z2 ⟨f2, h2⟩ => ?_))
  have hu2 := (hu.keep f1 (by omega)).keep f2 (by omega)
  have hj2 := (hj.keep f1 (by omega)).keep f2 (by omega)
  have hl2 := (hl.keep f1 (by omega)).keep f2 (by omega)
  unfold qX5_carryOut_10
  refine gx_loop 16 (fun i p z' => p = (s, t, j, nI i) ∧ osFr s (s + 12) z2 z' ∧ rX5 z' s (osit (fun a W => stCO U J L a W) 0 i (osit (fun a W => stCD a W) 0 16 (osit (fun a W => stCU a W) 0 16 S)))) ?_ ?_ N 0 _ z2 (Nat.zero_le _) (by omega) ⟨rfl, osFr.rf, h2⟩
  · rintro ih a p z' h9 ⟨rfl, f_0, h_0⟩ k
    show gx (bX5_carryOut_10 N ih s t j (nI a) G z') _
    exact q_bX5_carryOut_10 h_0 (hu2.keep f_0 (by omega)) (hj2.keep f_0 (by omega)) (hl2.keep f_0 (by omega)) hA hd hd2 (hm2 a h9) h9 (by omega) (fun z3 f_1 h_1 => k _ _ ⟨by rw [nI_1], f_0.tr f_1, by rw [osit_last, Nat.zero_add]; exact h_1⟩)
  · rintro ih p z' ⟨rfl, f_0, h_0⟩
    have hj3 := hj2.keep f_0 (by omega)
    have hl3 := hl2.keep f_0 (by omega)
    show gx (bX5_carryOut_10 N ih s t j (nI 16) G z') _
    unfold bX5_carryOut_10
    refine gx_itet le16 (h_0.p4 (by decide) hA (fun z4 f4 h4 => gx_recvE (hj3.keep f4 (by omega)).o (by decide) (q_X1_findFailedGoals (hj3.keep f4 (by omega)) (hl3.keep f4 (by omega)) (by omega)) ?_))
    have hj4 := hj3.keep f4 (by omega)
    have hl4 := hl3.keep f4 (by omega)
    unfold qX5_carryOut_135
    refine gx_loop 16 (fun i p z' => p = (s, j, jFail L J, nI i) ∧ osFr s (s + 12) z4 z' ∧ rX5 z' s (osit (fun a W => stCN (jFail L J) a W) 0 i (cset (cOut1 U J L S) 4 fun _ => (0 : Int32)))) ?_ ?_ N 0 _ z4 (Nat.zero_le _) (by omega) ⟨rfl, osFr.rf, h4⟩
    · rintro ih2 a p z5 h9 ⟨rfl, g_0, i_0⟩ k
      show gx (bX5_carryOut_135 N ih2 s j _ (nI a) G z5) _
      exact q_bX5_carryOut_135 i_0 hA h9 (fun z3 f_1 h_1 => k _ _ ⟨by rw [nI_1], g_0.tr f_1, by rw [osit_last, Nat.zero_add]; exact h_1⟩)
    · rintro ih2 p z5 ⟨rfl, g_0, i_0⟩
      have hj5 := hj4.keep g_0 (by omega)
      have hl5 := hl4.keep g_0 (by omega)
      show gx (bX5_carryOut_135 N ih2 s j _ (nI 16) G z5) _
      unfold bX5_carryOut_135
      refine gx_itet le16 (gx_guard (Or.inr rfl) (i_0.p2 (by decide) hA (fun z6 f6 h6 => ?_)))
      have hj6 := hj5.keep f6 (by omega)
      have hl6 := hl5.keep f6 (by omega)
      refine gx_gI hj6.o (by decide) rfl (h6.p3 (by decide) hA (fun z7 f7 h7 => ?_))
      have hj7 := hj6.keep f7 (by omega)
      have hl7 := hl6.keep f7 (by omega)
      refine gx_gR h7.o (by decide) rfl (gx_recvQ hj7.o (by decide) (q_X1_explainAll hj7 hl7 h7 hA hd hz8 hz10 hN) (fun _ z8 ⟨f8, h8⟩ => gx_ret ⟨(((((((f1.tr f2).tr f_0).tr f4).tr g_0).tr f6).tr f7).tr f8), h8⟩))
