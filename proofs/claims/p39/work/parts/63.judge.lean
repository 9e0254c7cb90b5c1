/-! Judge: explain; State: carryOut (by program) -/
section
variable {α : Type} {G : osG} {z : osS} {Q : α → osS → Prop} {F0 F1 F2 F3 F4 Fd : osM α}
theorem gx_sw5_0 (k : gx (F0 G z) Q) : gx (osswitch (nI 0) 0 [F0, F1, F2, F3, F4] Fd G z) Q := by
  unfold osswitch
  show gx (if (0 : Int) ≤ (nI 0).toInt ∧ (nI 0).toInt < 0 + ((5 : Nat) : Int) then F0 G z else Fd G z) Q
  rw [if_pos (show (0 : Int) ≤ (nI 0).toInt ∧ (nI 0).toInt < 0 + ((5 : Nat) : Int) from by decide)]
  exact k
theorem gx_sw5_1 (k : gx (F1 G z) Q) : gx (osswitch (nI 1) 0 [F0, F1, F2, F3, F4] Fd G z) Q := by
  unfold osswitch
  show gx (if (0 : Int) ≤ (nI 1).toInt ∧ (nI 1).toInt < 0 + ((5 : Nat) : Int) then F1 G z else Fd G z) Q
  rw [if_pos (show (0 : Int) ≤ (nI 1).toInt ∧ (nI 1).toInt < 0 + ((5 : Nat) : Int) from by decide)]
  exact k
theorem gx_sw5_2 (k : gx (F2 G z) Q) : gx (osswitch (nI 2) 0 [F0, F1, F2, F3, F4] Fd G z) Q := by
  unfold osswitch
  show gx (if (0 : Int) ≤ (nI 2).toInt ∧ (nI 2).toInt < 0 + ((5 : Nat) : Int) then F2 G z else Fd G z) Q
  rw [if_pos (show (0 : Int) ≤ (nI 2).toInt ∧ (nI 2).toInt < 0 + ((5 : Nat) : Int) from by decide)]
  exact k
theorem gx_sw5_3 (k : gx (F3 G z) Q) : gx (osswitch (nI 3) 0 [F0, F1, F2, F3, F4] Fd G z) Q := by
  unfold osswitch
  show gx (if (0 : Int) ≤ (nI 3).toInt ∧ (nI 3).toInt < 0 + ((5 : Nat) : Int) then F3 G z else Fd G z) Q
  rw [if_pos (show (0 : Int) ≤ (nI 3).toInt ∧ (nI 3).toInt < 0 + ((5 : Nat) : Int) from by decide)]
  exact k
theorem gx_sw5_4 (k : gx (F4 G z) Q) : gx (osswitch (nI 4) 0 [F0, F1, F2, F3, F4] Fd G z) Q := by
  unfold osswitch
  show gx (if (0 : Int) ≤ (nI 4).toInt ∧ (nI 4).toInt < 0 + ((5 : Nat) : Int) then F4 G z else Fd G z) Q
  rw [if_pos (show (0 : Int) ≤ (nI 4).toInt ∧ (nI 4).toInt < 0 + ((5 : Nat) : Int) from by decide)]
  exact k
theorem gx_sw5_5 (k : gx (Fd G z) Q) : gx (osswitch (nI 5) 0 [F0, F1, F2, F3, F4] Fd G z) Q := by
  unfold osswitch
  show gx (if (0 : Int) ≤ (nI 5).toInt ∧ (nI 5).toInt < 0 + ((5 : Nat) : Int) then _ else Fd G z) Q
  rw [if_neg (show ¬ ((0 : Int) ≤ (nI 5).toInt ∧ (nI 5).toInt < 0 + ((5 : Nat) : Int)) from by decide)]
  exact k
end
def exV (L J : Nat → Nat → Int32) (a : Nat) : Nat → Int32
  | 0 => jSum L J a
  | 1 => if bt (J 6 0) a = true then 1 else 0
  | 2 => if bt (L 0 0) a = true then jStr L J a else 0
  | 3 => if bt (L 1 0) a = true then jAtt L J a else 0
  | 4 => if bt (L 1 0) a = true then (if bt (J 5 0) a = true then 0 else jRsn L J a) else 0
  | _ => if bt (J 2 0 &&& (L 2 0 ^^^ (-1 : Int32))) a = true then 1 else 0
theorem q_X1_explain0 {G : osG} {z : osS} {N j a : Nat} {L J : Nat → Nat → Int32} (hj : rX1 z j J) (hl : rX2 z (j + 1) L) (ha : a < 16) (hz8 : ∀ a, a < 16 → hi0 (L 8 a)) (hz10 : ∀ a, a < 16 → hi0 (L 10 a)) : qX1_explain N j (nI a) (nI 0) G z = some (jSum L J a, z) := by
  refine gx_eq ?_
  unfold qX1_explain
  exact gx_gR hj.o (by decide) rfl (gx_gI hl.o (by decide) rfl (gx_callE (q_hasE rfl (by omega)) (gx_sw5_0 (gx_recvE hj.o (by decide) (q_X1_summaryOfE hj hl (by omega) (rfl)) (gx_ret ⟨by with_reducible rfl, rfl⟩)))))
theorem q_X1_explain1 {G : osG} {z : osS} {N j a : Nat} {L J : Nat → Nat → Int32} (hj : rX1 z j J) (hl : rX2 z (j + 1) L) (ha : a < 16) (hz8 : ∀ a, a < 16 → hi0 (L 8 a)) (hz10 : ∀ a, a < 16 → hi0 (L 10 a)) : qX1_explain N j (nI a) (nI 1) G z = some (if bt (J 6 0) a = true then 1 else 0, z) := by
  refine gx_eq ?_
  unfold qX1_explain
  (repeat (first | unfold qX1_explain_70))
  exact gx_gR hj.o (by decide) rfl (gx_gI hl.o (by decide) rfl (gx_callE (q_hasE rfl (by omega)) (gx_sw5_1 (gx_gI hj.o (by decide) rfl (gx_callE (q_hasE rfl (by omega)) (gx_iteB (fun (c_1 : (bt ((J 6 0)) a) = false) => gx_ret ⟨by simp only [cset_ap, c_1, Nat.reduceEqDiff, reduceIte, Bool.false_eq_true, ite_true, ite_false], rfl⟩) (fun (c_1 : (bt ((J 6 0)) a) = true) => gx_ret ⟨by simp only [cset_ap, if_pos c_1, Nat.reduceEqDiff, reduceIte, Bool.false_eq_true, ite_true, ite_false], rfl⟩)))))))
theorem q_X1_explain2 {G : osG} {z : osS} {N j a : Nat} {L J : Nat → Nat → Int32} (hj : rX1 z j J) (hl : rX2 z (j + 1) L) (ha : a < 16) (hz8 : ∀ a, a < 16 → hi0 (L 8 a)) (hz10 : ∀ a, a < 16 → hi0 (L 10 a)) : qX1_explain N j (nI a) (nI 2) G z = some (if bt (L 0 0) a = true then jStr L J a else 0, z) := by
  refine gx_eq ?_
  unfold qX1_explain
  (repeat (first | unfold qX1_explain_94))
  exact gx_gR hj.o (by decide) rfl (gx_gI hl.o (by decide) rfl (gx_callE (q_hasE rfl (by omega)) (gx_sw5_2 (gx_gR hj.o (by decide) rfl (gx_gI hl.o (by decide) rfl (gx_callE (q_hasE rfl (by omega)) (gx_iteB (fun (c_1 : (bt ((L 0 0)) a) = false) => gx_ret ⟨by simp only [cset_ap, c_1, Nat.reduceEqDiff, reduceIte, Bool.false_eq_true, ite_true, ite_false], rfl⟩) (fun (c_1 : (bt ((L 0 0)) a) = true) => gx_recvE hj.o (by decide) (q_X1_strengthOfE hj hl (by omega) (by first | assumption | omega | exact (hg _ (by omega) (by assumption)).2 | exact (hm (by assumption) (by assumption)).1 | exact (hm (by assumption) (by assumption)).2 | exact hz8 | exact hz10 | exact hu (by assumption) | exact (hm1 (by assumption)).1 | exact (hm1 (by assumption)).2 | simp_all) (rfl)) (gx_ret ⟨by simp only [cset_ap, if_pos c_1, Nat.reduceEqDiff, reduceIte, Bool.false_eq_true, ite_true, ite_false], rfl⟩)))))))))
theorem q_X1_explain3 {G : osG} {z : osS} {N j a : Nat} {L J : Nat → Nat → Int32} (hj : rX1 z j J) (hl : rX2 z (j + 1) L) (ha : a < 16) (hz8 : ∀ a, a < 16 → hi0 (L 8 a)) (hz10 : ∀ a, a < 16 → hi0 (L 10 a)) : qX1_explain N j (nI a) (nI 3) G z = some (if bt (L 1 0) a = true then jAtt L J a else 0, z) := by
  refine gx_eq ?_
  unfold qX1_explain
  (repeat (first | unfold qX1_explain_108))
  exact gx_gR hj.o (by decide) rfl (gx_gI hl.o (by decide) rfl (gx_callE (q_hasE rfl (by omega)) (gx_sw5_3 (gx_iteB (fun (c_1 : (bt ((L 1 0)) a) = false) => gx_ret ⟨by simp only [cset_ap, c_1, Nat.reduceEqDiff, reduceIte, Bool.false_eq_true, ite_true, ite_false], rfl⟩) (fun (c_1 : (bt ((L 1 0)) a) = true) => gx_recvE hj.o (by decide) (q_X1_attackOfE hj hl (by omega) (by first | assumption | omega | exact (hg _ (by omega) (by assumption)).2 | exact (hm (by assumption) (by assumption)).1 | exact (hm (by assumption) (by assumption)).2 | exact hz8 | exact hz10 | exact hu (by assumption) | exact (hm1 (by assumption)).1 | exact (hm1 (by assumption)).2 | simp_all) (rfl)) (gx_ret ⟨by simp only [cset_ap, if_pos c_1, Nat.reduceEqDiff, reduceIte, Bool.false_eq_true, ite_true, ite_false], rfl⟩))))))
theorem q_X1_explain4 {G : osG} {z : osS} {N j a : Nat} {L J : Nat → Nat → Int32} (hj : rX1 z j J) (hl : rX2 z (j + 1) L) (ha : a < 16) (hz8 : ∀ a, a < 16 → hi0 (L 8 a)) (hz10 : ∀ a, a < 16 → hi0 (L 10 a)) : qX1_explain N j (nI a) (nI 4) G z = some (if bt (L 1 0) a = true then (if bt (J 5 0) a = true then 0 else jRsn L J a) else 0, z) := by
  refine gx_eq ?_
  unfold qX1_explain
  (repeat (first | unfold qX1_explain_132 | unfold qX1_explain_133))
  exact gx_gR hj.o (by decide) rfl (gx_gI hl.o (by decide) rfl (gx_callE (q_hasE rfl (by omega)) (gx_sw5_4 (gx_iteB (fun (c_1 : (bt ((L 1 0)) a) = false) => gx_ret ⟨by simp only [cset_ap, c_1, Nat.reduceEqDiff, reduceIte, Bool.false_eq_true, ite_true, ite_false], rfl⟩) (fun (c_1 : (bt ((L 1 0)) a) = true) => gx_gI hj.o (by decide) rfl (gx_callE (q_hasE rfl (by omega)) (gx_iteB (fun (c_2 : (bt ((J 5 0)) a) = false) => gx_recvE hj.o (by decide) (q_X1_reasonForE hj hl (by omega) (by first | assumption | omega | exact (hg _ (by omega) (by assumption)).2 | exact (hm (by assumption) (by assumption)).1 | exact (hm (by assumption) (by assumption)).2 | exact hz8 | exact hz10 | exact hu (by assumption) | exact (hm1 (by assumption)).1 | exact (hm1 (by assumption)).2 | simp_all) (by first | assumption | omega | exact (hg _ (by omega) (by assumption)).2 | exact (hm (by assumption) (by assumption)).1 | exact (hm (by assumption) (by assumption)).2 | exact hz8 | exact hz10 | exact hu (by assumption) | exact (hm1 (by assumption)).1 | exact (hm1 (by assumption)).2 | simp_all) (rfl)) (gx_ret ⟨by simp only [cset_ap, if_pos c_1, c_2, Nat.reduceEqDiff, reduceIte, Bool.false_eq_true, ite_true, ite_false], rfl⟩)) (fun (c_2 : (bt ((J 5 0)) a) = true) => gx_ret ⟨by simp only [cset_ap, if_pos c_1, if_pos c_2, Nat.reduceEqDiff, reduceIte, Bool.false_eq_true, ite_true, ite_false], rfl⟩))))))))
theorem q_X1_explain5 {G : osG} {z : osS} {N j a : Nat} {L J : Nat → Nat → Int32} (hj : rX1 z j J) (hl : rX2 z (j + 1) L) (ha : a < 16) (hz8 : ∀ a, a < 16 → hi0 (L 8 a)) (hz10 : ∀ a, a < 16 → hi0 (L 10 a)) : qX1_explain N j (nI a) (nI 5) G z = some (if bt (J 2 0 &&& (L 2 0 ^^^ (-1 : Int32))) a = true then 1 else 0, z) := by
  refine gx_eq ?_
  unfold qX1_explain
  (repeat (first | unfold qX1_explain_160))
  exact gx_gR hj.o (by decide) rfl (gx_gI hl.o (by decide) rfl (gx_callE (q_hasE rfl (by omega)) (gx_sw5_5 (gx_gI hj.o (by decide) rfl (gx_gR hj.o (by decide) rfl (gx_gI hl.o (by decide) rfl (gx_callE (q_hasE rfl (by omega)) (gx_iteB (fun (c_1 : (bt (((J 2 0) &&& ((L 2 0) ^^^ (-1 : Int32)))) a) = false) => gx_ret ⟨by simp only [cset_ap, c_1, Nat.reduceEqDiff, reduceIte, Bool.false_eq_true, ite_true, ite_false], rfl⟩) (fun (c_1 : (bt (((J 2 0) &&& ((L 2 0) ^^^ (-1 : Int32)))) a) = true) => gx_ret ⟨by simp only [cset_ap, if_pos c_1, Nat.reduceEqDiff, reduceIte, Bool.false_eq_true, ite_true, ite_false], rfl⟩)))))))))
theorem q_X1_explain {G : osG} {z : osS} {N j a w : Nat} {L J : Nat → Nat → Int32} (hj : rX1 z j J) (hl : rX2 z (j + 1) L) (ha : a < 16) (hw : w < 6) (hz8 : ∀ a, a < 16 → hi0 (L 8 a)) (hz10 : ∀ a, a < 16 → hi0 (L 10 a)) : qX1_explain N j (nI a) (nI w) G z = some (exV L J a w, z) := by
  rcases (show w = 0 ∨ w = 1 ∨ w = 2 ∨ w = 3 ∨ w = 4 ∨ w = 5 by omega) with e | e | e | e | e | e <;> subst e
  · exact q_X1_explain0 hj hl ha hz8 hz10
  · exact q_X1_explain1 hj hl ha hz8 hz10
  · exact q_X1_explain2 hj hl ha hz8 hz10
  · exact q_X1_explain3 hj hl ha hz8 hz10
  · exact q_X1_explain4 hj hl ha hz8 hz10
  · exact q_X1_explain5 hj hl ha hz8 hz10
theorem q_X1_explainAll {G : osG} {z : osS} {N j s : Nat} {L J S : Nat → Nat → Int32} (hj : rX1 z j J) (hl : rX2 z (j + 1) L) (h : rX5 z s S) (hA : G.2.2.1 ≤ s) (hd : s + 12 ≤ j ∨ j + 12 ≤ s) (hz8 : ∀ a, a < 16 → hi0 (L 8 a)) (hz10 : ∀ a, a < 16 → hi0 (L 10 a)) (hN : 96 < N) : gx (qX1_explainAll N j (s + 11) G z) (fun _ z' => osFr s (s + 12) z z' ∧ rX5 z' s (cset S 15 (fl (S 15) (fun i => exV L J (i / 6) (i % 6)) 96))) := by
  unfold qX1_explainAll qX1_explainAll_2
  refine gx_loop 96 (fun i p z' => p = (j, s + 11, nI i) ∧ osFr s (s + 12) z z' ∧ rX5 z' s (cset S 15 (fl (S 15) (fun i => exV L J (i / 6) (i % 6)) i))) ?_ ?_ N 0 _ z (Nat.zero_le _) (by omega) ⟨rfl, osFr.rf, by rw [fl_0, cset_same]; exact h⟩
  · rintro ih i p z' hi ⟨rfl, f_0, h_0⟩ k
    have hj0 := hj.keep f_0 (by omega)
    have hl0 := hl.keep f_0 (by omega)
    show gx (bX1_explainAll_2 N ih j (s + 11) (nI i) G z') _
    unfold bX1_explainAll_2
    refine gx_len h_0.a15 (gx_itef (ge96 hi) (gx_guard (by decide) (gx_guard (by decide) ?_)))
    have e1 : nI i / (6 : Int32) = nI (i / 6) := nI_div (b := 6) (by omega) (by omega)
    have e2 : nI i - nI (i / 6) * (6 : Int32) = nI (i % 6) := by rw [← e1]; exact mod_nI (b := 6) (by omega) (by omega)
    rw [e1, e2]
    refine gx_recvE hj0.o (by decide) (q_X1_explain hj0 hl0 (by omega) (by omega) hz8 hz10) (h_0.s15 rfl hi hA (fun z1 f1 h1 => ?_))
    rw [nI_1]
    refine k _ _ ⟨rfl, f_0.tr f1, h1.ext (fun q => ?_)⟩
    by_cases e : q = 15
    · subst e
      rw [cset_eq, cset_eq]
      show upd (cset S 15 (fl (S 15) (fun i => exV L J (i / 6) (i % 6)) i) 15) i _ = _
      rw [cset_eq]
      exact fl_s (g := fun i => exV L J (i / 6) (i % 6))
    · rw [cset_ne e, cset_ne e, cset_ne e]
  · rintro ih p z' ⟨rfl, f_0, h_0⟩
    show gx (bX1_explainAll_2 N ih j (s + 11) (nI 96) G z') _
    unfold bX1_explainAll_2
    exact gx_len h_0.a15 (gx_itet le96 (gx_ret ⟨f_0, h_0⟩))
