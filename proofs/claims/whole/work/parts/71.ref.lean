/-! the reference: succeeds, goals (by program) -/
def scs (M : Nat → Nat → Int32) (v : Int32) : Bool := !decide (v = -1) && bt (M 28 0) (tn v)
theorem q_X10_succeeds {G : osG} {z : osS} {N m : Nat} {M : Nat → Nat → Int32} {D : Nat → Nat → Int64} {v : Int32} (hm : rX10 z m M D) (hv : ¬ v = -1 → v = nI (tn v) ∧ tn v < 12) : qX10_succeeds N m v G z = some (b2i (scs M v), z) := by
  refine gx_eq ?_
  unfold qX10_succeeds qX10_succeeds_20 qX10_succeeds_21 scs
  refine gx_ite (fun c1 => gx_retZ (Or.inl rfl) ⟨by simp [c1, b2i], rfl⟩) (fun c1 => gx_gI hm.o (by decide) rfl (gx_callE (q_X10_has (by have := (hv c1).2; omega) (hv c1).1) (gx_iteB (fun c2 => gx_retZ (Or.inl rfl) ⟨?_, rfl⟩) (fun c2 => gx_retZ (Or.inr rfl) ⟨?_, rfl⟩))))
  · rw [show bt (M 28 0) (tn v) = false from c2]; simp [b2i]
  · rw [show bt (M 28 0) (tn v) = true from c2]; simp [c1, b2i]
def stGo (M : Nat → Nat → Int32) (i : Nat) (g : Int32) : Int32 := if bt (M 28 0) i = true then g ||| osshl (1 : Int32) (M 22 i) else g
theorem stGo_no {M : Nat → Nat → Int32} {a : Nat} {g0 : Int32} (h : bt (M 28 0) a = false) : osit (stGo M) 0 a g0 = osit (stGo M) 0 (a + 1) g0 := by rw [osit_last, Nat.zero_add]; unfold stGo; rw [if_neg (by rw [h]; decide)]
theorem stGo_yes {M : Nat → Nat → Int32} {a : Nat} {g0 : Int32} (h : bt (M 28 0) a = true) : osit (stGo M) 0 a g0 ||| osshl (1 : Int32) (M 22 a) = osit (stGo M) 0 (a + 1) g0 := by
  rw [osit_last, Nat.zero_add]
  show _ = stGo M a (osit (stGo M) 0 a g0)
  unfold stGo
  rw [if_pos h]
theorem q_X10_goals {G : osG} {z : osS} {N : Nat} {m : Nat} {M : Nat → Nat → Int32} {D : Nat → Nat → Int64} {n : Nat} (hm : rX10 z m M D) (hn : M 26 0 = nI n) (h12 : n ≤ 12) (hN : 16 < N) : qX10_goals N m G z = some (osit (stGo M) 0 n 0, z) := by
  refine gx_eq ?_
  unfold qX10_goals qX10_goals_4
  refine gx_loop n (fun a p z' => p = (m, osit (stGo M) 0 a 0, nI a) ∧ z' = z) ?_ ?_ N 0 _ z (Nat.zero_le _) (by omega) ⟨rfl, rfl⟩
  · rintro ih a p z' h9 ⟨rfl, rfl⟩ k
    show gx (bX10_goals_4 N ih m (osit (stGo M) 0 a 0) (nI a) G z') _
    have k' : ∀ g, g = osit (stGo M) 0 (a + 1) 0 → gx (ih (m, g, nI a + 1) G z') _ := fun g e => by rw [e, nI_1]; exact k _ _ ⟨rfl, rfl⟩
    unfold bX10_goals_4
    (repeat (first | unfold qX10_goals_37))
    exact gx_gI hm.o (by decide) rfl (gx_itef (nI_nleE (a := n) (b := a) hn rfl h9 (by omega)) (gx_gI hm.o (by decide) rfl (gx_callE (q_X10_has (by omega) rfl) (gx_iteB (fun (c_1 : (bt ((M 28 0)) a) = false) => k' _ (by first | with_reducible rfl | (refine stGo_no ?_; simp [c_1]; done) | (refine stGo_yes ?_; simp [c_1]; done) | (refine stGo_no ?_; clear k k' hm; simp_all [b2i]; done) | (refine stGo_yes ?_; clear k k' hm; simp_all [b2i]; done))) (fun (c_1 : (bt ((M 28 0)) a) = true) => gx_gR hm.o (by decide) rfl (gx_aE hm.a22 (rfl) (by omega) (Nat.le_of_ble_eq_true rfl) (k' _ (by first | with_reducible rfl | (refine stGo_no ?_; simp [c_1]; done) | (refine stGo_yes ?_; simp [c_1]; done) | (refine stGo_no ?_; clear k k' hm; simp_all [b2i]; done) | (refine stGo_yes ?_; clear k k' hm; simp_all [b2i]; done)))))))))
  · rintro ih p z' ⟨rfl, rfl⟩
    show gx (bX10_goals_4 N ih m (osit (stGo M) 0 n 0) (nI n) G z') _
    unfold bX10_goals_4
    exact gx_gI hm.o (by decide) rfl (gx_itet (by rw [hn]; exact (nI_leI (by omega) (by omega)).mpr (Nat.le_refl _)) (gx_ret ⟨by with_reducible rfl, rfl⟩))
