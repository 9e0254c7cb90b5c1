/-! the reference: counts (by program) -/
def rSp (M : Nat → Nat → Int32) (i : Nat) (v : Int32) (a : Nat) : Bool := bt (M 31 0) a && (decide (M 3 (133 + a) = nI i) && !decide (M 3 (21 + a) = v))
theorem q_X10_supports {G : osG} {z : osS} {N : Nat} {i : Nat} {v : Int32} {m : Nat} {M : Nat → Nat → Int32} {D : Nat → Nat → Int64} {n : Nat} (hm : rX10 z m M D) (hn : M 1 0 = nI n) (h16 : n ≤ 16) (hN : 16 < N) : qX10_supports N m (nI i) v G z = some (nI (fb_ct (rSp M i v) n), z) := by
  refine gx_eq ?_
  unfold qX10_supports qX10_supports_5
  refine gx_loop n (fun a p z' => p = (m, nI i, v, nI (fb_ct (rSp M i v) a), nI a) ∧ z' = z) ?_ ?_ N 0 _ z (Nat.zero_le _) (by omega) ⟨rfl, rfl⟩
  · rintro ih a p z' h9 ⟨rfl, rfl⟩ k
    show gx (bX10_supports_5 N ih m (nI i) v (nI (fb_ct (rSp M i v) a)) (nI a) G z') _
    have k' : ∀ g, g = nI (fb_ct (rSp M i v) (a + 1)) → gx (ih (m, nI i, v, g, nI a + 1) G z') _ := fun g e => by rw [e, nI_1]; exact k _ _ ⟨rfl, rfl⟩
    unfold bX10_supports_5
    (repeat (first | unfold qX10_supports_63 | unfold qX10_supports_64))
    exact gx_gR hm.o (by decide) rfl (gx_aE (i := 0) hm.a1 (rfl) (by omega) (Nat.le_of_ble_eq_true rfl) (gx_itef (nI_nleE (a := n) (b := a) hn rfl h9 (by omega)) (gx_gI hm.o (by decide) rfl (gx_callE (q_X10_has (by omega) rfl) (gx_iteB (fun (c_1 : (bt ((M 31 0)) a) = false) => k' _ (by first | with_reducible rfl | (refine ctI_same2 ?_; simp [c_1, rSp]; done) | (refine ctI_succ2 ?_; simp [c_1, rSp]; done) | (refine ctI_same2 ?_; clear k k' hm; simp_all [b2i, rSp]; done) | (refine ctI_succ2 ?_; clear k k' hm; simp_all [b2i, rSp]; done))) (fun (c_1 : (bt ((M 31 0)) a) = true) => gx_gR hm.o (by decide) rfl (gx_aE hm.a3 ((nI_sum (a := 133) (b := a) (rfl) (rfl))) (by omega) (Nat.le_of_ble_eq_true rfl) (gx_ite (fun (c_2 : (M 3 (133 + a)) = (nI (i))) => gx_gR hm.o (by decide) rfl (gx_aE hm.a3 ((nI_sum (a := 21) (b := a) (rfl) (rfl))) (by omega) (Nat.le_of_ble_eq_true rfl) (gx_ite (fun (c_3 : (M 3 (21 + a)) = v) => k' _ (by first | with_reducible rfl | (refine ctI_same2 ?_; simp [c_1, c_2, c_3, rSp]; done) | (refine ctI_succ2 ?_; simp [c_1, c_2, c_3, rSp]; done) | (refine ctI_same2 ?_; clear k k' hm; simp_all [b2i, rSp]; done) | (refine ctI_succ2 ?_; clear k k' hm; simp_all [b2i, rSp]; done))) (fun (c_3 : ¬ ((M 3 (21 + a)) = v)) => k' _ (by first | with_reducible rfl | (refine ctI_same2 ?_; simp [c_1, c_2, c_3, rSp]; done) | (refine ctI_succ2 ?_; simp [c_1, c_2, c_3, rSp]; done) | (refine ctI_same2 ?_; clear k k' hm; simp_all [b2i, rSp]; done) | (refine ctI_succ2 ?_; clear k k' hm; simp_all [b2i, rSp]; done)))))) (fun (c_2 : ¬ ((M 3 (133 + a)) = (nI (i)))) => k' _ (by first | with_reducible rfl | (refine ctI_same2 ?_; simp [c_1, c_2, rSp]; done) | (refine ctI_succ2 ?_; simp [c_1, c_2, rSp]; done) | (refine ctI_same2 ?_; clear k k' hm; simp_all [b2i, rSp]; done) | (refine ctI_succ2 ?_; clear k k' hm; simp_all [b2i, rSp]; done)))))))))))
  · rintro ih p z' ⟨rfl, rfl⟩
    show gx (bX10_supports_5 N ih m (nI i) v (nI (fb_ct (rSp M i v) n)) (nI n) G z') _
    unfold bX10_supports_5
    exact gx_gR hm.o (by decide) rfl (gx_aE (i := 0) hm.a1 rfl (by omega) (Nat.le_of_ble_eq_true rfl) (gx_itet (by rw [hn]; exact (nI_leI (by omega) (by omega)).mpr (Nat.le_refl _)) (gx_ret ⟨by with_reducible rfl, rfl⟩)))
theorem q_X10_supportsE {G : osG} {z : osS} {N : Nat} {i : Nat} {v : Int32} {m : Nat} {M : Nat → Nat → Int32} {D : Nat → Nat → Int64} {n : Nat} {x1 : Int32} (hm : rX10 z m M D) (hn : M 1 0 = nI n) (h16 : n ≤ 16) (hN : 16 < N) (e1 : x1 = nI i) : qX10_supports N m x1 v G z = some (nI (fb_ct (rSp M i v) n), z) := by
  subst e1
  exact q_X10_supports hm hn h16 hN
theorem q_X10_homesOf {G : osG} {z : osS} {N : Nat} {v : Int32} {m : Nat} {M : Nat → Nat → Int32} {D : Nat → Nat → Int64} {n : Nat} (hm : rX10 z m M D) (hn : M 1 0 = nI n) (h16 : n ≤ 16) (hN : 16 < N) : qX10_homesOf N m v G z = some (nI (fb_ct (fun a => decide (M 1 (34 + a) = v)) n), z) := by
  refine gx_eq ?_
  unfold qX10_homesOf qX10_homesOf_4
  refine gx_loop n (fun a p z' => p = (m, v, nI (fb_ct (fun a => decide (M 1 (34 + a) = v)) a), nI a) ∧ z' = z) ?_ ?_ N 0 _ z (Nat.zero_le _) (by omega) ⟨rfl, rfl⟩
  · rintro ih a p z' h9 ⟨rfl, rfl⟩ k
    show gx (bX10_homesOf_4 N ih m v (nI (fb_ct (fun a => decide (M 1 (34 + a) = v)) a)) (nI a) G z') _
    have k' : ∀ g, g = nI (fb_ct (fun a => decide (M 1 (34 + a) = v)) (a + 1)) → gx (ih (m, v, g, nI a + 1) G z') _ := fun g e => by rw [e, nI_1]; exact k _ _ ⟨rfl, rfl⟩
    unfold bX10_homesOf_4
    (repeat (first | unfold qX10_homesOf_34))
    exact gx_gR hm.o (by decide) rfl (gx_aE (i := 0) hm.a1 (rfl) (by omega) (Nat.le_of_ble_eq_true rfl) (gx_itef (nI_nleE (a := n) (b := a) hn rfl h9 (by omega)) (gx_gR hm.o (by decide) rfl (gx_aE hm.a1 ((nI_sum (a := 34) (b := a) (rfl) (rfl))) (by omega) (Nat.le_of_ble_eq_true rfl) (gx_ite (fun (c_1 : (M 1 (34 + a)) = v) => k' _ (by first | with_reducible rfl | (refine ctI_same2 ?_; simp [c_1]; done) | (refine ctI_succ2 ?_; simp [c_1]; done) | (refine ctI_same2 ?_; clear k k' hm; simp_all [b2i]; done) | (refine ctI_succ2 ?_; clear k k' hm; simp_all [b2i]; done))) (fun (c_1 : ¬ ((M 1 (34 + a)) = v)) => k' _ (by first | with_reducible rfl | (refine ctI_same2 ?_; simp [c_1]; done) | (refine ctI_succ2 ?_; simp [c_1]; done) | (refine ctI_same2 ?_; clear k k' hm; simp_all [b2i]; done) | (refine ctI_succ2 ?_; clear k k' hm; simp_all [b2i]; done))))))))
  · rintro ih p z' ⟨rfl, rfl⟩
    show gx (bX10_homesOf_4 N ih m v (nI (fb_ct (fun a => decide (M 1 (34 + a) = v)) n)) (nI n) G z') _
    unfold bX10_homesOf_4
    exact gx_gR hm.o (by decide) rfl (gx_aE (i := 0) hm.a1 rfl (by omega) (Nat.le_of_ble_eq_true rfl) (gx_itet (by rw [hn]; exact (nI_leI (by omega) (by omega)).mpr (Nat.le_refl _)) (gx_ret ⟨by with_reducible rfl, rfl⟩)))
def stRW (M : Nat → Nat → Int32) (s kd : Int32) (a : Nat) (g : Int32) : Int32 := if bt s a = true then g ||| psg M a kd else g
theorem stRW_no {M : Nat → Nat → Int32} {s kd : Int32} {a : Nat} {g0 : Int32} (h : bt s a = false) : osit (stRW M s kd) 0 a g0 = osit (stRW M s kd) 0 (a + 1) g0 := by rw [osit_last, Nat.zero_add]; unfold stRW; rw [if_neg (by rw [h]; decide)]
theorem stRW_yes {M : Nat → Nat → Int32} {s kd : Int32} {a : Nat} {g0 : Int32} (h : bt s a = true) : osit (stRW M s kd) 0 a g0 ||| psg M a kd = osit (stRW M s kd) 0 (a + 1) g0 := by
  rw [osit_last, Nat.zero_add]
  show _ = stRW M s kd a (osit (stRW M s kd) 0 a g0)
  unfold stRW
  rw [if_pos h]
theorem q_X10_widened {G : osG} {z : osS} {N : Nat} {s : Int32} {kd : Int32} {m : Nat} {M : Nat → Nat → Int32} {D : Nat → Nat → Int64} {n : Nat} (hm : rX10 z m M D) (hn : M 1 0 = nI n) (h16 : n ≤ 16) (hN : 16 < N) : qX10_widened N m s kd G z = some (osit (stRW M s kd) 0 n s, z) := by
  refine gx_eq ?_
  unfold qX10_widened qX10_widened_5
  refine gx_loop n (fun a p z' => p = (m, s, kd, osit (stRW M s kd) 0 a s, nI a) ∧ z' = z) ?_ ?_ N 0 _ z (Nat.zero_le _) (by omega) ⟨rfl, rfl⟩
  · rintro ih a p z' h9 ⟨rfl, rfl⟩ k
    show gx (bX10_widened_5 N ih m s kd (osit (stRW M s kd) 0 a s) (nI a) G z') _
    have k' : ∀ g, g = osit (stRW M s kd) 0 (a + 1) s → gx (ih (m, s, kd, g, nI a + 1) G z') _ := fun g e => by rw [e, nI_1]; exact k _ _ ⟨rfl, rfl⟩
    unfold bX10_widened_5
    (repeat (first | unfold qX10_widened_38))
    exact gx_gR hm.o (by decide) rfl (gx_aE (i := 0) hm.a1 (rfl) (by omega) (Nat.le_of_ble_eq_true rfl) (gx_itef (nI_nleE (a := n) (b := a) hn rfl h9 (by omega)) (gx_callE (q_X10_has (by omega) rfl) (gx_iteB (fun (c_1 : (bt (s) a) = false) => k' _ (by first | with_reducible rfl | (refine stRW_no ?_; simp [c_1]; done) | (refine stRW_yes ?_; simp [c_1]; done) | (refine stRW_no ?_; clear k k' hm; simp_all [b2i]; done) | (refine stRW_yes ?_; clear k k' hm; simp_all [b2i]; done))) (fun (c_1 : (bt (s) a) = true) => gx_recvE hm.o (by decide) (q_X10_passingE hm (by omega) (rfl)) (k' _ (by first | with_reducible rfl | (refine stRW_no ?_; simp [c_1]; done) | (refine stRW_yes ?_; simp [c_1]; done) | (refine stRW_no ?_; clear k k' hm; simp_all [b2i]; done) | (refine stRW_yes ?_; clear k k' hm; simp_all [b2i]; done))))))))
  · rintro ih p z' ⟨rfl, rfl⟩
    show gx (bX10_widened_5 N ih m s kd (osit (stRW M s kd) 0 n s) (nI n) G z') _
    unfold bX10_widened_5
    exact gx_gR hm.o (by decide) rfl (gx_aE (i := 0) hm.a1 rfl (by omega) (Nat.le_of_ble_eq_true rfl) (gx_itet (by rw [hn]; exact (nI_leI (by omega) (by omega)).mpr (Nat.le_refl _)) (gx_ret ⟨by with_reducible rfl, rfl⟩)))
