/-! the reference: counts of a state, builds, turns (by program) -/
section
variable {G : osG} {z : osS} {N m w n : Nat} {M : Nat → Nat → Int32} {D : Nat → Nat → Int64} {f : Nat → Int32}
/-- a loop over the areas that counts -/
theorem gx_cnt {β : Type} {b : (β → osM Int32) → β → osM Int32} {Q : Int32 → osS → Prop} (P : Nat → Bool) (n : Nat) (pk : Int32 → Nat → β)
    (hs : ∀ (ih : β → osM Int32) (i : Nat) (g : Int32), i < n → (∀ g1, g1 = (if P i = true then g + 1 else g) → gx (ih (pk g1 (i + 1)) G z) Q) → gx (b ih (pk g i) G z) Q)
    (he : ∀ (ih : β → osM Int32), gx (b ih (pk (nI (fb_ct P n)) n) G z) Q) (N : Nat) (hN : n < N) : gx (osloop b N (pk (nI 0) 0) G z) Q := by
  refine gx_loop n (fun i p z' => p = pk (nI (fb_ct P i)) i ∧ z' = z) ?_ ?_ N 0 _ z (Nat.zero_le _) (by omega) ⟨rfl, rfl⟩
  · rintro ih i p z' hi ⟨rfl, rfl⟩ k
    refine hs ih i _ hi (fun g1 e => k _ _ ⟨?_, rfl⟩)
    rw [e, fb_ct_succ]
    cases P i
    · rfl
    · rw [if_pos rfl, if_pos rfl, nI_1]
  · rintro ih p z' ⟨rfl, rfl⟩
    exact he ih
def cnC (M : Nat → Nat → Int32) (f : Nat → Int32) (v : Int32) (a : Nat) : Bool := decide (M 1 (18 + a) = 1) && decide (f (5 + a) = v)
def cnU (f : Nat → Int32) (v : Int32) (a : Nat) : Bool := !decide (f (21 + a) = -1) && (decide (v = -1) || decide (f (21 + a) = v))
def cnH (M : Nat → Nat → Int32) (f : Nat → Int32) (v : Int32) (a : Nat) : Bool := decide (M 1 (34 + a) = v) && (decide (f (5 + a) = v) && decide (f (21 + a) = -1))
theorem ni_end (h16 : n ≤ 16) : nI n ≤ nI n := (nI_leI (by omega) (by omega)).mpr (Nat.le_refl _)
theorem q_X10_centersOf (hm : rX10 z m M D) (hw : z.1 w = some (.inl (0, (261, .inl f)))) (hn : M 1 0 = nI n) (h16 : n ≤ 16) (hN : 16 < N) {v : Int32} : qX10_centersOf N m w v G z = some (nI (fb_ct (cnC M f v) n), z) := by
  refine gx_eq ?_
  unfold qX10_centersOf qX10_centersOf_5
  refine gx_cnt (cnC M f v) n (fun g i => (m, w, v, g, nI i)) ?_ ?_ N (by omega)
  · intro ih i g hi k
    show gx (bX10_centersOf_5 N ih m w v g (nI i) G z) _
    unfold bX10_centersOf_5 qX10_centersOf_46 qX10_centersOf_47
    refine gx_gR hm.o (by decide) rfl (gx_aE (i := 0) hm.a1 rfl (by omega) (Nat.le_of_ble_eq_true rfl) (gx_itef (nI_nleE (a := n) (b := i) hn rfl hi (by omega)) (gx_gR hm.o (by decide) rfl (gx_aE hm.a1 (nI_sum (a := 18) (b := i) rfl rfl) (by omega) (Nat.le_of_ble_eq_true rfl) (gx_ite (fun c => gx_aE hw (nI_sum (a := 5) (b := i) rfl rfl) (by omega) (Nat.le_of_ble_eq_true rfl) (gx_ite (fun c2 => ?_) (fun c2 => ?_))) (fun c => ?_))))))
    · rw [nI_1]; exact k _ (by unfold cnC; rw [decide_eq_true c, decide_eq_true c2]; rfl)
    · rw [nI_1]; exact k _ (by unfold cnC; rw [decide_eq_true c, decide_eq_false c2]; rfl)
    · rw [nI_1]; exact k _ (by unfold cnC; rw [decide_eq_false c]; rfl)
  · intro ih
    show gx (bX10_centersOf_5 N ih m w v (nI (fb_ct (cnC M f v) n)) (nI n) G z) _
    unfold bX10_centersOf_5
    exact gx_gR hm.o (by decide) rfl (gx_aE (i := 0) hm.a1 rfl (by omega) (Nat.le_of_ble_eq_true rfl) (gx_itet (by rw [hn]; exact ni_end h16) (gx_ret ⟨rfl, rfl⟩)))
theorem q_X10_unitsOf (hm : rX10 z m M D) (hw : z.1 w = some (.inl (0, (261, .inl f)))) (hn : M 1 0 = nI n) (h16 : n ≤ 16) (hN : 16 < N) {v : Int32} : qX10_unitsOf N m w v G z = some (nI (fb_ct (cnU f v) n), z) := by
  refine gx_eq ?_
  unfold qX10_unitsOf qX10_unitsOf_5
  refine gx_cnt (cnU f v) n (fun g i => (m, w, v, g, nI i)) ?_ ?_ N (by omega)
  · intro ih i g hi k
    show gx (bX10_unitsOf_5 N ih m w v g (nI i) G z) _
    unfold bX10_unitsOf_5 qX10_unitsOf_47 qX10_unitsOf_41 qX10_unitsOf_48
    refine gx_gR hm.o (by decide) rfl (gx_aE (i := 0) hm.a1 rfl (by omega) (Nat.le_of_ble_eq_true rfl) (gx_itef (nI_nleE (a := n) (b := i) hn rfl hi (by omega)) (gx_callE (q_X10_isUnit hw (by omega) rfl) (gx_iteDn (fun c => ?_) (fun c => gx_ite (fun c2 => ?_) (fun c2 => gx_aE hw (nI_sum (a := 21) (b := i) rfl rfl) (by omega) (Nat.le_of_ble_eq_true rfl) (gx_ite (fun c3 => ?_) (fun c3 => ?_))))))))
    · rw [nI_1]; exact k _ (by unfold cnU; rw [decide_eq_true c]; rfl)
    · rw [nI_1]; exact k _ (by unfold cnU; rw [decide_eq_false c, decide_eq_true c2]; rfl)
    · rw [nI_1]; exact k _ (by unfold cnU; rw [decide_eq_false c, decide_eq_false c2, decide_eq_true c3]; rfl)
    · rw [nI_1]; exact k _ (by unfold cnU; rw [decide_eq_false c, decide_eq_false c2, decide_eq_false c3]; rfl)
  · intro ih
    show gx (bX10_unitsOf_5 N ih m w v (nI (fb_ct (cnU f v) n)) (nI n) G z) _
    unfold bX10_unitsOf_5
    exact gx_gR hm.o (by decide) rfl (gx_aE (i := 0) hm.a1 rfl (by omega) (Nat.le_of_ble_eq_true rfl) (gx_itet (by rw [hn]; exact ni_end h16) (gx_ret ⟨rfl, rfl⟩)))
theorem q_X10_isFreeHome (hm : rX10 z m M D) (hw : z.1 w = some (.inl (0, (261, .inl f)))) {a : Nat} {v : Int32} (ha : a < 16) : qX10_isFreeHome N m w (nI a) v G z = some (b2i (cnH M f v a), z) := by
  refine gx_eq ?_
  unfold qX10_isFreeHome qX10_isFreeHome_34 qX10_isFreeHome_35
  refine gx_gR hm.o (by decide) rfl (gx_aE hm.a1 (nI_sum (a := 34) (b := a) rfl rfl) (by omega) (Nat.le_of_ble_eq_true rfl) (gx_ite (fun c => gx_aE hw (nI_sum (a := 5) (b := a) rfl rfl) (by omega) (Nat.le_of_ble_eq_true rfl) (gx_ite (fun c2 => gx_callE (q_X10_isUnit hw ha rfl) (gx_iteDn (fun c3 => ?_) (fun c3 => ?_))) (fun c2 => ?_))) (fun c => ?_)))
  · exact gx_retZ (Or.inr rfl) ⟨by unfold cnH; rw [decide_eq_true c, decide_eq_true c2, decide_eq_true c3]; rfl, rfl⟩
  · exact gx_retZ (Or.inl rfl) ⟨by unfold cnH; rw [decide_eq_true c, decide_eq_true c2, decide_eq_false c3]; rfl, rfl⟩
  · exact gx_retZ (Or.inl rfl) ⟨by unfold cnH; rw [decide_eq_true c, decide_eq_false c2]; rfl, rfl⟩
  · exact gx_retZ (Or.inl rfl) ⟨by unfold cnH; rw [decide_eq_false c]; rfl, rfl⟩
theorem q_X10_lesser {a b : Nat} (ha : a < 2 ^ 31) (hb : b < 2 ^ 31) : qX10_lesser N (nI a) (nI b) G z = some (nI (min a b), z) := by
  refine gx_eq ?_
  unfold qX10_lesser qX10_lesser_10
  refine gx_ite (fun c => gx_ret ⟨?_, rfl⟩) (fun c => gx_ret ⟨?_, rfl⟩)
  · have := (nI_leI hb ha).mp c
    rw [Nat.min_eq_right this]
  · have : ¬ b ≤ a := fun q => c ((nI_leI hb ha).mpr q)
    rw [Nat.min_eq_left (by omega)]
def rBl (M : Nat → Nat → Int32) (f : Nat → Int32) (n : Nat) (v : Int32) : Int32 := if fb_ct (cnU f v) n < fb_ct (cnC M f v) n then nI (min (fb_ct (cnC M f v) n - fb_ct (cnU f v) n) (min (fb_ct (cnH M f v) n) (12 - fb_ct (cnU f (-1)) n))) else nI (fb_ct (cnC M f v) n) - nI (fb_ct (cnU f v) n)
theorem q_X10_buildsOf (hm : rX10 z m M D) (hw : z.1 w = some (.inl (0, (261, .inl f)))) (hn : M 1 0 = nI n) (h16 : n ≤ 16) (hu : fb_ct (cnU f (-1)) n ≤ 12) (hN : 16 < N) {v : Int32} : qX10_buildsOf N m w v G z = some (rBl M f n v, z) := by
  have b1 := fb_ct_le (cnC M f v) n
  have b2 := fb_ct_le (cnU f v) n
  have b3 := fb_ct_le (cnH M f v) n
  refine gx_eq ?_
  unfold qX10_buildsOf rBl
  refine gx_recvE hm.o (by decide) (q_X10_centersOf hm hw hn h16 hN) (gx_recvE hm.o (by decide) (q_X10_unitsOf hm hw hn h16 hN) (gx_ite (fun c => ?_) (fun c => gx_ret ⟨?_, rfl⟩)))
  · have c := (subs16 _ (by omega) _ (by omega)).mp c
    rw [if_pos c, nI_sub (by omega)]
    unfold qX10_buildsOf_26
    refine gx_cnt (cnH M f v) n (fun g i => (m, w, v, nI (fb_ct (cnC M f v) n - fb_ct (cnU f v) n), g, nI i)) ?_ ?_ N (by omega)
    · intro ih i g hi k
      show gx (bX10_buildsOf_26 N ih m w v _ g (nI i) G z) _
      unfold bX10_buildsOf_26 qX10_buildsOf_57
      refine gx_gR hm.o (by decide) rfl (gx_aE (i := 0) hm.a1 rfl (by omega) (Nat.le_of_ble_eq_true rfl) (gx_itef (nI_nleE (a := n) (b := i) hn rfl hi (by omega)) (gx_recvE hm.o (by decide) (q_X10_isFreeHome hm hw (by omega)) (gx_iteB (fun c => ?_) (fun c => ?_)))))
      · rw [nI_1]; exact k _ (by rw [c]; rfl)
      · rw [nI_1]; exact k _ (by rw [c]; rfl)
    · intro ih
      show gx (bX10_buildsOf_26 N ih m w v _ (nI (fb_ct (cnH M f v) n)) (nI n) G z) _
      unfold bX10_buildsOf_26
      refine gx_gR hm.o (by decide) rfl (gx_aE (i := 0) hm.a1 rfl (by omega) (Nat.le_of_ble_eq_true rfl) (gx_itet (by rw [hn]; exact ni_end h16) (gx_recvE hm.o (by decide) (q_X10_unitsOf hm hw hn h16 hN) ?_)))
      rw [sub12 _ hu]
      exact gx_callE (q_X10_lesser (by omega) (by omega)) (gx_callE (q_X10_lesser (by omega) (by omega)) (gx_ret ⟨rfl, rfl⟩))
  · rw [if_neg (fun q => c ((subs16 _ (by omega) _ (by omega)).mpr q))]
def cnR (M : Nat → Nat → Int32) (i : Nat) (v : Int32) (o : Bool) (a : Nat) : Bool := !decide (a = i) && (!decide (M 3 (21 + a) = -1) && (!decide (decide (M 3 (21 + a) = v) = o) && bt (psg M a (M 3 (37 + a))) i))
theorem q_X10_reaching (hm : rX10 z m M D) (hn : M 1 0 = nI n) (h16 : n ≤ 16) {i : Nat} (hi : i < 16) {v : Int32} {o : Bool} (hN : 16 < N) : qX10_reaching N m (nI i) v (b2i o) G z = some (nI (fb_ct (cnR M i v o) n), z) := by
  refine gx_eq ?_
  unfold qX10_reaching qX10_reaching_6
  refine gx_cnt (cnR M i v o) n (fun g a => (m, nI i, v, b2i o, g, nI a)) ?_ ?_ N (by omega)
  · intro ih a g ha k
    show gx (bX10_reaching_6 N ih m (nI i) v (b2i o) g (nI a) G z) _
    have ha16 : a < 16 := by omega
    have fin : ∀ q, q = cnR M i v o a → gx (qX10_reaching_73 N ih m (nI i) v (b2i o) g (nI a) (b2i q) G z) _ := fun q e => by
      unfold qX10_reaching_73 qX10_reaching_89
      rw [nI_1]
      exact gx_iteB (fun c => k _ (by rw [← e, c]; rfl)) (fun c => k _ (by rw [← e, c]; rfl))
    unfold bX10_reaching_6 qX10_reaching_72
    refine gx_gR hm.o (by decide) rfl (gx_aE (i := 0) hm.a1 rfl (by omega) (Nat.le_of_ble_eq_true rfl) (gx_itef (nI_nleE (a := n) (b := a) hn rfl ha (by omega)) (gx_iteN (by omega) (by omega) (fun c => fin false ?_) (fun c => gx_gR hm.o (by decide) rfl (gx_callE (q_X10_isUnit hm.a3 ha16 rfl) (gx_iteDn (fun c2 => fin false ?_) (fun c2 => gx_gR hm.o (by decide) rfl (gx_aE hm.a3 (nI_sum (a := 21) (b := a) rfl rfl) (by omega) (Nat.le_of_ble_eq_true rfl) ?_))))))))
    · unfold cnR; rw [decide_eq_true c]; rfl
    · unfold cnR; rw [decide_eq_true c2]; simp
    · have last : ∀ q, q = decide (M 3 (21 + a) = v) → gx (qX10_reaching_54 N ih m (nI i) v (b2i o) g (nI a) (b2i (!q)) G z) _ := fun q e => by
        unfold qX10_reaching_54 qX10_reaching_72
        refine gx_ite (fun c3 => gx_recvE hm.o (by decide) (q_X10_isDirect hm ha16 hi) (gx_iteB (fun c4 => fin false ?_) (fun c4 => fin true ?_))) (fun c3 => fin false ?_)
        · unfold cnR; rw [show bt (psg M a (M 3 (37 + a))) i = false from c4]; simp
        · have := b2i_inj.mp c3
          unfold cnR
          rw [show bt (psg M a (M 3 (37 + a))) i = true from c4, decide_eq_false c, decide_eq_false c2, ← e, ← this]
          cases q <;> rfl
        · have : ¬ (!q) = o := fun x => c3 (by rw [x])
          unfold cnR
          rw [← e]
          cases q <;> cases o <;> simp at this ⊢
      refine gx_ite (fun c3 => ?_) (fun c3 => ?_)
      · exact last true (by rw [decide_eq_true c3])
      · exact last false (by rw [decide_eq_false c3])
  · intro ih
    show gx (bX10_reaching_6 N ih m (nI i) v (b2i o) (nI (fb_ct (cnR M i v o) n)) (nI n) G z) _
    unfold bX10_reaching_6
    exact gx_gR hm.o (by decide) rfl (gx_aE (i := 0) hm.a1 rfl (by omega) (Nat.le_of_ble_eq_true rfl) (gx_itet (by rw [hn]; exact ni_end h16) (gx_ret ⟨rfl, rfl⟩)))
theorem q_X10_allCenters (hm : rX10 z m M D) (hn : M 1 0 = nI n) (h16 : n ≤ 16) (hN : 16 < N) {P : Nat → Bool} (hP : ∀ a, a < n → M 1 (18 + a) = b2i (P a)) : qX10_allCenters N m G z = some (nI (fb_ct P n), z) := by
  refine gx_eq ?_
  unfold qX10_allCenters qX10_allCenters_4
  refine gx_cnt P n (fun g i => (m, g, nI i)) ?_ ?_ N (by omega)
  · intro ih i g hi k
    show gx (bX10_allCenters_4 N ih m g (nI i) G z) _
    unfold bX10_allCenters_4
    refine gx_gR hm.o (by decide) rfl (gx_aE (i := 0) hm.a1 rfl (by omega) (Nat.le_of_ble_eq_true rfl) (gx_itef (nI_nleE (a := n) (b := i) hn rfl hi (by omega)) (gx_gR hm.o (by decide) rfl (gx_aE hm.a1 (nI_sum (a := 18) (b := i) rfl rfl) (by omega) (Nat.le_of_ble_eq_true rfl) ?_))))
    rw [nI_1, hP i hi]
    exact k _ (by cases P i; exact Int32.add_zero _; rfl)
  · intro ih
    show gx (bX10_allCenters_4 N ih m (nI (fb_ct P n)) (nI n) G z) _
    unfold bX10_allCenters_4
    exact gx_gR hm.o (by decide) rfl (gx_aE (i := 0) hm.a1 rfl (by omega) (Nat.le_of_ble_eq_true rfl) (gx_itet (by rw [hn]; exact ni_end h16) (gx_ret ⟨rfl, rfl⟩)))
end
