/-! the first place -/
def fd (P : Nat → Bool) : Nat → Nat → Option Nat
  | _, 0 => none
  | i, k + 1 => if P i = true then some i else fd P (i + 1) k
theorem fd_hit {P : Nat → Bool} {i n : Nat} (h : i < n) (hp : P i = true) : fd P i (n - i) = some i := by
  rw [show n - i = (n - i - 1) + 1 by omega]
  simp [fd, hp]
theorem fd_miss {P : Nat → Bool} {i n : Nat} (h : i < n) (hp : ¬ P i = true) : fd P i (n - i) = fd P (i + 1) (n - (i + 1)) := by
  rw [show n - i = (n - (i + 1)) + 1 by omega]
  simp [fd, hp]
theorem fd_end {P : Nat → Bool} {n : Nat} : fd P n (n - n) = none := by rw [Nat.sub_self]; rfl
theorem fd_cong {P Q : Nat → Bool} : ∀ {k i : Nat}, (∀ j, i ≤ j → j < i + k → P j = Q j) → fd P i k = fd Q i k
  | 0, i, _ => rfl
  | k + 1, i, h => by
    unfold fd
    rw [h i (Nat.le_refl i) (by omega), fd_cong (fun j h1 h2 => h j (by omega) (by omega))]
theorem fd_some {P : Nat → Bool} : ∀ {k i j : Nat}, fd P i k = some j → i ≤ j ∧ j < i + k ∧ P j = true
  | 0, i, j, h => by cases h
  | k + 1, i, j, h => by
    unfold fd at h
    by_cases hp : P i = true
    · rw [if_pos hp] at h; cases h; exact ⟨Nat.le_refl _, by omega, hp⟩
    · rw [if_neg hp] at h
      obtain ⟨h1, h2, h3⟩ := fd_some h
      exact ⟨by omega, by omega, h3⟩
theorem fd_none {P : Nat → Bool} : ∀ {k i : Nat}, fd P i k = none → ∀ j, i ≤ j → j < i + k → P j = false
  | 0, i, _, j, h1, h2 => by omega
  | k + 1, i, h, j, h1, h2 => by
    unfold fd at h
    by_cases hp : P i = true
    · rw [if_pos hp] at h; cases h
    · rw [if_neg hp] at h
      by_cases hj : j = i
      · subst hj; exact Bool.not_eq_true _ ▸ hp
      · exact fd_none h j (by omega) (by omega)
def oi (o : Option Nat) : Int32 := match o with
  | some i => nI i
  | none => -1
theorem nI_m1 {i : Nat} (h : i < 2 ^ 31) : ¬ nI i = -1 := fun q => by
  have := nI_pos' h
  rw [q] at this
  exact absurd this (by decide)
theorem ge16 : ∀ {i : Nat}, i < 16 → ¬ ((16 : Int32) ≤ nI i) := by decide +kernel
theorem le16 : (16 : Int32) ≤ nI 16 := by decide +kernel
theorem ge4 : ∀ {i : Nat}, i < 4 → ¬ ((4 : Int32) ≤ nI i) := by decide +kernel
theorem le4 : (4 : Int32) ≤ nI 4 := by decide +kernel
section
variable {G : osG} {z : osS} {N b : Nat} {C : Nat → Nat → Int32}
def isAr (C : Nat → Nat → Int32) (v : Int32) : Bool := !decide (v < 0) && !decide (C 0 0 ≤ v) && !decide (16 ≤ v)
theorem q_isArea (h : rX0 z b C) {v : Int32} : qX0_isArea N b v G z = some (b2i (isAr C v), z) := by
  refine gx_eq ?_
  unfold qX0_isArea qX0_isArea_22 qX0_isArea_23 isAr
  (repeat' (first | refine gx_retb ?_ | refine gx_gI h.o (by decide) rfl ?_ | refine gx_gR h.o (by decide) rfl ?_ | refine gx_aN h.a5 (by omega) (Nat.le_of_ble_eq_true rfl) ?_ | refine gx_aN h.a6 (by omega) (Nat.le_of_ble_eq_true rfl) ?_ | refine gx_aN h.a7 (by omega) (Nat.le_of_ble_eq_true rfl) ?_ | refine gx_aN h.a8 (by omega) (Nat.le_of_ble_eq_true rfl) ?_ | refine gx_aN h.a9 (by omega) (Nat.le_of_ble_eq_true rfl) ?_ | refine gx_ite (fun hc => ?_) (fun hc => ?_)))
  all_goals (first | (refine gx_ret ⟨?_, rfl⟩; (first | rfl | (simp [*, b2i]; done) | (simp_all [b2i]; done))) | (refine gx_retZ ?_ ⟨?_, rfl⟩; (first | exact Or.inl rfl | exact Or.inr rfl | exact b2i_01 _); (first | rfl | (simp [*, b2i]; done) | (simp_all [b2i]; done))))
theorem q_findArea (h : rX0 z b C) {v : Int32} {n : Nat} (hn : C 0 0 = nI n) (h16 : n ≤ 16) (hN : 16 < N) : qX0_findArea N b v G z = some (oi (fd (fun i => decide (C 5 i = v)) 0 n), z) := by
  refine gx_eq ?_
  unfold qX0_findArea qX0_findArea_2
  refine gx_loop n (fun i p z' => p = (b, v, nI i) ∧ z' = z ∧ fd (fun i => decide (C 5 i = v)) 0 n = fd (fun i => decide (C 5 i = v)) i (n - i)) ?_ ?_ N 0 _ z (Nat.zero_le n) (by omega) ⟨rfl, rfl, rfl⟩
  · rintro ih i p z' hi ⟨rfl, rfl, e⟩ k
    show gx (bX0_findArea_2 N ih b v (nI i) G z') _
    unfold bX0_findArea_2 qX0_findArea_34
    refine gx_gI h.o (by decide) rfl ?_
    rw [hn]
    refine gx_itef (nI_ge hi (by omega)) (gx_itef (ge16 (by omega)) ?_)
    refine gx_gR h.o (by decide) rfl ?_
    refine gx_aI h.a5 (nI_in (by omega) (Nat.le_of_ble_eq_true rfl)) ?_
    rw [nI_clamp (by omega)]
    refine gx_ite (fun hc => ?_) (fun hc => ?_)
    · refine gx_ret ⟨?_, rfl⟩
      rw [e, fd_hit hi (decide_eq_true hc)]; rfl
    · rw [nI_1]
      exact k _ _ ⟨rfl, rfl, by rw [e, fd_miss hi (by simp [hc])]⟩
  · rintro ih p z' ⟨rfl, rfl, e⟩
    show gx (bX0_findArea_2 N ih b v (nI n) G z') _
    unfold bX0_findArea_2 qX0_findArea_34
    refine gx_gI h.o (by decide) rfl ?_
    rw [hn]
    refine gx_itet (nI_le (Nat.le_refl n) (by omega)) (gx_ret ⟨?_, rfl⟩)
    rw [e, fd_end]; rfl
end
section
variable {G : osG} {z : osS} {N b : Nat} {C : Nat → Nat → Int32}
theorem q_findPower (h : rX0 z b C) {v : Int32} {n : Nat} (hn : C 1 0 = nI n) (h16 : n ≤ 4) (hN : 16 < N) : qX0_findPower N b v G z = some (oi (fd (fun i => decide (C 9 i = v)) 0 n), z) := by
  refine gx_eq ?_
  unfold qX0_findPower qX0_findPower_2
  refine gx_loop n (fun i p z' => p = (b, v, nI i) ∧ z' = z ∧ fd (fun i => decide (C 9 i = v)) 0 n = fd (fun i => decide (C 9 i = v)) i (n - i)) ?_ ?_ N 0 _ z (Nat.zero_le n) (by omega) ⟨rfl, rfl, rfl⟩
  · rintro ih i p z' hi ⟨rfl, rfl, e⟩ k
    show gx (bX0_findPower_2 N ih b v (nI i) G z') _
    unfold bX0_findPower_2 qX0_findPower_33
    refine gx_gI h.o (by decide) rfl ?_
    rw [hn]
    refine gx_itef (nI_ge hi (by omega)) (gx_itef (ge4 (by omega)) ?_)
    refine gx_gR h.o (by decide) rfl ?_
    refine gx_aN h.a9 (by omega) (Nat.le_of_ble_eq_true rfl) ?_
    refine gx_ite (fun hc => ?_) (fun hc => ?_)
    · refine gx_ret ⟨?_, rfl⟩
      rw [e, fd_hit hi (decide_eq_true hc)]; rfl
    · rw [nI_1]
      exact k _ _ ⟨rfl, rfl, by rw [e, fd_miss hi (by simp [hc])]⟩
  · rintro ih p z' ⟨rfl, rfl, e⟩
    show gx (bX0_findPower_2 N ih b v (nI n) G z') _
    unfold bX0_findPower_2 qX0_findPower_33
    refine gx_gI h.o (by decide) rfl ?_
    rw [hn]
    refine gx_itet (nI_le (Nat.le_refl n) (by omega)) (gx_ret ⟨?_, rfl⟩)
    rw [e, fd_end]; rfl
/-- the areas to which a kind of units can pass from i -/
def bd (C : Nat → Nat → Int32) (i : Nat) (kd : Int32) : Int32 := if kd = 1 then C 8 i else C 7 i
theorem q_bordersOf (h : rX0 z b C) {i : Nat} {kd : Int32} (hi : i < 16) : qX0_bordersOf N b (nI i) kd G z = some (bd C i kd, z) := by
  refine gx_eq ?_
  unfold qX0_bordersOf qX0_bordersOf_10 qX0_bordersOf_32
  refine gx_itef (nI_pos (by omega)) (gx_itet (Int32.not_le.mp (ge16 hi)) ?_)
  refine gx_ite (fun hc => ?_) (fun hc => ?_)
  · refine gx_gR h.o (by decide) rfl (gx_aN h.a8 (by omega) (Nat.le_of_ble_eq_true rfl) (gx_ret ⟨?_, rfl⟩))
    unfold bd; rw [if_pos hc]
  · refine gx_gR h.o (by decide) rfl (gx_aN h.a7 (by omega) (Nat.le_of_ble_eq_true rfl) (gx_ret ⟨?_, rfl⟩))
    unfold bd; rw [if_neg hc]
theorem q_letsPass (h : rX0 z b C) {i j : Nat} {kd : Int32} (hi : i < 16) (hj : j < 16) : qX0_letsPass N b (nI i) (nI j) kd G z = some (b2i (bt (bd C i kd) j), z) := by
  refine gx_eq ?_
  unfold qX0_letsPass qX0_letsPass_20 qX0_letsPass_42 qX0_letsPass_58
  refine gx_itef (nI_pos (by omega)) (gx_itef (ge16 hi) (gx_itef (nI_pos (by omega)) (gx_itet (Int32.not_le.mp (ge16 hj)) ?_)))
  have key : ∀ (x : Int32), bd C i kd = x → gx (osite ((x &&& (osshl (1 : Int32) (nI j))) = 0) (osretZ (0 : Int32)) (osretZ (1 : Int32)) G z) (fun a z' => a = b2i (bt (bd C i kd) j) ∧ z' = z) := by
    rintro x rfl
    refine gx_ite (fun h1 => ?_) (fun h1 => ?_)
    · refine gx_retZ (Or.inl rfl) ⟨?_, rfl⟩
      rw [(and_sg (by omega)).mp h1]; rfl
    · refine gx_retZ (Or.inr rfl) ⟨?_, rfl⟩
      cases hb : bt (bd C i kd) j
      · exact absurd ((and_sg (by omega)).mpr hb) h1
      · rfl
  refine gx_ite (fun hc => ?_) (fun hc => ?_)
  · refine gx_gR h.o (by decide) rfl (gx_aN h.a8 (by omega) (Nat.le_of_ble_eq_true rfl) (key _ ?_))
    unfold bd; rw [if_pos hc]
  · refine gx_gR h.o (by decide) rfl (gx_aN h.a7 (by omega) (Nat.le_of_ble_eq_true rfl) (key _ ?_))
    unfold bd; rw [if_neg hc]
theorem q_hasBorder (h : rX0 z b C) {i j : Nat} (hi : i < 16) (hj : j < 16) : qX0_hasBorder N b (nI i) (nI j) G z = some (b2i (bt (C 7 i) j || bt (C 8 i) j), z) := by
  refine gx_eq ?_
  unfold qX0_hasBorder qX0_hasBorder_20 qX0_hasBorder_25
  refine gx_recvE h.o (by decide) (q_letsPass h hi hj) ?_
  rw [show bd C i 0 = C 7 i from rfl]
  refine gx_ite (fun h1 => ?_) (fun h1 => ?_)
  · refine gx_recvE h.o (by decide) (q_letsPass h hi hj) ?_
    rw [show bd C i 1 = C 8 i from rfl, b2i_0.mp h1]
    refine gx_ite (fun h2 => ?_) (fun h2 => ?_)
    · exact gx_retZ (Or.inl rfl) ⟨by rw [b2i_0.mp h2]; rfl, rfl⟩
    · refine gx_retZ (Or.inr rfl) ⟨?_, rfl⟩
      cases hb : bt (C 8 i) j
      · exact absurd (b2i_0.mpr hb) h2
      · rfl
  · refine gx_retZ (Or.inr rfl) ⟨?_, rfl⟩
    cases hb : bt (C 7 i) j
    · exact absurd (b2i_0.mpr hb) h1
    · rfl
theorem ctI_succ {P : Nat → Bool} {i : Nat} (hp : P i = true) : nI (fb_ct P i) + 1 = nI (fb_ct P (i + 1)) := by rw [nI_1, fb_ct_succ, if_pos hp]
theorem ctI_same {P : Nat → Bool} {i : Nat} (hp : ¬ P i = true) : nI (fb_ct P i) = nI (fb_ct P (i + 1)) := by rw [fb_ct_succ, if_neg hp, Nat.add_zero]
theorem q_countHomes (h : rX0 z b C) {v : Int32} (hN : 16 < N) : qX0_countHomes N b v G z = some (nI (fb_ct (fun i => decide (C 6 i = v)) 16), z) := by
  refine gx_eq ?_
  unfold qX0_countHomes qX0_countHomes_4
  refine gx_loop 16 (fun i p z' => p = (b, v, nI (fb_ct (fun i => decide (C 6 i = v)) i), nI i) ∧ z' = z) ?_ ?_ N 0 _ z (Nat.zero_le 16) (by omega) ⟨rfl, rfl⟩
  · rintro ih i p z' hi ⟨rfl, rfl⟩ k
    show gx (bX0_countHomes_4 N ih b v (nI (fb_ct (fun i => decide (C 6 i = v)) i)) (nI i) G z') _
    unfold bX0_countHomes_4 qX0_countHomes_23
    refine gx_itef (ge16 hi) (gx_gR h.o (by decide) rfl (gx_aN h.a6 (by omega) (Nat.le_of_ble_eq_true rfl) ?_))
    rw [nI_1 i]
    refine gx_ite (fun hc => ?_) (fun hc => ?_)
    · exact k _ _ ⟨by rw [ctI_succ (decide_eq_true hc)], rfl⟩
    · exact k _ _ ⟨by rw [← ctI_same (by simp [hc])], rfl⟩
  · rintro ih p z' ⟨rfl, rfl⟩
    show gx (bX0_countHomes_4 N ih b v (nI (fb_ct (fun i => decide (C 6 i = v)) 16)) (nI 16) G z') _
    unfold bX0_countHomes_4
    exact gx_itet le16 (gx_ret ⟨rfl, rfl⟩)
def kdOf (C : Nat → Nat → Int32) (i : Nat) : Int32 := if bt (C 3 0) i = true then 2 else if bt (C 2 0) i = true then 1 else 0
theorem q_kindOf (h : rX0 z b C) {i : Nat} (hi : i < 16) : qX0_kindOf N b (nI i) G z = some (kdOf C i, z) := by
  refine gx_eq ?_
  unfold qX0_kindOf qX0_kindOf_29 kdOf
  refine gx_gI h.o (by decide) rfl (gx_callE q_has ?_)
  rw [hsv_nI (by omega)]
  refine gx_ite (fun h1 => ?_) (fun h1 => ?_)
  · refine gx_gI h.o (by decide) rfl (gx_callE q_has ?_)
    rw [hsv_nI (by omega), b2i_0.mp h1]
    refine gx_ite (fun h2 => ?_) (fun h2 => ?_)
    · exact gx_ret ⟨by rw [b2i_0.mp h2]; rfl, rfl⟩
    · refine gx_ret ⟨?_, rfl⟩
      cases hb : bt (C 2 0) i
      · exact absurd (b2i_0.mpr hb) h2
      · rfl
  · refine gx_ret ⟨?_, rfl⟩
    cases hb : bt (C 3 0) i
    · exact absurd (b2i_0.mpr hb) h1
    · rfl
def suit (C : Nat → Nat → Int32) (i : Nat) (kd : Int32) : Bool := if kd = 1 then (bt (C 3 0) i || bt (C 2 0) i) else !bt (C 3 0) i
theorem q_suits (h : rX0 z b C) {i : Nat} {kd : Int32} (hi : i < 16) : qX0_suits N b (nI i) kd G z = some (b2i (suit C i kd), z) := by
  refine gx_eq ?_
  unfold qX0_suits qX0_suits_37 suit
  refine gx_ite (fun hc => ?_) (fun hc => ?_)
  · refine gx_gI h.o (by decide) rfl (gx_gI h.o (by decide) rfl (gx_callE q_has ?_))
    rw [hsv_nI (by omega), b_or]
    exact gx_retZ (b2i_01 _) ⟨by rw [if_pos hc], rfl⟩
  · refine gx_gI h.o (by decide) rfl (gx_callE q_has ?_)
    rw [hsv_nI (by omega)]
    refine gx_ite (fun h1 => ?_) (fun h1 => ?_)
    · exact gx_retZ (Or.inr rfl) ⟨by rw [if_neg hc, b2i_0.mp h1]; rfl, rfl⟩
    · refine gx_retZ (Or.inl rfl) ⟨?_, rfl⟩
      rw [if_neg hc]
      cases hb : bt (C 3 0) i
      · exact absurd (b2i_0.mpr hb) h1
      · rfl
/-- a set of areas and those to which one of them leads -/
def wid (f : Nat → Int32) (n : Nat) (s : Int32) : Int32 := osit (fun a g => if bt s a = true then g ||| f a else g) 0 n s
theorem wid_step (f : Nat → Int32) (n : Nat) (s : Int32) : osit (fun a g => if bt s a = true then g ||| f a else g) 0 (n + 1) s = (if bt s n = true then osit (fun a g => if bt s a = true then g ||| f a else g) 0 n s ||| f n else osit (fun a g => if bt s a = true then g ||| f a else g) 0 n s) := by
  rw [osit_last, Nat.zero_add]
/-- how many steps of w lead from the set s to the place j: at most k from t on -/
def dst (w : Int32 → Int32) (j : Nat) : Nat → Nat → Int32 → Int32
  | _, 0, _ => -1
  | t, k + 1, s => if bt s j = true then nI t else dst w j (t + 1) k (w s)
end
