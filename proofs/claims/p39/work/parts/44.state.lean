/-! a State's reads -/
section
variable {G : osG} {z : osS} {N s b : Nat} {S C : Nat → Nat → Int32}
def hu (S : Nat → Nat → Int32) (v : Int32) : Bool := !decide (en (S 6) 16 v = -1)
def hd' (S : Nat → Nat → Int32) (v : Int32) : Bool := !decide (en (S 8) 16 v = -1)
theorem q_hasUnit (h : rX5 z s S) {v : Int32} : qX5_hasUnit N s v G z = some (b2i (hu S v), z) := by
  refine gx_eq ?_
  unfold qX5_hasUnit qX5_hasUnit_17 hu
  refine gx_gR h.o (by decide) rfl (gx_callE (q_entry h.a6 (Nat.le_of_ble_eq_true rfl)) ?_)
  refine gx_ite (fun h1 => gx_retZ (Or.inl rfl) ⟨?_, rfl⟩) (fun h1 => gx_retZ (Or.inr rfl) ⟨?_, rfl⟩)
  · simp [h1, b2i]
  · simp [h1, b2i]
theorem q_hasDislodged (h : rX5 z s S) {v : Int32} : qX5_hasDislodged N s v G z = some (b2i (hd' S v), z) := by
  refine gx_eq ?_
  unfold qX5_hasDislodged qX5_hasDislodged_17 hd'
  refine gx_gR h.o (by decide) rfl (gx_callE (q_entry h.a8 (Nat.le_of_ble_eq_true rfl)) ?_)
  refine gx_ite (fun h1 => gx_retZ (Or.inl rfl) ⟨?_, rfl⟩) (fun h1 => gx_retZ (Or.inr rfl) ⟨?_, rfl⟩)
  · simp [h1, b2i]
  · simp [h1, b2i]
theorem hu_nI {i : Nat} (hi : i < 16) : hu S (nI i) = !decide (S 6 i = -1) := by unfold hu; rw [en_in hi (by omega)]
theorem hd_nI {i : Nat} (hi : i < 16) : hd' S (nI i) = !decide (S 8 i = -1) := by unfold hd'; rw [en_in hi (by omega)]
theorem q_countOf {a n : Nat} {f : Nat → Int32} {v : Int32} (h : z.1 a = some (.inl (0, (n, .inl f)))) (hn : n < 2 ^ 31) (hN : n < N) : qX5_countOf N a v G z = some (nI (fb_ct (fun i => decide (f i = v)) n), z) := by
  refine gx_eq ?_
  unfold qX5_countOf qX5_countOf_4
  refine gx_loop n (fun i p z' => p = (a, v, nI (fb_ct (fun i => decide (f i = v)) i), nI i) ∧ z' = z) ?_ ?_ N 0 _ z (Nat.zero_le n) (by omega) ⟨rfl, rfl⟩
  · rintro ih i p z' hi ⟨rfl, rfl⟩ k
    show gx (bX5_countOf_4 N ih a v (nI (fb_ct (fun i => decide (f i = v)) i)) (nI i) G z') _
    unfold bX5_countOf_4 qX5_countOf_20
    refine gx_len h (gx_itef (nI_ge hi hn) (gx_aN h hi hn ?_))
    rw [nI_1 i]
    refine gx_ite (fun hc => ?_) (fun hc => ?_)
    · exact k _ _ ⟨by rw [ctI_succ (decide_eq_true hc)], rfl⟩
    · exact k _ _ ⟨by rw [← ctI_same (by simp [hc])], rfl⟩
  · rintro ih p z' ⟨rfl, rfl⟩
    show gx (bX5_countOf_4 N ih a v (nI (fb_ct (fun i => decide (f i = v)) n)) (nI n) G z') _
    unfold bX5_countOf_4
    exact gx_len h (gx_itet (nI_le (Nat.le_refl n) hn) (gx_ret ⟨rfl, rfl⟩))
/-- how many places of the row f hold v -/
def ct (f : Nat → Int32) (v : Int32) : Nat := fb_ct (fun i => decide (f i = v)) 16
theorem q_countCenters (h : rX5 z s S) {v : Int32} (hN : 16 < N) : qX5_countCenters N s v G z = some (nI (ct (S 5) v), z) := by
  refine gx_eq ?_
  unfold qX5_countCenters
  exact gx_gR h.o (by decide) rfl (gx_callE (q_countOf h.a5 (Nat.le_of_ble_eq_true rfl) hN) (gx_ret ⟨rfl, rfl⟩))
theorem q_countUnits (h : rX5 z s S) {v : Int32} (hN : 16 < N) : qX5_countUnits N s v G z = some (nI (ct (S 6) v), z) := by
  refine gx_eq ?_
  unfold qX5_countUnits
  exact gx_gR h.o (by decide) rfl (gx_callE (q_countOf h.a6 (Nat.le_of_ble_eq_true rfl) hN) (gx_ret ⟨rfl, rfl⟩))
theorem ct_le (f : Nat → Int32) (v : Int32) : ct f v ≤ 16 := fb_ct_le _ 16
/-- how many units there are -/
def nu (S : Nat → Nat → Int32) : Nat := 16 - ct (S 6) (-1)
theorem sub16 : ∀ k, k ≤ 16 → (16 : Int32) - nI k = nI (16 - k) := by decide +kernel
theorem q_countAllUnits (h : rX5 z s S) (hN : 16 < N) : qX5_countAllUnits N s G z = some (nI (nu S), z) := by
  refine gx_eq ?_
  unfold qX5_countAllUnits
  exact gx_gR h.o (by decide) rfl (gx_callE (q_countOf h.a6 (Nat.le_of_ble_eq_true rfl) hN) (gx_ret ⟨sub16 _ (ct_le _ _), rfl⟩))
theorem nu_eq : nu S = fb_ct (fun i => !decide (S 6 i = -1)) 16 := by
  have := fb_ct_not (fun i => decide (S 6 i = -1)) 16
  unfold nu ct
  omega
/-- the homes of v that belong to it and have no unit -/
def fhP (C S : Nat → Nat → Int32) (v : Int32) (i : Nat) : Bool := decide (C 6 i = v) && decide (S 5 i = v) && decide (S 6 i = -1)
/-- a set given by a rule, of the areas below n -/
def bset (P : Nat → Bool) (n : Nat) : Int32 := osit (fun i g => if P i = true then g ||| sg i else g) 0 n 0
theorem bset_succ (P : Nat → Bool) (n : Nat) : bset P (n + 1) = if P n = true then bset P n ||| sg n else bset P n := by
  unfold bset
  rw [osit_last, Nat.zero_add]
theorem bset_0 (P : Nat → Bool) : bset P 0 = 0 := rfl
theorem b_bset (P : Nat → Bool) : ∀ {n : Nat}, n ≤ 32 → ∀ {j : Nat}, j < 32 → bt (bset P n) j = (decide (j < n) && P j)
  | 0, _, j, _ => by rw [bset_0, b_0]; simp
  | n + 1, hn, j, hj => by
    rw [bset_succ]
    have ih := b_bset P (n := n) (by omega) hj
    by_cases hp : P n = true
    · rw [if_pos hp, b_or, ih, b_sg (by omega) hj]
      by_cases e : j = n
      · subst e; simp [hp]
      · have : decide (j < n + 1) = decide (j < n) := by simp; omega
        rw [this]; simp [e]
    · rw [if_neg hp, ih]
      by_cases e : j = n
      · subst e; simp [hp]
      · have : decide (j < n + 1) = decide (j < n) := by simp; omega
        rw [this]
theorem osshl1 (i : Nat) : osshl (1 : Int32) (nI i) = sg i := rfl
theorem q_freeHomes (h : rX5 z s S) (hb : rX0 z b C) {v : Int32} (hN : 16 < N) : qX5_freeHomes N s b v G z = some (bset (fhP C S v) 16, z) := by
  refine gx_eq ?_
  unfold qX5_freeHomes qX5_freeHomes_5
  refine gx_loop 16 (fun i p z' => p = (s, b, v, bset (fhP C S v) i, nI i) ∧ z' = z) ?_ ?_ N 0 _ z (Nat.zero_le 16) (by omega) ⟨rfl, rfl⟩
  · rintro ih i p z' hi ⟨rfl, rfl⟩ k
    show gx (bX5_freeHomes_5 N ih s b v (bset (fhP C S v) i) (nI i) G z') _
    unfold bX5_freeHomes_5 qX5_freeHomes_52
    rw [nI_1 i, osshl1]
    refine gx_itef (ge16 hi) (gx_gR hb.o (by decide) rfl (gx_aN hb.a6 hi (Nat.le_of_ble_eq_true rfl) ?_))
    refine gx_ite (fun h1 => ?_) (fun h1 => k _ _ ⟨by rw [bset_succ, if_neg (by simp [fhP, h1])], rfl⟩)
    refine gx_gR h.o (by decide) rfl (gx_aN h.a5 hi (Nat.le_of_ble_eq_true rfl) ?_)
    refine gx_ite (fun h2 => ?_) (fun h2 => k _ _ ⟨by rw [bset_succ, if_neg (by simp [fhP, h2])], rfl⟩)
    refine gx_gR h.o (by decide) rfl (gx_aN h.a6 hi (Nat.le_of_ble_eq_true rfl) ?_)
    refine gx_ite (fun h3 => k _ _ ⟨by rw [bset_succ, if_pos (by simp [fhP, h1, h2, h3])], rfl⟩) (fun h3 => k _ _ ⟨by rw [bset_succ, if_neg (by simp [fhP, h3])], rfl⟩)
  · rintro ih p z' ⟨rfl, rfl⟩
    show gx (bX5_freeHomes_5 N ih s b v (bset (fhP C S v) 16) (nI 16) G z') _
    unfold bX5_freeHomes_5
    exact gx_itet le16 (gx_ret ⟨rfl, rfl⟩)
theorem q_hasArmy (h : rX5 z s S) {v : Int32} : qX5_hasArmy N s v G z = some (b2i (decide (en (S 7) 16 v = 0)), z) := by
  refine gx_eq ?_
  unfold qX5_hasArmy qX5_hasArmy_16
  refine gx_gR h.o (by decide) rfl (gx_callE (q_entry h.a7 (Nat.le_of_ble_eq_true rfl)) ?_)
  refine gx_ite (fun h1 => gx_retZ (Or.inr rfl) ⟨?_, rfl⟩) (fun h1 => gx_retZ (Or.inl rfl) ⟨?_, rfl⟩)
  · simp [h1, b2i]
  · simp [h1, b2i]
/-- whether the unit at i can go to j -/
def cg (C S : Nat → Nat → Int32) (i j : Nat) : Bool := !decide (S 7 i = -1) && bt (bd C i (S 7 i)) j
theorem q_canGo (h : rX5 z s S) (hb : rX0 z b C) {i j : Nat} (hi : i < 16) (hj : j < 16) : qX5_canGo N s b (nI i) (nI j) G z = some (b2i (cg C S i j), z) := by
  refine gx_eq ?_
  unfold qX5_canGo qX5_canGo_31 qX5_canGo_32 cg
  refine gx_gR h.o (by decide) rfl (gx_callE (q_entry h.a7 (Nat.le_of_ble_eq_true rfl)) ?_)
  rw [en_in hi (by omega)]
  refine gx_ite (fun h1 => gx_retZ (Or.inl rfl) ⟨?_, rfl⟩) (fun h1 => gx_recvE hb.o (by decide) (q_letsPass hb hi hj) (gx_ite (fun h2 => gx_retZ (Or.inl rfl) ⟨?_, rfl⟩) (fun h2 => gx_retZ (Or.inr rfl) ⟨?_, rfl⟩)))
  · simp [h1, b2i]
  · rw [b2i_0.mp h2]; simp [b2i]
  · rw [b2i_n0 h2]; simp [h1, b2i]
/-- two coasts, not the same -/
def jc (C : Nat → Nat → Int32) (i j : Nat) : Bool := !decide (i = j) && bt (C 2 0) i && bt (C 2 0) j
theorem q_joinsCoasts (hb : rX0 z b C) {i j : Nat} (hi : i < 16) (hj : j < 16) : qX5_joinsCoasts N b (nI i) (nI j) G z = some (b2i (jc C i j), z) := by
  refine gx_eq ?_
  unfold qX5_joinsCoasts qX5_joinsCoasts_31 qX5_joinsCoasts_32 jc
  refine gx_ite (fun h1 => gx_retZ (Or.inl rfl) ⟨?_, rfl⟩) (fun h1 => gx_gI hb.o (by decide) rfl (gx_callE q_has (gx_ite (fun h2 => gx_retZ (Or.inl rfl) ⟨?_, rfl⟩) (fun h2 => gx_gI hb.o (by decide) rfl (gx_callE q_has (gx_ite (fun h3 => gx_retZ (Or.inl rfl) ⟨?_, rfl⟩) (fun h3 => gx_retZ (Or.inr rfl) ⟨?_, rfl⟩)))))))
  · have : i = j := (nI_eq (by omega) (by omega)).mp h1
    simp [this, b2i]
  · rw [hsv_nI (by omega)] at h2
    rw [b2i_0.mp h2]; simp [b2i]
  · rw [hsv_nI (by omega)] at h3
    rw [b2i_0.mp h3]; simp [b2i]
  · rw [hsv_nI (by omega)] at h2 h3
    have : ¬ i = j := fun e => h1 (by rw [e])
    rw [b2i_n0 h2, b2i_n0 h3]; simp [this, b2i]
end
