theorem pcN_ct : ∀ (n k : Nat), pcN n k = fb_ct (fun i => k.testBit i) n
  | 0, k => rfl
  | n + 1, k => by
    rw [show n + 1 = 1 + n by omega, fb_ct_split]
    have h1 : fb_ct (fun i => k.testBit i) 1 = k % 2 := by
      rw [show (1 : Nat) = 0 + 1 from rfl, fb_ct_succ]
      show 0 + _ = _
      rw [Nat.zero_add, Nat.testBit_zero]
      have : k % 2 = 0 ∨ k % 2 = 1 := by omega
      rcases this with h | h <;> simp [h]
    rw [h1, show 1 + n = n + 1 by omega]
    show k % 2 + pcN n (k / 2) = _
    rw [pcN_ct n (k / 2)]
    congr 1
    refine fb_ct_cong (fun i _ => ?_)
    rw [show 1 + i = i + 1 by omega, Nat.testBit_succ]
theorem bt_tb (x : Int32) (i : Nat) : bt x i = x.toBitVec.toNat.testBit i := rfl
theorem bt_small {x : Int32} (h : ∀ i, 16 ≤ i → i < 32 → bt x i = false) : x.toBitVec.toNat < 65536 := by
  refine Nat.lt_pow_two_of_testBit (n := 16) _ (fun i hi => ?_)
  by_cases h32 : i < 32
  · exact h i hi h32
  · rw [← bt_tb, b_big (by omega)]
theorem q_bitCount {G : osG} {z : osS} {N : Nat} {x : Int32} (h : ∀ i, 16 ≤ i → i < 32 → bt x i = false) : qJ6_bitCount_0f7a4 N x G z = some (nI (fb_ct (bt x) 16), z) := by
  have e : x = nI x.toBitVec.toNat := Int32.toBitVec_inj.mp (by show _ = BitVec.ofNat 32 _; simp)
  have h1 : pcI x = nI (fb_ct (bt x) 16) := by
    have h2 := pc_all (bt_small h)
    rw [← e, pcN_ct] at h2
    exact h2
  rw [← h1]
  rfl
theorem bset_big {P : Nat → Bool} {n : Nat} (hn : n ≤ 16) : ∀ i, 16 ≤ i → i < 32 → bt (bset P n) i = false := fun i h1 h2 => by
  rw [b_bset P (by omega) h2]
  simp; omega
theorem ct_bset {P : Nat → Bool} : fb_ct (bt (bset P 16)) 16 = fb_ct P 16 := fb_ct_cong (fun k hk => by rw [b_bset P (by omega) (by omega)]; simp [hk])
section
variable {G : osG} {z : osS} {N s b : Nat} {S C : Nat → Nat → Int32}
/-- centers less units; what may be built, or must be removed -/
def bld (C S : Nat → Nat → Int32) (v : Int32) : Int32 := if ct (S 6) v < ct (S 5) v then nI (min (ct (S 5) v - ct (S 6) v) (min (fb_ct (fhP C S v) 16) (12 - nu S))) else nI (ct (S 5) v) - nI (ct (S 6) v)
theorem nI_sub {a b : Nat} (h : b ≤ a) : nI a - nI b = nI (a - b) := by
  have : nI a = nI (a - b) + nI b := by rw [nI_add]; congr 1; omega
  rw [this]
  apply Int32.toBitVec_inj.mp
  rw [Int32.toBitVec_sub, Int32.toBitVec_add]
  exact BitVec.add_sub_cancel _ _
theorem subs16 : ∀ a, a ≤ 16 → ∀ b, b ≤ 16 → (0 < nI a - nI b ↔ b < a) := by decide +kernel
theorem osmin_nI {a b : Nat} (ha : a < 2 ^ 31) (hb : b < 2 ^ 31) : osmin (nI a) (nI b) = nI (min a b) := by
  unfold osmin
  by_cases h : b < a
  · rw [if_pos ((nI_ltI hb ha).mpr h), Nat.min_eq_right (by omega)]
  · rw [if_neg (fun q => h ((nI_ltI hb ha).mp q)), Nat.min_eq_left (by omega)]
theorem osmax_nI {a b : Nat} (ha : a < 2 ^ 31) (hb : b < 2 ^ 31) : osmax (nI a) (nI b) = nI (max a b) := by
  unfold osmax
  by_cases h : a < b
  · rw [if_pos ((nI_ltI ha hb).mpr h), Nat.max_eq_right (by omega)]
  · rw [if_neg (fun q => h ((nI_ltI ha hb).mp q)), Nat.max_eq_left (by omega)]
theorem sub12 : ∀ k, k ≤ 12 → (12 : Int32) - nI k = nI (12 - k) := by decide +kernel
theorem q_countBuilds (h : rX5 z s S) (hb : rX0 z b C) {v : Int32} (hu12 : nu S ≤ 12) (hN : 16 < N) : qX5_countBuilds N s b v G z = some (bld C S v, z) := by
  refine gx_eq ?_
  unfold qX5_countBuilds bld
  refine gx_recvE h.o (by decide) (q_countCenters h hN) (gx_recvE h.o (by decide) (q_countUnits h hN) ?_)
  have h16 := subs16 _ (ct_le (S 5) v) _ (ct_le (S 6) v)
  refine gx_ite (fun h1 => ?_) (fun h1 => ?_)
  · have h2 := h16.mp h1
    rw [if_pos h2]
    refine gx_recvE h.o (by decide) (q_freeHomes h hb hN) (gx_callE (q_bitCount (bset_big (Nat.le_refl 16))) (gx_recvE h.o (by decide) (q_countAllUnits h hN) ?_))
    refine gx_ret ⟨?_, rfl⟩
    have h3 := ct_le (S 5) v
    have h4 : fb_ct (fhP C S v) 16 ≤ 16 := fb_ct_le _ 16
    rw [ct_bset, sub12 _ hu12, osmin_nI (by omega) (by omega), nI_sub (by omega), osmin_nI (by omega) (by omega)]
  · rw [if_neg (fun q => h1 (h16.mpr q))]
    exact gx_ret ⟨rfl, rfl⟩
theorem q_needsRemoval (h : rX5 z s S) {v : Int32} (hN : 16 < N) : qX5_needsRemoval N s v G z = some (b2i (decide (ct (S 5) v < ct (S 6) v)), z) := by
  refine gx_eq ?_
  unfold qX5_needsRemoval qX5_needsRemoval_18
  have h3 := ct_le (S 5) v
  have h4 := ct_le (S 6) v
  refine gx_recvE h.o (by decide) (q_countCenters h hN) (gx_recvE h.o (by decide) (q_countUnits h hN) ?_)
  refine gx_ite (fun h1 => gx_retZ (Or.inl rfl) ⟨?_, rfl⟩) (fun h1 => gx_retZ (Or.inr rfl) ⟨?_, rfl⟩)
  · have := (nI_leI (by omega) (by omega)).mp h1
    rw [decide_eq_false (by omega)]; rfl
  · have : ¬ ct (S 6) v ≤ ct (S 5) v := fun q => h1 ((nI_leI (by omega) (by omega)).mpr q)
    rw [decide_eq_true (by omega)]; rfl
def aMv (C S : Nat → Nat → Int32) (i j : Nat) : Bool := cg C S i j || (decide (S 7 i = 0) && jc C i j)
theorem q_allowsMove (h : rX5 z s S) (hb : rX0 z b C) {i j : Nat} (hi : i < 16) (hj : j < 16) : qX5_allowsMove N s b (nI i) (nI j) G z = some (b2i (aMv C S i j), z) := by
  refine gx_eq ?_
  (repeat (first | unfold qX5_allowsMove | unfold qX5_allowsMove_32 | unfold qX5_allowsMove_27 | unfold qX5_allowsMove_31))
  unfold aMv
  refine gx_recvE h.o (by decide) (q_canGo h hb hi hj) (gx_ite (fun h1 => gx_recvE h.o (by decide) (q_hasArmy h) ?_) (fun h1 => gx_retZ (Or.inr rfl) ⟨by rw [b2i_n0 h1]; rfl, rfl⟩))
  rw [en_in hi (by omega), b2i_0.mp h1]
  refine gx_ite (fun h2 => gx_retZ (Or.inl rfl) ⟨by rw [b2i_0.mp h2]; rfl, rfl⟩) (fun h2 => gx_callE (q_joinsCoasts hb hi hj) (gx_ite (fun h3 => gx_retZ (Or.inl rfl) ⟨by rw [b2i_0.mp h3]; simp [b2i], rfl⟩) (fun h3 => gx_retZ (Or.inr rfl) ⟨by rw [b2i_n0 h2, b2i_n0 h3]; rfl, rfl⟩)))
def aUs (C S : Nat → Nat → Int32) (i c : Nat) : Bool := !decide (S 6 c = -1) && cg C S i c
theorem q_allowsUnitSupport (h : rX5 z s S) (hb : rX0 z b C) {i j : Nat} (hi : i < 16) (hj : j < 16) : qX5_allowsUnitSupport N s b (nI i) (nI j) G z = some (b2i (aUs C S i j), z) := by
  refine gx_eq ?_
  unfold qX5_allowsUnitSupport qX5_allowsUnitSupport_22 qX5_allowsUnitSupport_23 aUs
  refine gx_recvE h.o (by decide) (q_hasUnit h) ?_
  rw [hu_nI hj]
  refine gx_ite (fun h1 => gx_retZ (Or.inl rfl) ⟨by rw [b2i_0.mp h1]; rfl, rfl⟩) (fun h1 => gx_recvE h.o (by decide) (q_canGo h hb hi hj) (gx_ite (fun h2 => gx_retZ (Or.inl rfl) ⟨by rw [b2i_0.mp h2]; simp [b2i], rfl⟩) (fun h2 => gx_retZ (Or.inr rfl) ⟨by rw [b2i_n0 h1, b2i_n0 h2]; rfl, rfl⟩)))
def aMs (C S : Nat → Nat → Int32) (i c j : Nat) : Bool := !decide (S 6 c = -1) && (!decide (c = i) && (!decide (c = j) && cg C S i j))
theorem q_allowsMoveSupport (h : rX5 z s S) (hb : rX0 z b C) {i c j : Nat} (hi : i < 16) (hc : c < 16) (hj : j < 16) : qX5_allowsMoveSupport N s b (nI i) (nI c) (nI j) G z = some (b2i (aMs C S i c j), z) := by
  refine gx_eq ?_
  unfold qX5_allowsMoveSupport qX5_allowsMoveSupport_34 qX5_allowsMoveSupport_35 aMs
  refine gx_recvE h.o (by decide) (q_hasUnit h) ?_
  rw [hu_nI hc]
  refine gx_ite (fun h1 => gx_retZ (Or.inl rfl) ⟨by rw [b2i_0.mp h1]; rfl, rfl⟩) (fun h1 => gx_ite (fun h2 => gx_retZ (Or.inl rfl) ⟨?_, rfl⟩) (fun h2 => gx_ite (fun h3 => gx_retZ (Or.inl rfl) ⟨?_, rfl⟩) (fun h3 => gx_recvE h.o (by decide) (q_canGo h hb hi hj) (gx_ite (fun h4 => gx_retZ (Or.inl rfl) ⟨?_, rfl⟩) (fun h4 => gx_retZ (Or.inr rfl) ⟨?_, rfl⟩)))))
  · have : c = i := (nI_eq (by omega) (by omega)).mp h2
    simp [this, b2i]
  · have : c = j := (nI_eq (by omega) (by omega)).mp h3
    simp [this, b2i]
  · rw [b2i_0.mp h4]; simp [b2i]
  · have e2 : ¬ c = i := fun e => h2 (by rw [e])
    have e3 : ¬ c = j := fun e => h3 (by rw [e])
    rw [b2i_n0 h1, b2i_n0 h4]; simp [e2, e3, b2i]
def aCv (C S : Nat → Nat → Int32) (i c j : Nat) : Bool := decide (S 7 i = 1) && (bt (C 3 0) i && (decide (S 7 c = 0) && jc C c j))
theorem q_allowsConvoy (h : rX5 z s S) (hb : rX0 z b C) {i c j : Nat} (hi : i < 16) (hc : c < 16) (hj : j < 16) : qX5_allowsConvoy N s b (nI i) (nI c) (nI j) G z = some (b2i (aCv C S i c j), z) := by
  refine gx_eq ?_
  (repeat (first | unfold qX5_allowsConvoy | unfold qX5_allowsConvoy_46 | unfold qX5_allowsConvoy_45))
  unfold aCv
  refine gx_gR h.o (by decide) rfl (gx_callE (q_entry h.a7 (Nat.le_of_ble_eq_true rfl)) ?_)
  rw [en_in hi (by omega)]
  refine gx_ite (fun h1 => gx_gI hb.o (by decide) rfl (gx_callE q_has ?_)) (fun h1 => gx_retZ (Or.inl rfl) ⟨by simp [h1, b2i], rfl⟩)
  rw [hsv_nI (by omega)]
  refine gx_ite (fun h2 => gx_retZ (Or.inl rfl) ⟨by rw [b2i_0.mp h2]; simp [b2i], rfl⟩) (fun h2 => gx_recvE h.o (by decide) (q_hasArmy h) ?_)
  rw [en_in hc (by omega)]
  refine gx_ite (fun h3 => gx_retZ (Or.inl rfl) ⟨by rw [b2i_0.mp h3]; simp [b2i], rfl⟩) (fun h3 => gx_callE (q_joinsCoasts hb hc hj) (gx_ite (fun h4 => gx_retZ (Or.inl rfl) ⟨by rw [b2i_0.mp h4]; simp [b2i], rfl⟩) (fun h4 => gx_retZ (Or.inr rfl) ⟨by rw [b2i_n0 h2, b2i_n0 h3, b2i_n0 h4]; simp [h1, b2i], rfl⟩)))
end
