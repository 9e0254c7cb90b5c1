/-! a text's tokens (by program) -/
def scn (p : Nat → Bool) (L : Nat) : Nat → Nat → Nat
  | 0, i => i
  | k + 1, i => if decide (i < L) && p i then scn p L k (i + 1) else i
def sc (p : Nat → Bool) (L i : Nat) : Nat := scn p L (L - i) i
section
variable {p : Nat → Bool} {L : Nat}
theorem sc_go {i : Nat} (h : i < L) (hp : p i = true) : sc p L i = sc p L (i + 1) := by
  unfold sc
  rw [show L - i = (L - (i + 1)) + 1 by omega, scn, hp, decide_eq_true h]; rfl
theorem sc_no {i : Nat} (h : i < L → p i = false) : sc p L i = i := by
  unfold sc
  cases e : L - i with
  | zero => rfl
  | succ k =>
    have hl : i < L := by omega
    rw [scn, h hl, Bool.and_false]; rfl
theorem sc_all : ∀ {k i : Nat}, L - i = k → i ≤ L → i ≤ sc p L i ∧ sc p L i ≤ L ∧ (sc p L i < L → p (sc p L i) = false) ∧ ∀ j, i ≤ j → j < sc p L i → p j = true
  | 0, i, e, h => by
    have : i = L := by omega
    rw [sc_no (fun q => by omega)]
    exact ⟨Nat.le_refl _, h, fun q => by omega, fun j a b => by omega⟩
  | k + 1, i, e, h => by
    cases hp : p i with
    | false => rw [sc_no (fun _ => hp)]; exact ⟨Nat.le_refl _, h, fun _ => hp, fun j a b => by omega⟩
    | true =>
      have hl : i < L := by omega
      rw [sc_go hl hp]
      obtain ⟨a, b, c, d⟩ := sc_all (k := k) (i := i + 1) (by omega) (by omega)
      exact ⟨by omega, b, c, fun j h1 h2 => by
        by_cases q : j = i
        · rw [q]; exact hp
        · exact d j (by omega) h2⟩
theorem sc_again {i : Nat} (h : i ≤ L) : sc p L (sc p L i) = sc p L i := sc_no (fun q => (sc_all rfl h).2.2.1 q)
end
def isSp (w : Nat) : Bool := decide (w = 32) || decide (w = 10)
/-- the token that stands at i: where it starts, where its word ends, its letters, its value, its kind, what stands behind it -/
def tS (b : Nat → Nat) (L i : Nat) : Nat := sc (fun k => isSp (b k)) L i
def tW (b : Nat → Nat) (L i : Nat) : Nat := sc (fun k => isLt (b k)) L (tS b L i)
def tN (b : Nat → Nat) (L i : Nat) : Nat := tW b L i - tS b L i
def pkn (b : Nat → Nat) (s : Nat) : Nat → Nat
  | 0 => 0
  | k + 1 => 32 * pkn b s k + (b (s + k) - 96)
def tV (b : Nat → Nat) (L i : Nat) : Nat := if tN b L i ≤ 7 then pkn b (tS b L i) (tN b L i) else 0
def tK (b : Nat → Nat) (L i : Nat) : Nat := if 0 < tN b L i then 1 else if L ≤ tS b L i then 0 else if b (tS b L i) = 59 then 2 else 3
def tX (b : Nat → Nat) (L i : Nat) : Nat := if 0 < tN b L i then tW b L i else if L ≤ tS b L i then tS b L i else tS b L i + 1
section
variable {b : Nat → Nat} {L i : Nat}
theorem tS_le (h : i ≤ L) : i ≤ tS b L i ∧ tS b L i ≤ L := ⟨(sc_all rfl h).1, (sc_all rfl h).2.1⟩
theorem tS_again (h : i ≤ L) : tS b L (tS b L i) = tS b L i := sc_again h
theorem tW_le (h : i ≤ L) : tS b L i ≤ tW b L i ∧ tW b L i ≤ L := ⟨(sc_all rfl (tS_le h).2).1, (sc_all rfl (tS_le h).2).2.1⟩
theorem tX_le (h : i ≤ L) : i ≤ tX b L i ∧ tX b L i ≤ L := by
  obtain ⟨a1, a2⟩ := tS_le (b := b) h
  obtain ⟨b1, b2⟩ := tW_le (b := b) h
  unfold tX
  by_cases q : 0 < tN b L i
  · rw [if_pos q]; omega
  · rw [if_neg q]
    by_cases q2 : L ≤ tS b L i
    · rw [if_pos q2]; omega
    · rw [if_neg q2]; omega
theorem tX_w (h : i ≤ L) (q : 0 < tN b L i) : tX b L i = tW b L i ∧ i < tX b L i := by
  obtain ⟨a1, a2⟩ := tS_le (b := b) h
  have e : tX b L i = tW b L i := by unfold tX; rw [if_pos q]
  refine ⟨e, ?_⟩
  unfold tN at q
  omega
theorem tX_s (h : i ≤ L) (q : tK b L i = 2) : tX b L i = tS b L i + 1 ∧ i < tX b L i ∧ tS b L i < L ∧ b (tS b L i) = 59 ∧ tN b L i = 0 := by
  obtain ⟨a1, a2⟩ := tS_le (b := b) h
  unfold tK at q
  by_cases q1 : 0 < tN b L i
  · rw [if_pos q1] at q; omega
  · rw [if_neg q1] at q
    by_cases q2 : L ≤ tS b L i
    · rw [if_pos q2] at q; omega
    · rw [if_neg q2] at q
      by_cases q3 : b (tS b L i) = 59
      · have e : tX b L i = tS b L i + 1 := by unfold tX; rw [if_neg q1, if_neg q2]
        exact ⟨e, by omega, by omega, q3, by omega⟩
      · rw [if_neg q3] at q; omega
theorem t_lt (h : i ≤ L) {k : Nat} (hk : k < tN b L i) : isLt (b (tS b L i + k)) = true := by
  have := (sc_all (p := fun k => isLt (b k)) rfl (tS_le (b := b) h).2).2.2.2 (tS b L i + k) (by omega)
  refine this ?_
  show _ < tW b L i
  unfold tN at hk
  omega
theorem t_no (h : i ≤ L) (q : tN b L i = 0) (hs : tS b L i < L) : isLt (b (tS b L i)) = false := by
  have e : tW b L i = tS b L i := by have := (tW_le (b := b) h).1; unfold tN at q; omega
  have := (sc_all (p := fun k => isLt (b k)) rfl (tS_le (b := b) h).2).2.2.1
  have e2 : sc (fun k => isLt (b k)) L (tS b L i) = tS b L i := e
  rw [e2] at this
  exact this hs
theorem t_yes (h : i ≤ L) (hs : tS b L i < L) (hl : isLt (b (tS b L i)) = true) : 0 < tN b L i := by
  rcases Nat.eq_zero_or_pos (tN b L i) with q | q
  · rw [t_no h q hs] at hl; cases hl
  · exact q
theorem pkn_lt {s : Nat} : ∀ {k : Nat}, (∀ j, j < k → isLt (b (s + j)) = true) → pkn b s k < 2 ^ (5 * k) ∧ (0 < k → 2 ^ (5 * (k - 1)) ≤ pkn b s k)
  | 0, _ => ⟨by show 0 < 2 ^ 0; decide, fun q => absurd q (Nat.lt_irrefl 0)⟩
  | k + 1, h => by
    obtain ⟨h1, h2⟩ := pkn_lt (fun j hj => h j (Nat.lt_succ_of_lt hj))
    have hl := h k (Nat.lt_succ_self k)
    unfold isLt at hl
    simp only [Bool.and_eq_true, decide_eq_true_eq] at hl
    have e2 : 2 ^ (5 * (k + 1)) = 32 * 2 ^ (5 * k) := by rw [show 5 * (k + 1) = 5 * k + 5 by omega, Nat.pow_add]; omega
    rw [pkn, e2]
    refine ⟨by omega, fun _ => ?_⟩
    show 2 ^ (5 * k) ≤ _
    rcases Nat.eq_zero_or_pos k with q | q
    · subst q; show 1 ≤ _; omega
    · have := h2 q
      have e3 : 2 ^ (5 * k) = 32 * 2 ^ (5 * (k - 1)) := by
        rw [show 5 * k = 5 * (k - 1) + 5 by omega, Nat.pow_add]; omega
      omega
end
/-- the keywords' values -/
def kwN (j : Nat) : Nat := [394692, 3638900, 19617, 106385586, 83431602, 51641, 6689972, 17292466, 277892, 655, 21123055188, 116873721, 4616947140, 2794884, 609664709].getD j 0
theorem kw_pk : ∀ j, j < 15 → osPk[j]? = some (lN (kwN j)) ∧ 0 < kwN j ∧ kwN j < 2 ^ 35 := by decide +kernel
theorem kw_inj : ∀ i, i < 15 → ∀ j, j < 15 → kwN i = kwN j → i = j := by decide +kernel
theorem kwL0 : (394692 : Int64) = lN (kwN 0) := by decide +kernel
theorem kwL1 : (3638900 : Int64) = lN (kwN 1) := by decide +kernel
theorem kwL2 : (19617 : Int64) = lN (kwN 2) := by decide +kernel
theorem kwL3 : (106385586 : Int64) = lN (kwN 3) := by decide +kernel
theorem kwL4 : (83431602 : Int64) = lN (kwN 4) := by decide +kernel
theorem kwL5 : (51641 : Int64) = lN (kwN 5) := by decide +kernel
theorem kwL6 : (6689972 : Int64) = lN (kwN 6) := by decide +kernel
theorem kwL7 : (17292466 : Int64) = lN (kwN 7) := by decide +kernel
theorem kwL8 : (277892 : Int64) = lN (kwN 8) := by decide +kernel
theorem kwL9 : (655 : Int64) = lN (kwN 9) := by decide +kernel
theorem kwL10 : (21123055188 : Int64) = lN (kwN 10) := by decide +kernel
theorem kwL11 : (116873721 : Int64) = lN (kwN 11) := by decide +kernel
theorem kwL12 : (4616947140 : Int64) = lN (kwN 12) := by decide +kernel
theorem kwL13 : (2794884 : Int64) = lN (kwN 13) := by decide +kernel
theorem kwL14 : (609664709 : Int64) = lN (kwN 14) := by decide +kernel
def isKw (v : Nat) : Bool := exn (fun j => decide (kwN j = v)) 15
def kwb (b : Nat → Nat) (L i j : Nat) : Bool := decide (0 < tN b L i) && decide (tV b L i = kwN j)
section
variable {b : Nat → Nat} {L i : Nat}
/-- eight letters kept, or the value: a keyword is told apart by either -/
theorem pk8_kw (h : i ≤ L) (hn : 0 < tN b L i) {w : Nat} (h0 : 0 < w) (h35 : w < 2 ^ 35) : pkn b (tS b L i) (min (tN b L i) 8) = w ↔ tV b L i = w := by
  unfold tV
  by_cases q : tN b L i ≤ 7
  · rw [if_pos q, Nat.min_eq_left (by omega)]
  · rw [if_neg q, Nat.min_eq_right (by omega)]
    have := (pkn_lt (b := b) (s := tS b L i) (k := 8) (fun j hj => t_lt h (by omega))).2 (by omega)
    have e : 2 ^ (5 * (8 - 1)) = 2 ^ 35 := rfl
    rw [e] at this
    omega
theorem pk8_lt (h : i ≤ L) : pkn b (tS b L i) (min (tN b L i) 8) < 2 ^ 40 := by
  have h1 := (pkn_lt (b := b) (s := tS b L i) (k := min (tN b L i) 8) (fun j hj => t_lt h (by omega))).1
  exact Nat.lt_of_lt_of_le h1 (Nat.pow_le_pow_right (by omega) (by omega))
theorem tV_lt (h : i ≤ L) : tV b L i < 2 ^ 35 := by
  unfold tV
  by_cases q : tN b L i ≤ 7
  · rw [if_pos q]
    exact Nat.lt_of_lt_of_le (pkn_lt (b := b) (s := tS b L i) (k := tN b L i) (fun j hj => t_lt h (by omega))).1 (Nat.pow_le_pow_right (by omega) (by omega))
  · rw [if_neg q]; decide
theorem tV_5 (h : i ≤ L) (h5 : tN b L i ≤ 5) (h1 : 0 < tN b L i) : tV b L i < 2 ^ 25 ∧ 0 < tV b L i ∧ pkn b (tS b L i) (min (tN b L i) 8) = tV b L i := by
  obtain ⟨a1, a2⟩ := pkn_lt (b := b) (s := tS b L i) (k := tN b L i) (fun j hj => t_lt h (by omega))
  unfold tV
  rw [if_pos (by omega), Nat.min_eq_left (by omega)]
  refine ⟨Nat.lt_of_lt_of_le a1 (Nat.pow_le_pow_right (by omega) (by omega)), ?_, rfl⟩
  exact Nat.lt_of_lt_of_le (Nat.two_pow_pos _) (a2 h1)
theorem kwb_n {j : Nat} (h : tN b L i = 0) : kwb b L i j = false := by unfold kwb; rw [h]; rfl
theorem kwb_v {j : Nat} (h : 0 < tN b L i) : kwb b L i j = decide (tV b L i = kwN j) := by unfold kwb; rw [decide_eq_true h, Bool.true_and]
/-- a name's value; none where none stands -/
def tM (b : Nat → Nat) (L i : Nat) : Option Nat := if decide (0 < tN b L i) && (decide (tN b L i ≤ 5) && !isKw (tV b L i)) then some (tV b L i) else none
theorem tM_some {v : Nat} (h : tM b L i = some v) : 0 < tN b L i ∧ tN b L i ≤ 5 ∧ isKw (tV b L i) = false ∧ v = tV b L i := by
  unfold tM at h
  cases c : decide (0 < tN b L i) && (decide (tN b L i ≤ 5) && !isKw (tV b L i))
  · rw [c] at h; cases h
  · rw [c] at h
    simp only [Bool.and_eq_true, decide_eq_true_eq, Bool.not_eq_true'] at c
    have h : some (tV b L i) = some v := h
    cases h
    exact ⟨c.1, c.2.1, c.2.2, rfl⟩
theorem tM_none (h : tM b L i = none) : tN b L i = 0 ∨ 5 < tN b L i ∨ isKw (tV b L i) = true := by
  unfold tM at h
  by_cases q1 : tN b L i = 0
  · exact Or.inl q1
  by_cases q2 : 5 < tN b L i
  · exact Or.inr (Or.inl q2)
  rw [decide_eq_true (show 0 < tN b L i by omega), decide_eq_true (show tN b L i ≤ 5 by omega), Bool.true_and, Bool.true_and] at h
  cases e : isKw (tV b L i)
  · rw [e] at h; cases h
  · exact Or.inr (Or.inr rfl)
end
theorem lshl5 {p : Nat} (hp : p < 2 ^ 40) : oslshl (lN p) (5 : Int32) = lN (32 * p) := by
  apply Int64.toBitVec_inj.mp
  apply BitVec.eq_of_toNat_eq
  show (BitVec.ofNat 64 p <<< (5 : Nat)).toNat = (BitVec.ofNat 64 (32 * p)).toNat
  rw [BitVec.toNat_shiftLeft, BitVec.toNat_ofNat, BitVec.toNat_ofNat, Nat.mod_eq_of_lt (show p < 2 ^ 64 by omega), Nat.shiftLeft_eq, Nat.mul_comm]
theorem oct_c : ∀ w, w < 256 → ((nI w).toInt8.toInt32 = 32 ↔ w = 32) ∧ ((nI w).toInt8.toInt32 = 10 ↔ w = 10) ∧ ((nI w).toInt8.toInt32 = 59 ↔ w = 59) ∧ (isLt w = true → ¬ (nI w).toInt8.toInt32 < 97 ∧ ¬ 122 < (nI w).toInt8.toInt32 ∧ (nI w).toInt8.toInt32 = nI w) ∧ (isLt w = false → (nI w).toInt8.toInt32 < 97 ∨ 122 < (nI w).toInt8.toInt32) := by
  intro w hw
  have h : ∀ w, w < 256 → decide (((nI w).toInt8.toInt32 = 32 ↔ w = 32) ∧ ((nI w).toInt8.toInt32 = 10 ↔ w = 10) ∧ ((nI w).toInt8.toInt32 = 59 ↔ w = 59) ∧ (isLt w = true → ¬ (nI w).toInt8.toInt32 < 97 ∧ ¬ 122 < (nI w).toInt8.toInt32 ∧ (nI w).toInt8.toInt32 = nI w) ∧ (isLt w = false → (nI w).toInt8.toInt32 < 97 ∨ 122 < (nI w).toInt8.toInt32)) = true := by decide +kernel
  exact of_decide_eq_true (h w hw)
theorem oct_r : ∀ w, w < 256 → (nI w = 32 ↔ w = 32) ∧ (nI w = 10 ↔ w = 10) ∧ (nI w = 59 ↔ w = 59) ∧ ¬ nI w = -1 ∧ (!decide (nI w < 97) && !decide (122 < nI w)) = isLt w := by
  intro w hw
  have h : ∀ w, w < 256 → decide ((nI w = 32 ↔ w = 32) ∧ (nI w = 10 ↔ w = 10) ∧ (nI w = 59 ↔ w = 59) ∧ ¬ nI w = -1 ∧ (!decide (nI w < 97) && !decide (122 < nI w)) = isLt w) = true := by decide +kernel
  exact of_decide_eq_true (h w hw)
