/-! named (by program) -/
theorem let_oct : ∀ w, w < 256 → (!decide ((nI w).toInt8.toInt32 < 97) && !decide (122 < (nI w).toInt8.toInt32)) = (decide (97 ≤ w) && decide (w ≤ 122)) ∧ (!decide (nI w < 97) && !decide (122 < nI w)) = (decide (97 ≤ w) && decide (w ≤ 122)) ∧ (97 ≤ w ∧ w ≤ 122 → (nI w).toInt8.toInt32 = nI w) := by decide +kernel
def isLt (w : Nat) : Bool := decide (97 ≤ w) && decide (w ≤ 122)
/-- a name packed out of the bytes b, from the first on -/
def pkS (b : Nat → Nat) : Nat → Option Nat
  | 0 => some 0
  | i + 1 => match pkS b i with
    | some p => if isLt (b i) && decide (i < 5) then some (32 * p + (b i - 96)) else none
    | none => none
theorem pkS_lt {b : Nat → Nat} : ∀ {i p : Nat}, pkS b i = some p → i ≤ 5 ∧ p < 2 ^ (5 * i) ∧ (0 < i → 0 < p)
  | 0, p, h => by
    have h : some 0 = some p := h
    cases h
    exact ⟨by omega, by decide, fun q => absurd q (Nat.lt_irrefl 0)⟩
  | i + 1, p, h => by
    unfold pkS at h
    cases e : pkS b i with
    | none => rw [e] at h; cases h
    | some q =>
      rw [e] at h
      have h : (if isLt (b i) && decide (i < 5) then some (32 * q + (b i - 96)) else none) = some p := h
      cases c : isLt (b i) && decide (i < 5)
      · rw [c] at h; cases h
      · rw [c] at h
        have h : some (32 * q + (b i - 96)) = some p := h
        cases h
        rw [Bool.and_eq_true] at c
        unfold isLt at c
        simp only [Bool.and_eq_true, decide_eq_true_eq] at c
        obtain ⟨_, ih, _⟩ := pkS_lt e
        have e2 : 2 ^ (5 * (i + 1)) = 32 * 2 ^ (5 * i) := by rw [show 5 * (i + 1) = 5 * i + 5 by omega, Nat.pow_add]; omega
        refine ⟨by omega, ?_, fun _ => by omega⟩
        rw [e2]
        omega
theorem pkS_25 {b : Nat → Nat} {i p : Nat} (h : pkS b i = some p) : p < 2 ^ 25 := by
  obtain ⟨h1, h2, _⟩ := pkS_lt h
  exact Nat.lt_of_lt_of_le h2 (Nat.pow_le_pow_right (by omega) (by omega))
theorem pkS_none {b : Nat → Nat} {i : Nat} (h : pkS b i = none) : ∀ k, pkS b (i + k) = none
  | 0 => h
  | k + 1 => by
    show pkS b (i + k + 1) = none
    rw [pkS, pkS_none h k]
theorem pks_shl {p : Nat} (hp : p < 2 ^ 25) : osshl (nI p) (5 : Int32) = nI (32 * p) := by
  refine b_ext (fun i hi => ?_)
  have e : ∀ k v, k < 32 → bt (nI v) k = v.testBit k := fun k v hk => by
    unfold bt
    show (BitVec.ofNat 32 v).getLsbD k = _
    rw [BitVec.getLsbD_ofNat, decide_eq_true hk, Bool.true_and]
  show bt (nI p <<< (nI 5 &&& 31)) i = _
  rw [b_shl 5 (by omega) _ hi, e _ _ (by omega), e _ _ hi, show 32 * p = 2 ^ 5 * p from rfl, Nat.testBit_two_pow_mul]
section
variable {G : osG} {z : osS} {N x n np T : Nat} {ad : Nat → Nat} {W : Nat → Nat → Nat → Int32} {D : osS} {M : Nat → Nat → Int32}
def lP (o : Option Nat) : Int64 := match o with
  | some p => lN p
  | none => -1
end
section
variable {G : osG} {z : osS} {N x n np T : Nat} {ad : Nat → Nat} {W : Nat → Nat → Nat → Int32} {D : osS} {v : Int32}
end
