/-! the reference's settling: goesThrough, decides (by program) -/
theorem srn_0 {C S : Nat → Nat → Int32} {sea : Bool} {m : Int32} : ∀ n, (srn C S sea m n).2.1 = 0 → (srn C S sea m n).1 = 0
  | 0, _ => rfl
  | n + 1, h => by
    have ih := srn_0 (C := C) (S := S) (sea := sea) (m := m) n
    unfold srn at ih h ⊢
    rw [osit_last, Nat.zero_add] at h ⊢
    generalize osit (fun i q => stQ C S sea (sub m i) q) 0 n (0, 0, 0, 0) = q at ih h ⊢
    unfold stQ at h ⊢
    by_cases c1 : cns C S sea (bt (sub m n)) = true
    · rw [if_pos c1] at h
      exfalso
      by_cases c2 : (q.2.1 = 0 ∨ q.2.2.1 < cnt (sub m n) ∨ (cnt (sub m n) = q.2.2.1 ∧ q.2.2.2 ≤ ng C S sea (sub m n)))
      · rw [if_pos c2] at h
        exact absurd h (Nat.succ_ne_zero _)
      · rw [if_neg c2] at h
        exact absurd h (Nat.succ_ne_zero _)
    · rw [if_neg c1] at h ⊢
      exact ih h
def goR (C S M : Nat → Nat → Int32) (sea : Bool) (i : Nat) : Prop := M 37 0 = nI (srn C S sea (mset S) i).2.1 ∧ (((srn C S sea (mset S) i).2.1 = 0 ∧ M 36 0 = -1) ∨ (0 < (srn C S sea (mset S) i).2.1 ∧ ∃ j, j < 2 ^ fb_ct (mv S) 16 ∧ M 36 0 = nI j ∧ (srn C S sea (mset S) i).1 = sub (mset S) j))
def goM (C S : Nat → Nat → Int32) (sea : Bool) (i : Nat) (most : Int32) : Prop := ((srn C S sea (mset S) i).2.1 = 0 ∧ most = -1) ∨ (0 < (srn C S sea (mset S) i).2.1 ∧ most = nI (32 * (srn C S sea (mset S) i).2.2.1 + (srn C S sea (mset S) i).2.2.2))
theorem lt_m1 {a : Nat} (h : a < 2 ^ 31) : ¬ nI a < -1 := fun q => by
  have h1 := nI_pos' h
  have : nI a < 0 := by
    have h2 := Int32.lt_iff_toInt_lt.mp q
    rw [nI_toInt h] at h2
    have : (-1 : Int32).toInt = -1 := by decide
    omega
  exact nI_pos h this
/-- what stands when the reference has decided -/
def dcT (C S M : Nat → Nat → Int32) (n : Nat) : Prop := mvT C S M ∧ saT C S M n (seaF C S) ∧ oX S (M 28 0) = bt (srs C S (seaF C S)).1 ∧ M 38 0 = nI (srs C S true).2.1 ∧ ∃ j, j < 2 ^ fb_ct (mv S) 16 ∧ M 28 0 = nI j
