/-! the reference's settling: leads, contestedNow (by program) -/
def rLd3 (M : Nat → Nat → Int32) (a : Nat) (v : Int32) : Nat → Int32 := upd (upd (upd (upd (M 3) (53 + a) v) (69 + a) ((upd (M 3) (53 + a) v) (37 + a))) (85 + a) (-1)) (101 + a) (-1)
def rLd (M : Nat → Nat → Int32) (a : Nat) : Nat → Nat → Int32 := cset (cset (cset M 39 (upd (M 39) a (if M 3 (21 + a) = -1 then -1 else if bt (M 29 0) a = true then -1 else if scs M (M 24 a) = true then -1 else M 3 (21 + a)))) 40 (upd (M 40) a (M 3 (37 + a)))) 3 (rLd3 M a (if bt (M 29 0) a = true then M 3 (21 + a) else -1))
def rLe (M : Nat → Nat → Int32) (i g b : Nat) : Nat → Nat → Int32 := cset (cset (cset M 39 (upd (M 39) g (M 3 (21 + b)))) 40 (upd (M 40) g (M 3 (37 + b)))) 3 (upd (M 3) (85 + g) (if M 25 i = 0 then M 21 i else -1))
theorem rLd3_at {M : Nat → Nat → Int32} {a j : Nat} {v : Int32} : rLd3 M a v j = if j = 101 + a then -1 else if j = 85 + a then -1 else if j = 69 + a then M 3 (37 + a) else if j = 53 + a then v else M 3 j := by
  show (if j = 101 + a then (-1 : Int32) else if j = 85 + a then -1 else if j = 69 + a then (if 37 + a = 53 + a then v else M 3 (37 + a)) else if j = 53 + a then v else M 3 j) = _
  rw [if_neg (show ¬ 37 + a = 53 + a by omega)]
theorem cpS_ext {C S M M' : Nat → Nat → Int32} {n : Nat} (h : cpS C S M n) (e1 : M' 1 = M 1) (e3 : ∀ j, j < 53 ∨ 117 ≤ j ∧ j < 165 → M' 3 j = M 3 j) : cpS C S M' n := by
  obtain ⟨h1, h2, h3, h4⟩ := h
  refine ⟨by rw [e1]; exact h1, fun a ha => ?_, fun a ha hu => ?_, h4⟩
  · rw [e1, e3 _ (by omega), e3 _ (by omega), e3 _ (by omega)]; exact h2 a ha
  · rw [e3 _ (by omega), e3 _ (by omega)]; exact h3 a ha hu
/-- where the reference leads the units -/
def ldT (C S M M' : Nat → Nat → Int32) (X : Nat → Bool) : Prop :=
  (∀ j, j < 21 ∨ 117 ≤ j → M' 3 j = M 3 j) ∧ nwR S X 6 (fun b => M' 3 (21 + b)) ∧ (∀ a, a < 16 → X a = true → M' 3 (37 + gof S a) = S 7 a) ∧ (∀ b, b < 16 → sty S X b = true → M' 3 (37 + b) = S 7 b) ∧ (∀ b, b < 16 → M' 3 (53 + b) = if disl S X b = true then S 6 b else -1) ∧ (∀ b, b < 16 → M' 3 (69 + b) = M 3 (37 + b)) ∧ (∀ b, b < 16 → M' 3 (101 + b) = -1) ∧ ∀ a, a < 16 → X a = true → M' 3 (85 + gof S a) = if dm C S a = true then nI a else -1
def rCo (M : Nat → Nat → Int32) (i : Nat) : Bool := bt (M 30 0) i && (!bt (M 28 0) i && decide (M 3 (21 + tn (M 22 i)) = -1))
