/-! Links: the rows, step by step (by program) -/
def dm (C S : Nat → Nat → Int32) (a : Nat) : Bool := mv S a && cg C S a (gof S a)
def spg (S : Nat → Nat → Int32) (a : Nat) : Bool := uu S a && (decide (S 12 a = 2) || decide (S 12 a = 3))
def blg (S : Nat → Nat → Int32) (a : Nat) : Bool := uu S a && ((decide (S 12 a = 2) && (uu S (gof S a) && !mv S (gof S a))) || (decide (S 12 a = 3) && (mv S (gof S a) && decide (gof S (gof S a) = sof S a))))
def spr (S : Nat → Nat → Int32) (a : Nat) : Nat := if S 12 a = 3 then sof S a else gof S a
def cutt (S : Nat → Nat → Int32) (a c : Nat) : Bool := mv S c && (decide (gof S c = a) && (!decide (c = spr S a) && !decide (S 6 c = S 6 a)))
def cvy (C S : Nat → Nat → Int32) (f a : Nat) : Bool := uu S a && (decide (S 12 a = 4) && (decide (gof S a = f) && (mv S f && (!dm C S f && decide (gof S f = sof S a)))))
def opp (C S : Nat → Nat → Int32) (a : Nat) : Bool := dm C S a && (dm C S (gof S a) && decide (gof S (gof S a) = a))
theorem P1_0 {C S W : Nat → Nat → Int32} {a : Nat} : stP1 C S a W 0 = rA (uu S) a (W 0) := by
  unfold stP1 stNM rA uu
  by_cases h1 : S 6 a = -1
  · simp [h1, cset]
  · by_cases h2 : S 12 a = 1
    · by_cases h3 : cg C S a (gof S a) = true
      · simp [h1, h2, h3, cset]
      · simp [h1, h2, h3, cset]
    · simp [h1, h2, cset]
theorem P1_1 {C S W : Nat → Nat → Int32} {a : Nat} : stP1 C S a W 1 = rA (mv S) a (W 1) := by
  unfold stP1 stNM rA mv
  by_cases h1 : S 6 a = -1
  · simp [h1, cset]
  · by_cases h2 : S 12 a = 1
    · by_cases h3 : cg C S a (gof S a) = true
      · simp [h1, h2, h3, cset]
      · simp [h1, h2, h3, cset]
    · simp [h1, h2, cset]
theorem P1_2 {C S W : Nat → Nat → Int32} {a : Nat} : stP1 C S a W 2 = rA (dm C S) a (W 2) := by
  unfold stP1 stNM rA dm mv
  by_cases h1 : S 6 a = -1
  · simp [h1, cset]
  · by_cases h2 : S 12 a = 1
    · by_cases h3 : cg C S a (gof S a) = true
      · simp [h1, h2, h3, cset]
      · simp [h1, h2, h3, cset]
    · simp [h1, h2, cset]
theorem P1_6 {C S W : Nat → Nat → Int32} {a : Nat} : stP1 C S a W 6 = rB (mv S) (fun a => sg (gof S a)) a (W 6) := by
  unfold stP1 stNM rB mv
  by_cases h1 : S 6 a = -1
  · simp [h1, cset]
  · by_cases h2 : S 12 a = 1
    · by_cases h3 : cg C S a (gof S a) = true
      · simp [h1, h2, h3, cset]
      · simp [h1, h2, h3, cset]
    · simp [h1, h2, cset]
theorem P1_13 {C S W : Nat → Nat → Int32} {a : Nat} : stP1 C S a W 13 = rB (mv S) (fun a => bd C a 1) a (W 13) := by
  unfold stP1 stNM rB mv
  by_cases h1 : S 6 a = -1
  · simp [h1, cset]
  · by_cases h2 : S 12 a = 1
    · by_cases h3 : cg C S a (gof S a) = true
      · simp [h1, h2, h3, cset]
      · simp [h1, h2, h3, cset]
    · simp [h1, h2, cset]
theorem P1_14 {C S W : Nat → Nat → Int32} {a : Nat} : stP1 C S a W 14 = rB (mv S) (fun a => bd C (gof S a) 1) a (W 14) := by
  unfold stP1 stNM rB mv
  by_cases h1 : S 6 a = -1
  · simp [h1, cset]
  · by_cases h2 : S 12 a = 1
    · by_cases h3 : cg C S a (gof S a) = true
      · simp [h1, h2, h3, cset]
      · simp [h1, h2, h3, cset]
    · simp [h1, h2, cset]
theorem P1_15 {C S W : Nat → Nat → Int32} {a : Nat} : stP1 C S a W 15 = rB (fun _ => true) (fun a => bd C a 1) a (W 15) := by
  unfold stP1 stNM rB
  by_cases h1 : S 6 a = -1
  · simp [h1, cset]
  · by_cases h2 : S 12 a = 1
    · by_cases h3 : cg C S a (gof S a) = true
      · simp [h1, h2, h3, cset]
      · simp [h1, h2, h3, cset]
    · simp [h1, h2, cset]
theorem P1_3 {C S W : Nat → Nat → Int32} {a : Nat} : stP1 C S a W 3 = W 3 := by
  unfold stP1 stNM 
  by_cases h1 : S 6 a = -1
  · simp [h1, cset]
  · by_cases h2 : S 12 a = 1
    · by_cases h3 : cg C S a (gof S a) = true
      · simp [h1, h2, h3, cset]
      · simp [h1, h2, h3, cset]
    · simp [h1, h2, cset]
theorem P1_4 {C S W : Nat → Nat → Int32} {a : Nat} : stP1 C S a W 4 = W 4 := by
  unfold stP1 stNM 
  by_cases h1 : S 6 a = -1
  · simp [h1, cset]
  · by_cases h2 : S 12 a = 1
    · by_cases h3 : cg C S a (gof S a) = true
      · simp [h1, h2, h3, cset]
      · simp [h1, h2, h3, cset]
    · simp [h1, h2, cset]
theorem P1_5 {C S W : Nat → Nat → Int32} {a : Nat} : stP1 C S a W 5 = W 5 := by
  unfold stP1 stNM 
  by_cases h1 : S 6 a = -1
  · simp [h1, cset]
  · by_cases h2 : S 12 a = 1
    · by_cases h3 : cg C S a (gof S a) = true
      · simp [h1, h2, h3, cset]
      · simp [h1, h2, h3, cset]
    · simp [h1, h2, cset]
theorem P1_7 {C S W : Nat → Nat → Int32} {a : Nat} : stP1 C S a W 7 = W 7 := by
  unfold stP1 stNM 
  by_cases h1 : S 6 a = -1
  · simp [h1, cset]
  · by_cases h2 : S 12 a = 1
    · by_cases h3 : cg C S a (gof S a) = true
      · simp [h1, h2, h3, cset]
      · simp [h1, h2, h3, cset]
    · simp [h1, h2, cset]
theorem P1_8 {C S W : Nat → Nat → Int32} {a : Nat} : stP1 C S a W 8 = W 8 := by
  unfold stP1 stNM 
  by_cases h1 : S 6 a = -1
  · simp [h1, cset]
  · by_cases h2 : S 12 a = 1
    · by_cases h3 : cg C S a (gof S a) = true
      · simp [h1, h2, h3, cset]
      · simp [h1, h2, h3, cset]
    · simp [h1, h2, cset]
theorem P1_9 {C S W : Nat → Nat → Int32} {a : Nat} : stP1 C S a W 9 = W 9 := by
  unfold stP1 stNM 
  by_cases h1 : S 6 a = -1
  · simp [h1, cset]
  · by_cases h2 : S 12 a = 1
    · by_cases h3 : cg C S a (gof S a) = true
      · simp [h1, h2, h3, cset]
      · simp [h1, h2, h3, cset]
    · simp [h1, h2, cset]
theorem P1_10 {C S W : Nat → Nat → Int32} {a : Nat} : stP1 C S a W 10 = W 10 := by
  unfold stP1 stNM 
  by_cases h1 : S 6 a = -1
  · simp [h1, cset]
  · by_cases h2 : S 12 a = 1
    · by_cases h3 : cg C S a (gof S a) = true
      · simp [h1, h2, h3, cset]
      · simp [h1, h2, h3, cset]
    · simp [h1, h2, cset]
theorem P1_11 {C S W : Nat → Nat → Int32} {a : Nat} : stP1 C S a W 11 = W 11 := by
  unfold stP1 stNM 
  by_cases h1 : S 6 a = -1
  · simp [h1, cset]
  · by_cases h2 : S 12 a = 1
    · by_cases h3 : cg C S a (gof S a) = true
      · simp [h1, h2, h3, cset]
      · simp [h1, h2, h3, cset]
    · simp [h1, h2, cset]
theorem P1_12 {C S W : Nat → Nat → Int32} {a : Nat} : stP1 C S a W 12 = W 12 := by
  unfold stP1 stNM 
  by_cases h1 : S 6 a = -1
  · simp [h1, cset]
  · by_cases h2 : S 12 a = 1
    · by_cases h3 : cg C S a (gof S a) = true
      · simp [h1, h2, h3, cset]
      · simp [h1, h2, h3, cset]
    · simp [h1, h2, cset]
theorem osit_row {f : Nat → (Nat → Nat → Int32) → (Nat → Nat → Int32)} {j k i : Nat} {W : Nat → Nat → Int32} (h : ∀ a W, f a W j = W j) : osit f i k W j = W j := osit_keep (p := fun W : Nat → Nat → Int32 => W j) h
theorem lclr_lo {L : Nat → Nat → Int32} {k : Nat} (h : k < 6) : lclr L k = fun _ => (0 : Int32) := by
  unfold lclr
  rw [osit_row (j := k) (fun a W => by
    show stLC a W k = W k
    unfold stLC
    rcases (show k = 0 ∨ k = 1 ∨ k = 2 ∨ k = 3 ∨ k = 4 ∨ k = 5 by omega) with e | e | e | e | e | e <;> subst e <;> rfl)]
  rcases (show k = 0 ∨ k = 1 ∨ k = 2 ∨ k = 3 ∨ k = 4 ∨ k = 5 by omega) with e | e | e | e | e | e <;> subst e <;> rfl
theorem lclr_hi {L : Nat → Nat → Int32} {k j : Nat} (h6 : 6 ≤ k) (h : k < 15) (hj : j < 16) : lclr L k j = 0 := by
  unfold lclr
  rw [osit_pr (r := rB (fun _ => true) (fun _ => 0)) (fun _ => True) (fun _ _ _ => trivial) (fun a W _ => by
    unfold stLC rB
    rcases (show k = 6 ∨ k = 7 ∨ k = 8 ∨ k = 9 ∨ k = 10 ∨ k = 11 ∨ k = 12 ∨ k = 13 ∨ k = 14 by omega) with e | e | e | e | e | e | e | e | e <;> subst e <;> rfl) trivial]
  have := at_rB (P := fun _ => true) (v := fun _ => 0) (f := lclr0 L k) (n := 16) (j := j)
  rw [show (fun a g => rB (fun _ => true) (fun _ => 0) a g) = rB (fun _ => true) (fun _ => 0) from rfl] at this
  rw [this]
  simp [hj]
/-- rows after the first round -/
def L1 (C S L : Nat → Nat → Int32) : Nat → Nat → Int32 := osit (fun a W => stP1 C S a W) 0 16 (lclr L)
def L2 (C S L : Nat → Nat → Int32) : Nat → Nat → Int32 := osit (fun a W => stP2 S a W) 0 16 (L1 C S L)
theorem prep_eq {C S L : Nat → Nat → Int32} : prep C S L = osit (fun a W => stP3 S a W) 0 16 (L2 C S L) := rfl
section
variable {C S L : Nat → Nat → Int32}
theorem L1_0 {i : Nat} (hi : i < 32) : bt (L1 C S L 0 0) i = (decide (i < 16) && uu S i) := by
  unfold L1
  rw [osit_pr (r := rA (uu S)) (fun _ => True) (fun _ _ _ => trivial) (fun a W _ => P1_0) trivial, lclr_lo (by omega)]
  have := bt_rA (P := uu S) (f := fun _ => (0 : Int32)) (n := 16) (by omega) hi
  rw [show (fun a g => rA (uu S) a g) = rA (uu S) from rfl] at this
  rw [this, b_0, Bool.false_or]
theorem L1_1 {i : Nat} (hi : i < 32) : bt (L1 C S L 1 0) i = (decide (i < 16) && mv S i) := by
  unfold L1
  rw [osit_pr (r := rA (mv S)) (fun _ => True) (fun _ _ _ => trivial) (fun a W _ => P1_1) trivial, lclr_lo (by omega)]
  have := bt_rA (P := mv S) (f := fun _ => (0 : Int32)) (n := 16) (by omega) hi
  rw [show (fun a g => rA (mv S) a g) = rA (mv S) from rfl] at this
  rw [this, b_0, Bool.false_or]
theorem L1_2 {i : Nat} (hi : i < 32) : bt (L1 C S L 2 0) i = (decide (i < 16) && dm C S i) := by
  unfold L1
  rw [osit_pr (r := rA (dm C S)) (fun _ => True) (fun _ _ _ => trivial) (fun a W _ => P1_2) trivial, lclr_lo (by omega)]
  have := bt_rA (P := dm C S) (f := fun _ => (0 : Int32)) (n := 16) (by omega) hi
  rw [show (fun a g => rA (dm C S) a g) = rA (dm C S) from rfl] at this
  rw [this, b_0, Bool.false_or]
theorem L1_6 {j : Nat} (hj : j < 16) : L1 C S L 6 j = if mv S j = true then (fun a => sg (gof S a)) j else 0 := by
  unfold L1
  rw [osit_pr (r := rB (mv S) (fun a => sg (gof S a))) (fun _ => True) (fun _ _ _ => trivial) (fun a W _ => P1_6) trivial]
  have := at_rB (P := mv S) (v := fun a => sg (gof S a)) (f := lclr L 6) (n := 16) (j := j)
  rw [show (fun a g => rB (mv S) (fun a => sg (gof S a)) a g) = rB (mv S) (fun a => sg (gof S a)) from rfl] at this
  rw [this, lclr_hi (by omega) (by omega) hj]
  simp [hj]
theorem L1_13 {j : Nat} (hj : j < 16) : L1 C S L 13 j = if mv S j = true then (fun a => bd C a 1) j else 0 := by
  unfold L1
  rw [osit_pr (r := rB (mv S) (fun a => bd C a 1)) (fun _ => True) (fun _ _ _ => trivial) (fun a W _ => P1_13) trivial]
  have := at_rB (P := mv S) (v := fun a => bd C a 1) (f := lclr L 13) (n := 16) (j := j)
  rw [show (fun a g => rB (mv S) (fun a => bd C a 1) a g) = rB (mv S) (fun a => bd C a 1) from rfl] at this
  rw [this, lclr_hi (by omega) (by omega) hj]
  simp [hj]
theorem L1_14 {j : Nat} (hj : j < 16) : L1 C S L 14 j = if mv S j = true then (fun a => bd C (gof S a) 1) j else 0 := by
  unfold L1
  rw [osit_pr (r := rB (mv S) (fun a => bd C (gof S a) 1)) (fun _ => True) (fun _ _ _ => trivial) (fun a W _ => P1_14) trivial]
  have := at_rB (P := mv S) (v := fun a => bd C (gof S a) 1) (f := lclr L 14) (n := 16) (j := j)
  rw [show (fun a g => rB (mv S) (fun a => bd C (gof S a) 1) a g) = rB (mv S) (fun a => bd C (gof S a) 1) from rfl] at this
  rw [this, lclr_hi (by omega) (by omega) hj]
  simp [hj]
theorem L1_15 {j : Nat} (hj : j < 16) : L1 C S L 15 j = bd C j 1 := by
  unfold L1
  rw [osit_pr (r := rB (fun _ => true) (fun a => bd C a 1)) (fun _ => True) (fun _ _ _ => trivial) (fun a W _ => P1_15) trivial]
  have := at_rB (P := fun _ => true) (v := fun a => bd C a 1) (f := lclr L 15) (n := 16) (j := j)
  rw [show (fun a g => rB (fun _ => true) (fun a => bd C a 1) a g) = rB (fun _ => true) (fun a => bd C a 1) from rfl] at this
  rw [this]
  simp [hj]
theorem L1_3 : L1 C S L 3 0 = 0 := by
  unfold L1
  rw [osit_row (j := 3) (fun a W => P1_3), lclr_lo (by omega)]
theorem L1_4 : L1 C S L 4 0 = 0 := by
  unfold L1
  rw [osit_row (j := 4) (fun a W => P1_4), lclr_lo (by omega)]
theorem L1_5 : L1 C S L 5 0 = 0 := by
  unfold L1
  rw [osit_row (j := 5) (fun a W => P1_5), lclr_lo (by omega)]
theorem L1_7 {j : Nat} (hj : j < 16) : L1 C S L 7 j = 0 := by
  unfold L1
  rw [osit_row (j := 7) (fun a W => P1_7)]
  exact lclr_hi (by omega) (by omega) hj
theorem L1_8 {j : Nat} (hj : j < 16) : L1 C S L 8 j = 0 := by
  unfold L1
  rw [osit_row (j := 8) (fun a W => P1_8)]
  exact lclr_hi (by omega) (by omega) hj
theorem L1_9 {j : Nat} (hj : j < 16) : L1 C S L 9 j = 0 := by
  unfold L1
  rw [osit_row (j := 9) (fun a W => P1_9)]
  exact lclr_hi (by omega) (by omega) hj
theorem L1_10 {j : Nat} (hj : j < 16) : L1 C S L 10 j = 0 := by
  unfold L1
  rw [osit_row (j := 10) (fun a W => P1_10)]
  exact lclr_hi (by omega) (by omega) hj
theorem L1_11 {j : Nat} (hj : j < 16) : L1 C S L 11 j = 0 := by
  unfold L1
  rw [osit_row (j := 11) (fun a W => P1_11)]
  exact lclr_hi (by omega) (by omega) hj
theorem L1_12 {j : Nat} (hj : j < 16) : L1 C S L 12 j = 0 := by
  unfold L1
  rw [osit_row (j := 12) (fun a W => P1_12)]
  exact lclr_hi (by omega) (by omega) hj
end
