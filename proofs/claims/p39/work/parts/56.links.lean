/-! Links: the second and third round (by program) -/
def blW (S W : Nat → Nat → Int32) (i : Nat) : Bool := (decide (S 12 i = 2) && (bt (W 0 0) (gof S i) && !bt (W 1 0) (gof S i))) || (decide (S 12 i = 3) && (bt (W 1 0) (gof S i) && decide (W 6 (gof S i) = sg (sof S i))))
def spW (S : Nat → Nat → Int32) (i : Nat) : Bool := decide (S 12 i = 2) || decide (S 12 i = 3)
theorem stLS_eq {S W : Nat → Nat → Int32} {i : Nat} : stLS S i W = if blW S W i = true then stLSb S i (spr S i) W else if spW S i = true then cset W 4 (fun _ => W 4 0 ||| sg i) else W := by
  unfold stLS stLS2 stLS3 blW spr spW
  by_cases h2 : S 12 i = 2
  · have h3 : ¬ S 12 i = 3 := by rw [h2]; decide
    cases e0 : bt (W 0 0) (gof S i) <;> cases e1 : bt (W 1 0) (gof S i) <;> simp [h2, e0, e1]
  · by_cases h3 : S 12 i = 3
    · cases e1 : bt (W 1 0) (gof S i)
      · simp [h3, e1]
      · by_cases e2 : W 6 (gof S i) = sg (sof S i)
        · simp [h3, e1, e2]
        · simp [h3, e1, e2]
    · simp [h2, h3]
theorem stLS1_0 {S W : Nat → Nat → Int32} {i v a : Nat} : stLS1 S i v a W 0 = W 0 := by
  unfold stLS1
  split
  · split
    · rfl
    · split <;> rfl
  · rfl
theorem stLS1_1 {S W : Nat → Nat → Int32} {i v a : Nat} : stLS1 S i v a W 1 = W 1 := by
  unfold stLS1
  split
  · split
    · rfl
    · split <;> rfl
  · rfl
theorem stLS1_2 {S W : Nat → Nat → Int32} {i v a : Nat} : stLS1 S i v a W 2 = W 2 := by
  unfold stLS1
  split
  · split
    · rfl
    · split <;> rfl
  · rfl
theorem stLS1_3 {S W : Nat → Nat → Int32} {i v a : Nat} : stLS1 S i v a W 3 = W 3 := by
  unfold stLS1
  split
  · split
    · rfl
    · split <;> rfl
  · rfl
theorem stLS1_4 {S W : Nat → Nat → Int32} {i v a : Nat} : stLS1 S i v a W 4 = W 4 := by
  unfold stLS1
  split
  · split
    · rfl
    · split <;> rfl
  · rfl
theorem stLS1_5 {S W : Nat → Nat → Int32} {i v a : Nat} : stLS1 S i v a W 5 = W 5 := by
  unfold stLS1
  split
  · split
    · rfl
    · split <;> rfl
  · rfl
theorem stLS1_6 {S W : Nat → Nat → Int32} {i v a : Nat} : stLS1 S i v a W 6 = W 6 := by
  unfold stLS1
  split
  · split
    · rfl
    · split <;> rfl
  · rfl
theorem stLS1_7 {S W : Nat → Nat → Int32} {i v a : Nat} : stLS1 S i v a W 7 = W 7 := by
  unfold stLS1
  split
  · split
    · rfl
    · split <;> rfl
  · rfl
theorem stLS1_8 {S W : Nat → Nat → Int32} {i v a : Nat} : stLS1 S i v a W 8 = W 8 := by
  unfold stLS1
  split
  · split
    · rfl
    · split <;> rfl
  · rfl
theorem stLS1_9 {S W : Nat → Nat → Int32} {i v a : Nat} : stLS1 S i v a W 9 = W 9 := by
  unfold stLS1
  split
  · split
    · rfl
    · split <;> rfl
  · rfl
theorem stLS1_10 {S W : Nat → Nat → Int32} {i v a : Nat} : stLS1 S i v a W 10 = W 10 := by
  unfold stLS1
  split
  · split
    · rfl
    · split <;> rfl
  · rfl
theorem stLS1_12 {S W : Nat → Nat → Int32} {i v a : Nat} : stLS1 S i v a W 12 = W 12 := by
  unfold stLS1
  split
  · split
    · rfl
    · split <;> rfl
  · rfl
theorem stLS1_13 {S W : Nat → Nat → Int32} {i v a : Nat} : stLS1 S i v a W 13 = W 13 := by
  unfold stLS1
  split
  · split
    · rfl
    · split <;> rfl
  · rfl
theorem stLS1_14 {S W : Nat → Nat → Int32} {i v a : Nat} : stLS1 S i v a W 14 = W 14 := by
  unfold stLS1
  split
  · split
    · rfl
    · split <;> rfl
  · rfl
theorem stLS1_15 {S W : Nat → Nat → Int32} {i v a : Nat} : stLS1 S i v a W 15 = W 15 := by
  unfold stLS1
  split
  · split
    · rfl
    · split <;> rfl
  · rfl
def cuQ (S : Nat → Nat → Int32) (c6 : Nat → Int32) (i v c : Nat) : Bool := decide (c6 c = sg i) && (!decide (c = v) && !decide (S 6 c = S 6 i))
theorem stLS1_11 {S W : Nat → Nat → Int32} {i v a : Nat} : stLS1 S i v a W 11 = rC (cuQ S (W 6) i v) (fun _ => i) a (W 11) := by
  unfold stLS1 rC cuQ
  by_cases h1 : W 6 a = sg i
  · by_cases h2 : a = v
    · subst h2; simp [h1]
    · by_cases h3 : S 6 a = S 6 i
      · simp [h1, h2, h3]
      · simp [h1, h2, h3, cset]
  · simp [h1]
theorem stLSb_k {S W : Nat → Nat → Int32} {i v k : Nat} (h : k ≠ 11) : stLSb S i v W k = (cset (cset (cset W 4 fun _ => W 4 0 ||| sg i) 5 fun _ => W 5 0 ||| sg i) 8 (upd (W 8) (gof S i) (W 8 (gof S i) ||| sg i))) k := by
  unfold stLSb
  refine osit_row (fun a W => ?_)
  unfold stLS1
  split
  · split
    · rfl
    · split
      · rfl
      · exact cset_ne h
  · rfl
theorem stLSb_11 {S W : Nat → Nat → Int32} {i v : Nat} : stLSb S i v W 11 = osit (fun c f => rC (cuQ S (W 6) i v) (fun _ => i) c f) 0 16 (W 11) := by
  unfold stLSb
  exact osit_pr (r := fun c f => rC (cuQ S (W 6) i v) (fun _ => i) c f) (fun V => V 6 = W 6) (fun a V hV => by rw [stLS1_6]; exact hV) (fun a V hV => by rw [stLS1_11, hV]) rfl
theorem stLS_0 {S W : Nat → Nat → Int32} {i : Nat} : stLS S i W 0 = W 0 := by
  rw [stLS_eq]
  split
  · rw [stLSb_k (by omega)]; rfl
  · split <;> rfl
theorem stLS_1 {S W : Nat → Nat → Int32} {i : Nat} : stLS S i W 1 = W 1 := by
  rw [stLS_eq]
  split
  · rw [stLSb_k (by omega)]; rfl
  · split <;> rfl
theorem stLS_2 {S W : Nat → Nat → Int32} {i : Nat} : stLS S i W 2 = W 2 := by
  rw [stLS_eq]
  split
  · rw [stLSb_k (by omega)]; rfl
  · split <;> rfl
theorem stLS_3 {S W : Nat → Nat → Int32} {i : Nat} : stLS S i W 3 = W 3 := by
  rw [stLS_eq]
  split
  · rw [stLSb_k (by omega)]; rfl
  · split <;> rfl
theorem stLS_6 {S W : Nat → Nat → Int32} {i : Nat} : stLS S i W 6 = W 6 := by
  rw [stLS_eq]
  split
  · rw [stLSb_k (by omega)]; rfl
  · split <;> rfl
theorem stLS_7 {S W : Nat → Nat → Int32} {i : Nat} : stLS S i W 7 = W 7 := by
  rw [stLS_eq]
  split
  · rw [stLSb_k (by omega)]; rfl
  · split <;> rfl
theorem stLS_9 {S W : Nat → Nat → Int32} {i : Nat} : stLS S i W 9 = W 9 := by
  rw [stLS_eq]
  split
  · rw [stLSb_k (by omega)]; rfl
  · split <;> rfl
theorem stLS_10 {S W : Nat → Nat → Int32} {i : Nat} : stLS S i W 10 = W 10 := by
  rw [stLS_eq]
  split
  · rw [stLSb_k (by omega)]; rfl
  · split <;> rfl
theorem stLS_12 {S W : Nat → Nat → Int32} {i : Nat} : stLS S i W 12 = W 12 := by
  rw [stLS_eq]
  split
  · rw [stLSb_k (by omega)]; rfl
  · split <;> rfl
theorem stLS_13 {S W : Nat → Nat → Int32} {i : Nat} : stLS S i W 13 = W 13 := by
  rw [stLS_eq]
  split
  · rw [stLSb_k (by omega)]; rfl
  · split <;> rfl
theorem stLS_14 {S W : Nat → Nat → Int32} {i : Nat} : stLS S i W 14 = W 14 := by
  rw [stLS_eq]
  split
  · rw [stLSb_k (by omega)]; rfl
  · split <;> rfl
theorem stLS_15 {S W : Nat → Nat → Int32} {i : Nat} : stLS S i W 15 = W 15 := by
  rw [stLS_eq]
  split
  · rw [stLSb_k (by omega)]; rfl
  · split <;> rfl
theorem spW_bl {S W : Nat → Nat → Int32} {i : Nat} (h : blW S W i = true) : spW S i = true := by
  unfold blW at h
  unfold spW
  by_cases h2 : S 12 i = 2 <;> by_cases h3 : S 12 i = 3 <;> simp_all
theorem stLS_4 {S W : Nat → Nat → Int32} {i : Nat} : stLS S i W 4 = if spW S i = true then fun _ => W 4 0 ||| sg i else W 4 := by
  rw [stLS_eq]
  split
  · rename_i h
    rw [stLSb_k (by omega), if_pos (spW_bl h)]; rfl
  · split <;> rfl
theorem stLS_5 {S W : Nat → Nat → Int32} {i : Nat} : stLS S i W 5 = if blW S W i = true then fun _ => W 5 0 ||| sg i else W 5 := by
  rw [stLS_eq]
  split
  · rw [stLSb_k (by omega)]; rfl
  · split <;> rfl
theorem stLS_8 {S W : Nat → Nat → Int32} {i : Nat} : stLS S i W 8 = if blW S W i = true then upd (W 8) (gof S i) (W 8 (gof S i) ||| sg i) else W 8 := by
  rw [stLS_eq]
  split
  · rw [stLSb_k (by omega)]; rfl
  · split <;> rfl
theorem stLS_11 {S W : Nat → Nat → Int32} {i : Nat} : stLS S i W 11 = if blW S W i = true then osit (fun c f => rC (cuQ S (W 6) i (spr S i)) (fun _ => i) c f) 0 16 (W 11) else W 11 := by
  rw [stLS_eq]
  split
  · rw [stLSb_11]
  · split <;> rfl
def cvW (S W : Nat → Nat → Int32) (i : Nat) : Bool := decide (S 12 i = 4) && (bt (W 1 0 &&& (W 2 0 ^^^ (-1 : Int32))) (gof S i) && decide (W 6 (gof S i) = sg (sof S i)))
theorem stLV_12 {S W : Nat → Nat → Int32} {i : Nat} : stLV S i W 12 = if cvW S W i = true then upd (W 12) (gof S i) (W 12 (gof S i) ||| sg i) else W 12 := by
  unfold stLV stLV4 cvW
  by_cases h1 : S 12 i = 4
  · cases e : bt (W 1 0 &&& (W 2 0 ^^^ (-1 : Int32))) (gof S i)
    · simp [h1, e]
    · by_cases e2 : W 6 (gof S i) = sg (sof S i)
      · simp [h1, e, e2, cset]
      · simp [h1, e, e2]
  · simp [h1]
theorem stLV_0 {S W : Nat → Nat → Int32} {i : Nat} : stLV S i W 0 = W 0 := by
  unfold stLV stLV4
  split
  · split
    · split <;> rfl
    · rfl
  · rfl
theorem stLV_1 {S W : Nat → Nat → Int32} {i : Nat} : stLV S i W 1 = W 1 := by
  unfold stLV stLV4
  split
  · split
    · split <;> rfl
    · rfl
  · rfl
theorem stLV_2 {S W : Nat → Nat → Int32} {i : Nat} : stLV S i W 2 = W 2 := by
  unfold stLV stLV4
  split
  · split
    · split <;> rfl
    · rfl
  · rfl
theorem stLV_3 {S W : Nat → Nat → Int32} {i : Nat} : stLV S i W 3 = W 3 := by
  unfold stLV stLV4
  split
  · split
    · split <;> rfl
    · rfl
  · rfl
theorem stLV_4 {S W : Nat → Nat → Int32} {i : Nat} : stLV S i W 4 = W 4 := by
  unfold stLV stLV4
  split
  · split
    · split <;> rfl
    · rfl
  · rfl
theorem stLV_5 {S W : Nat → Nat → Int32} {i : Nat} : stLV S i W 5 = W 5 := by
  unfold stLV stLV4
  split
  · split
    · split <;> rfl
    · rfl
  · rfl
theorem stLV_6 {S W : Nat → Nat → Int32} {i : Nat} : stLV S i W 6 = W 6 := by
  unfold stLV stLV4
  split
  · split
    · split <;> rfl
    · rfl
  · rfl
theorem stLV_7 {S W : Nat → Nat → Int32} {i : Nat} : stLV S i W 7 = W 7 := by
  unfold stLV stLV4
  split
  · split
    · split <;> rfl
    · rfl
  · rfl
theorem stLV_8 {S W : Nat → Nat → Int32} {i : Nat} : stLV S i W 8 = W 8 := by
  unfold stLV stLV4
  split
  · split
    · split <;> rfl
    · rfl
  · rfl
theorem stLV_9 {S W : Nat → Nat → Int32} {i : Nat} : stLV S i W 9 = W 9 := by
  unfold stLV stLV4
  split
  · split
    · split <;> rfl
    · rfl
  · rfl
theorem stLV_10 {S W : Nat → Nat → Int32} {i : Nat} : stLV S i W 10 = W 10 := by
  unfold stLV stLV4
  split
  · split
    · split <;> rfl
    · rfl
  · rfl
theorem stLV_11 {S W : Nat → Nat → Int32} {i : Nat} : stLV S i W 11 = W 11 := by
  unfold stLV stLV4
  split
  · split
    · split <;> rfl
    · rfl
  · rfl
theorem stLV_13 {S W : Nat → Nat → Int32} {i : Nat} : stLV S i W 13 = W 13 := by
  unfold stLV stLV4
  split
  · split
    · split <;> rfl
    · rfl
  · rfl
theorem stLV_14 {S W : Nat → Nat → Int32} {i : Nat} : stLV S i W 14 = W 14 := by
  unfold stLV stLV4
  split
  · split
    · split <;> rfl
    · rfl
  · rfl
theorem stLV_15 {S W : Nat → Nat → Int32} {i : Nat} : stLV S i W 15 = W 15 := by
  unfold stLV stLV4
  split
  · split
    · split <;> rfl
    · rfl
  · rfl
/-- a row of rows: each place gathers in a round of its own -/
def rD (P : Nat → Bool) (Q : Nat → Nat → Bool) (a : Nat) (f : Nat → Int32) : Nat → Int32 := if P a = true then osit (fun c g => rC (Q a) (fun _ => a) c g) 0 16 f else f
theorem bt_rD {P : Nat → Bool} {Q : Nat → Nat → Bool} {f : Nat → Int32} : ∀ {n : Nat} {i j : Nat}, i < 32 → bt (osit (fun a g => rD P Q a g) 0 n f j) i = (bt (f j) i || (decide (j < n) && (P j && (decide (i < 16) && Q j i))))
  | 0, i, j, hi => by rw [osit_zero]; simp
  | n + 1, i, j, hi => by
    rw [osit_last, Nat.zero_add]
    have ih := bt_rD (P := P) (Q := Q) (f := f) (n := n) (i := i) (j := j) hi
    by_cases hp : P n = true
    · have h9 : rD P Q n (osit (fun a g => rD P Q a g) 0 n f) = osit (fun c g => rC (Q n) (fun _ => n) c g) 0 16 (osit (fun a g => rD P Q a g) 0 n f) := by
        show (if P n = true then _ else _) = _
        rw [if_pos hp]
      rw [h9, bt_rC (by omega) hi, ih]
      by_cases e : j = n
      · subst e; simp [hp]
      · have e2 : ¬ n = j := fun q => e q.symm
        have : decide (j < n + 1) = decide (j < n) := by simp; omega
        rw [this]; simp [e2]
    · have h9 : rD P Q n (osit (fun a g => rD P Q a g) 0 n f) = osit (fun a g => rD P Q a g) 0 n f := by
        show (if P n = true then _ else _) = _
        rw [if_neg hp]
      rw [h9, ih]
      by_cases e : j = n
      · subst e; simp [hp]
      · have : decide (j < n + 1) = decide (j < n) := by simp; omega
        rw [this]
def I2 (V W : Nat → Nat → Int32) : Prop := W 0 = V 0 ∧ W 1 = V 1 ∧ W 2 = V 2 ∧ W 6 = V 6
theorem blW_I {S V W : Nat → Nat → Int32} {i : Nat} (h : I2 V W) : blW S W i = blW S V i := by unfold blW; rw [h.1, h.2.1, h.2.2.2]
theorem cvW_I {S V W : Nat → Nat → Int32} {i : Nat} (h : I2 V W) : cvW S W i = cvW S V i := by unfold cvW; rw [h.2.1, h.2.2.1, h.2.2.2]
theorem P2_0 {S W : Nat → Nat → Int32} {a : Nat} : stP2 S a W 0 = W 0 := by
  unfold stP2
  split
  · rw [stLV_0, stLS_0]
  · rfl
theorem P2_1 {S W : Nat → Nat → Int32} {a : Nat} : stP2 S a W 1 = W 1 := by
  unfold stP2
  split
  · rw [stLV_1, stLS_1]
  · rfl
theorem P2_2 {S W : Nat → Nat → Int32} {a : Nat} : stP2 S a W 2 = W 2 := by
  unfold stP2
  split
  · rw [stLV_2, stLS_2]
  · rfl
theorem P2_3 {S W : Nat → Nat → Int32} {a : Nat} : stP2 S a W 3 = W 3 := by
  unfold stP2
  split
  · rw [stLV_3, stLS_3]
  · rfl
theorem P2_6 {S W : Nat → Nat → Int32} {a : Nat} : stP2 S a W 6 = W 6 := by
  unfold stP2
  split
  · rw [stLV_6, stLS_6]
  · rfl
theorem P2_7 {S W : Nat → Nat → Int32} {a : Nat} : stP2 S a W 7 = W 7 := by
  unfold stP2
  split
  · rw [stLV_7, stLS_7]
  · rfl
theorem P2_9 {S W : Nat → Nat → Int32} {a : Nat} : stP2 S a W 9 = W 9 := by
  unfold stP2
  split
  · rw [stLV_9, stLS_9]
  · rfl
theorem P2_10 {S W : Nat → Nat → Int32} {a : Nat} : stP2 S a W 10 = W 10 := by
  unfold stP2
  split
  · rw [stLV_10, stLS_10]
  · rfl
theorem P2_13 {S W : Nat → Nat → Int32} {a : Nat} : stP2 S a W 13 = W 13 := by
  unfold stP2
  split
  · rw [stLV_13, stLS_13]
  · rfl
theorem P2_14 {S W : Nat → Nat → Int32} {a : Nat} : stP2 S a W 14 = W 14 := by
  unfold stP2
  split
  · rw [stLV_14, stLS_14]
  · rfl
theorem P2_15 {S W : Nat → Nat → Int32} {a : Nat} : stP2 S a W 15 = W 15 := by
  unfold stP2
  split
  · rw [stLV_15, stLS_15]
  · rfl
theorem P2_I {S V W : Nat → Nat → Int32} {a : Nat} (h : I2 V W) : I2 V (stP2 S a W) := ⟨P2_0.trans h.1, P2_1.trans h.2.1, P2_2.trans h.2.2.1, P2_6.trans h.2.2.2⟩
theorem P2_4 {S V W : Nat → Nat → Int32} {a : Nat} (h : I2 V W) : stP2 S a W 4 = rA (fun a => bt (V 0 0) a && spW S a) a (W 4) := by
  unfold stP2 rA
  rw [h.1]
  cases e : bt (V 0 0) a
  · simp [e]
  · cases e2 : spW S a <;> simp [e, e2, stLV_4, stLS_4]
theorem P2_5 {S V W : Nat → Nat → Int32} {a : Nat} (h : I2 V W) : stP2 S a W 5 = rA (fun a => bt (V 0 0) a && blW S V a) a (W 5) := by
  unfold stP2 rA
  rw [h.1]
  cases e : bt (V 0 0) a
  · simp [e]
  · cases e2 : blW S V a <;> simp [e, e2, stLV_5, stLS_5, blW_I h]
theorem P2_8 {S V W : Nat → Nat → Int32} {a : Nat} (h : I2 V W) : stP2 S a W 8 = rC (fun a => bt (V 0 0) a && blW S V a) (gof S) a (W 8) := by
  unfold stP2 rC
  rw [h.1]
  cases e : bt (V 0 0) a
  · simp [e]
  · cases e2 : blW S V a <;> simp [e, e2, stLV_8, stLS_8, blW_I h]
theorem P2_11 {S V W : Nat → Nat → Int32} {a : Nat} (h : I2 V W) : stP2 S a W 11 = rD (fun a => bt (V 0 0) a && blW S V a) (fun a => cuQ S (V 6) a (spr S a)) a (W 11) := by
  unfold stP2 rD
  rw [h.1]
  cases e : bt (V 0 0) a
  · simp [e]
  · cases e2 : blW S V a <;> simp [e, e2, stLV_11, stLS_11, blW_I h, h.2.2.2]
theorem P2_12 {S V W : Nat → Nat → Int32} {a : Nat} (h : I2 V W) : stP2 S a W 12 = rC (fun a => bt (V 0 0) a && cvW S V a) (gof S) a (W 12) := by
  have hI : I2 V (stLS S a W) := ⟨stLS_0.trans h.1, stLS_1.trans h.2.1, stLS_2.trans h.2.2.1, stLS_6.trans h.2.2.2⟩
  unfold stP2 rC
  rw [h.1]
  cases e : bt (V 0 0) a
  · simp [e]
  · cases e2 : cvW S V a <;> simp [e, e2, stLV_12, stLS_12, cvW_I hI]
