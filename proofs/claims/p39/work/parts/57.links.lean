/-! Links: the third round, what stands in the end (by program) -/
theorem stLM1_0 {S W : Nat → Nat → Int32} {i g c : Nat} : stLM1 S i g c W 0 = W 0 := by
  have e : ∀ V : Nat → Nat → Int32, (if c = i then V else if V 6 c = V 6 i then cset V 7 (upd (V 7) i (V 7 i ||| sg c)) else V) 0 = V 0 := fun V => by
    split
    · rfl
    · split <;> rfl
  unfold stLM1
  show (if S 6 c = -1 then _ else if S 6 c = S 6 g then _ else _ : Nat → Nat → Int32) 0 = _
  split
  · exact e W
  · split
    · exact e W
    · exact e W
theorem stLM1_1 {S W : Nat → Nat → Int32} {i g c : Nat} : stLM1 S i g c W 1 = W 1 := by
  have e : ∀ V : Nat → Nat → Int32, (if c = i then V else if V 6 c = V 6 i then cset V 7 (upd (V 7) i (V 7 i ||| sg c)) else V) 1 = V 1 := fun V => by
    split
    · rfl
    · split <;> rfl
  unfold stLM1
  show (if S 6 c = -1 then _ else if S 6 c = S 6 g then _ else _ : Nat → Nat → Int32) 1 = _
  split
  · exact e W
  · split
    · exact e W
    · exact e W
theorem stLM1_2 {S W : Nat → Nat → Int32} {i g c : Nat} : stLM1 S i g c W 2 = W 2 := by
  have e : ∀ V : Nat → Nat → Int32, (if c = i then V else if V 6 c = V 6 i then cset V 7 (upd (V 7) i (V 7 i ||| sg c)) else V) 2 = V 2 := fun V => by
    split
    · rfl
    · split <;> rfl
  unfold stLM1
  show (if S 6 c = -1 then _ else if S 6 c = S 6 g then _ else _ : Nat → Nat → Int32) 2 = _
  split
  · exact e W
  · split
    · exact e W
    · exact e W
theorem stLM1_3 {S W : Nat → Nat → Int32} {i g c : Nat} : stLM1 S i g c W 3 = W 3 := by
  have e : ∀ V : Nat → Nat → Int32, (if c = i then V else if V 6 c = V 6 i then cset V 7 (upd (V 7) i (V 7 i ||| sg c)) else V) 3 = V 3 := fun V => by
    split
    · rfl
    · split <;> rfl
  unfold stLM1
  show (if S 6 c = -1 then _ else if S 6 c = S 6 g then _ else _ : Nat → Nat → Int32) 3 = _
  split
  · exact e W
  · split
    · exact e W
    · exact e W
theorem stLM1_4 {S W : Nat → Nat → Int32} {i g c : Nat} : stLM1 S i g c W 4 = W 4 := by
  have e : ∀ V : Nat → Nat → Int32, (if c = i then V else if V 6 c = V 6 i then cset V 7 (upd (V 7) i (V 7 i ||| sg c)) else V) 4 = V 4 := fun V => by
    split
    · rfl
    · split <;> rfl
  unfold stLM1
  show (if S 6 c = -1 then _ else if S 6 c = S 6 g then _ else _ : Nat → Nat → Int32) 4 = _
  split
  · exact e W
  · split
    · exact e W
    · exact e W
theorem stLM1_5 {S W : Nat → Nat → Int32} {i g c : Nat} : stLM1 S i g c W 5 = W 5 := by
  have e : ∀ V : Nat → Nat → Int32, (if c = i then V else if V 6 c = V 6 i then cset V 7 (upd (V 7) i (V 7 i ||| sg c)) else V) 5 = V 5 := fun V => by
    split
    · rfl
    · split <;> rfl
  unfold stLM1
  show (if S 6 c = -1 then _ else if S 6 c = S 6 g then _ else _ : Nat → Nat → Int32) 5 = _
  split
  · exact e W
  · split
    · exact e W
    · exact e W
theorem stLM1_6 {S W : Nat → Nat → Int32} {i g c : Nat} : stLM1 S i g c W 6 = W 6 := by
  have e : ∀ V : Nat → Nat → Int32, (if c = i then V else if V 6 c = V 6 i then cset V 7 (upd (V 7) i (V 7 i ||| sg c)) else V) 6 = V 6 := fun V => by
    split
    · rfl
    · split <;> rfl
  unfold stLM1
  show (if S 6 c = -1 then _ else if S 6 c = S 6 g then _ else _ : Nat → Nat → Int32) 6 = _
  split
  · exact e W
  · split
    · exact e W
    · exact e W
theorem stLM1_8 {S W : Nat → Nat → Int32} {i g c : Nat} : stLM1 S i g c W 8 = W 8 := by
  have e : ∀ V : Nat → Nat → Int32, (if c = i then V else if V 6 c = V 6 i then cset V 7 (upd (V 7) i (V 7 i ||| sg c)) else V) 8 = V 8 := fun V => by
    split
    · rfl
    · split <;> rfl
  unfold stLM1
  show (if S 6 c = -1 then _ else if S 6 c = S 6 g then _ else _ : Nat → Nat → Int32) 8 = _
  split
  · exact e W
  · split
    · exact e W
    · exact e W
theorem stLM1_10 {S W : Nat → Nat → Int32} {i g c : Nat} : stLM1 S i g c W 10 = W 10 := by
  have e : ∀ V : Nat → Nat → Int32, (if c = i then V else if V 6 c = V 6 i then cset V 7 (upd (V 7) i (V 7 i ||| sg c)) else V) 10 = V 10 := fun V => by
    split
    · rfl
    · split <;> rfl
  unfold stLM1
  show (if S 6 c = -1 then _ else if S 6 c = S 6 g then _ else _ : Nat → Nat → Int32) 10 = _
  split
  · exact e W
  · split
    · exact e W
    · exact e W
theorem stLM1_11 {S W : Nat → Nat → Int32} {i g c : Nat} : stLM1 S i g c W 11 = W 11 := by
  have e : ∀ V : Nat → Nat → Int32, (if c = i then V else if V 6 c = V 6 i then cset V 7 (upd (V 7) i (V 7 i ||| sg c)) else V) 11 = V 11 := fun V => by
    split
    · rfl
    · split <;> rfl
  unfold stLM1
  show (if S 6 c = -1 then _ else if S 6 c = S 6 g then _ else _ : Nat → Nat → Int32) 11 = _
  split
  · exact e W
  · split
    · exact e W
    · exact e W
theorem stLM1_12 {S W : Nat → Nat → Int32} {i g c : Nat} : stLM1 S i g c W 12 = W 12 := by
  have e : ∀ V : Nat → Nat → Int32, (if c = i then V else if V 6 c = V 6 i then cset V 7 (upd (V 7) i (V 7 i ||| sg c)) else V) 12 = V 12 := fun V => by
    split
    · rfl
    · split <;> rfl
  unfold stLM1
  show (if S 6 c = -1 then _ else if S 6 c = S 6 g then _ else _ : Nat → Nat → Int32) 12 = _
  split
  · exact e W
  · split
    · exact e W
    · exact e W
theorem stLM1_13 {S W : Nat → Nat → Int32} {i g c : Nat} : stLM1 S i g c W 13 = W 13 := by
  have e : ∀ V : Nat → Nat → Int32, (if c = i then V else if V 6 c = V 6 i then cset V 7 (upd (V 7) i (V 7 i ||| sg c)) else V) 13 = V 13 := fun V => by
    split
    · rfl
    · split <;> rfl
  unfold stLM1
  show (if S 6 c = -1 then _ else if S 6 c = S 6 g then _ else _ : Nat → Nat → Int32) 13 = _
  split
  · exact e W
  · split
    · exact e W
    · exact e W
theorem stLM1_14 {S W : Nat → Nat → Int32} {i g c : Nat} : stLM1 S i g c W 14 = W 14 := by
  have e : ∀ V : Nat → Nat → Int32, (if c = i then V else if V 6 c = V 6 i then cset V 7 (upd (V 7) i (V 7 i ||| sg c)) else V) 14 = V 14 := fun V => by
    split
    · rfl
    · split <;> rfl
  unfold stLM1
  show (if S 6 c = -1 then _ else if S 6 c = S 6 g then _ else _ : Nat → Nat → Int32) 14 = _
  split
  · exact e W
  · split
    · exact e W
    · exact e W
theorem stLM1_15 {S W : Nat → Nat → Int32} {i g c : Nat} : stLM1 S i g c W 15 = W 15 := by
  have e : ∀ V : Nat → Nat → Int32, (if c = i then V else if V 6 c = V 6 i then cset V 7 (upd (V 7) i (V 7 i ||| sg c)) else V) 15 = V 15 := fun V => by
    split
    · rfl
    · split <;> rfl
  unfold stLM1
  show (if S 6 c = -1 then _ else if S 6 c = S 6 g then _ else _ : Nat → Nat → Int32) 15 = _
  split
  · exact e W
  · split
    · exact e W
    · exact e W
theorem stLM1_7 {S W : Nat → Nat → Int32} {i g c : Nat} : stLM1 S i g c W 7 = rC (fun c => !decide (c = i) && decide (W 6 c = W 6 i)) (fun _ => i) c (W 7) := by
  have e : (if c = i then W else if W 6 c = W 6 i then cset W 7 (upd (W 7) i (W 7 i ||| sg c)) else W) 7 = rC (fun c => !decide (c = i) && decide (W 6 c = W 6 i)) (fun _ => i) c (W 7) := by
    unfold rC
    by_cases h1 : c = i
    · simp [h1]
    · by_cases h2 : W 6 c = W 6 i
      · simp [h1, h2, cset]
      · simp [h1, h2]
  unfold stLM1
  show (if S 6 c = -1 then _ else if S 6 c = S 6 g then _ else _ : Nat → Nat → Int32) 7 = _
  split
  · exact e
  · split
    · exact e
    · exact e
theorem stLM1_9 {S W : Nat → Nat → Int32} {i g c : Nat} : stLM1 S i g c W 9 = rC (fun c => !decide (S 6 c = -1) && decide (S 6 c = S 6 g)) (fun _ => i) c (W 9) := by
  have e : (if c = i then W else if W 6 c = W 6 i then cset W 7 (upd (W 7) i (W 7 i ||| sg c)) else W) 9 = W 9 := by
    split
    · rfl
    · split <;> rfl
  unfold stLM1 rC
  by_cases h1 : S 6 c = -1
  · simp only [h1, if_pos]
    simp
    exact e
  · by_cases h2 : S 6 c = S 6 g
    · simp only [if_neg h1, if_pos h2]
      rw [cset_eq, e]
      simp [h1, h2]
      exact fun q => absurd q (h2 ▸ h1)
    · simp only [if_neg h1, if_neg h2]
      simp [h2]
      exact e
theorem stLMe_3 {W : Nat → Nat → Int32} {i g : Nat} : stLMe i g W 3 = if (bt (W 2 0) i && (bt (W 2 0) g && decide (W 6 g = sg i))) = true then fun _ => W 3 0 ||| sg i else W 3 := by
  unfold stLMe stLMo
  cases e0 : bt (W 0 0) g
  · cases e1 : bt (W 2 0) i <;> cases e2 : bt (W 2 0) g <;> by_cases e3 : W 6 g = sg i <;> simp [e1, e2, e3, cset]
  · cases e1 : bt (W 2 0) i <;> cases e2 : bt (W 2 0) g <;> by_cases e3 : W 6 g = sg i <;> simp [e1, e2, e3, cset]
theorem stLMe_10 {W : Nat → Nat → Int32} {i g : Nat} : stLMe i g W 10 = if bt (W 0 0) g = true then upd (W 10) i (W 8 g) else W 10 := by
  unfold stLMe stLMo
  cases e0 : bt (W 0 0) g
  · cases e1 : bt (W 2 0) i <;> cases e2 : bt (W 2 0) g <;> by_cases e3 : W 6 g = sg i <;> simp [e1, e2, e3, cset]
  · cases e1 : bt (W 2 0) i <;> cases e2 : bt (W 2 0) g <;> by_cases e3 : W 6 g = sg i <;> simp [e1, e2, e3, cset]
theorem stLMe_0 {W : Nat → Nat → Int32} {i g : Nat} : stLMe i g W 0 = W 0 := by
  unfold stLMe stLMo
  cases e0 : bt (W 0 0) g
  · cases e1 : bt (W 2 0) i <;> cases e2 : bt (W 2 0) g <;> by_cases e3 : W 6 g = sg i <;> simp [e1, e2, e3, cset]
  · cases e1 : bt (W 2 0) i <;> cases e2 : bt (W 2 0) g <;> by_cases e3 : W 6 g = sg i <;> simp [e1, e2, e3, cset]
theorem stLMe_1 {W : Nat → Nat → Int32} {i g : Nat} : stLMe i g W 1 = W 1 := by
  unfold stLMe stLMo
  cases e0 : bt (W 0 0) g
  · cases e1 : bt (W 2 0) i <;> cases e2 : bt (W 2 0) g <;> by_cases e3 : W 6 g = sg i <;> simp [e1, e2, e3, cset]
  · cases e1 : bt (W 2 0) i <;> cases e2 : bt (W 2 0) g <;> by_cases e3 : W 6 g = sg i <;> simp [e1, e2, e3, cset]
theorem stLMe_2 {W : Nat → Nat → Int32} {i g : Nat} : stLMe i g W 2 = W 2 := by
  unfold stLMe stLMo
  cases e0 : bt (W 0 0) g
  · cases e1 : bt (W 2 0) i <;> cases e2 : bt (W 2 0) g <;> by_cases e3 : W 6 g = sg i <;> simp [e1, e2, e3, cset]
  · cases e1 : bt (W 2 0) i <;> cases e2 : bt (W 2 0) g <;> by_cases e3 : W 6 g = sg i <;> simp [e1, e2, e3, cset]
theorem stLMe_4 {W : Nat → Nat → Int32} {i g : Nat} : stLMe i g W 4 = W 4 := by
  unfold stLMe stLMo
  cases e0 : bt (W 0 0) g
  · cases e1 : bt (W 2 0) i <;> cases e2 : bt (W 2 0) g <;> by_cases e3 : W 6 g = sg i <;> simp [e1, e2, e3, cset]
  · cases e1 : bt (W 2 0) i <;> cases e2 : bt (W 2 0) g <;> by_cases e3 : W 6 g = sg i <;> simp [e1, e2, e3, cset]
theorem stLMe_5 {W : Nat → Nat → Int32} {i g : Nat} : stLMe i g W 5 = W 5 := by
  unfold stLMe stLMo
  cases e0 : bt (W 0 0) g
  · cases e1 : bt (W 2 0) i <;> cases e2 : bt (W 2 0) g <;> by_cases e3 : W 6 g = sg i <;> simp [e1, e2, e3, cset]
  · cases e1 : bt (W 2 0) i <;> cases e2 : bt (W 2 0) g <;> by_cases e3 : W 6 g = sg i <;> simp [e1, e2, e3, cset]
theorem stLMe_6 {W : Nat → Nat → Int32} {i g : Nat} : stLMe i g W 6 = W 6 := by
  unfold stLMe stLMo
  cases e0 : bt (W 0 0) g
  · cases e1 : bt (W 2 0) i <;> cases e2 : bt (W 2 0) g <;> by_cases e3 : W 6 g = sg i <;> simp [e1, e2, e3, cset]
  · cases e1 : bt (W 2 0) i <;> cases e2 : bt (W 2 0) g <;> by_cases e3 : W 6 g = sg i <;> simp [e1, e2, e3, cset]
theorem stLMe_7 {W : Nat → Nat → Int32} {i g : Nat} : stLMe i g W 7 = W 7 := by
  unfold stLMe stLMo
  cases e0 : bt (W 0 0) g
  · cases e1 : bt (W 2 0) i <;> cases e2 : bt (W 2 0) g <;> by_cases e3 : W 6 g = sg i <;> simp [e1, e2, e3, cset]
  · cases e1 : bt (W 2 0) i <;> cases e2 : bt (W 2 0) g <;> by_cases e3 : W 6 g = sg i <;> simp [e1, e2, e3, cset]
theorem stLMe_8 {W : Nat → Nat → Int32} {i g : Nat} : stLMe i g W 8 = W 8 := by
  unfold stLMe stLMo
  cases e0 : bt (W 0 0) g
  · cases e1 : bt (W 2 0) i <;> cases e2 : bt (W 2 0) g <;> by_cases e3 : W 6 g = sg i <;> simp [e1, e2, e3, cset]
  · cases e1 : bt (W 2 0) i <;> cases e2 : bt (W 2 0) g <;> by_cases e3 : W 6 g = sg i <;> simp [e1, e2, e3, cset]
theorem stLMe_9 {W : Nat → Nat → Int32} {i g : Nat} : stLMe i g W 9 = W 9 := by
  unfold stLMe stLMo
  cases e0 : bt (W 0 0) g
  · cases e1 : bt (W 2 0) i <;> cases e2 : bt (W 2 0) g <;> by_cases e3 : W 6 g = sg i <;> simp [e1, e2, e3, cset]
  · cases e1 : bt (W 2 0) i <;> cases e2 : bt (W 2 0) g <;> by_cases e3 : W 6 g = sg i <;> simp [e1, e2, e3, cset]
theorem stLMe_11 {W : Nat → Nat → Int32} {i g : Nat} : stLMe i g W 11 = W 11 := by
  unfold stLMe stLMo
  cases e0 : bt (W 0 0) g
  · cases e1 : bt (W 2 0) i <;> cases e2 : bt (W 2 0) g <;> by_cases e3 : W 6 g = sg i <;> simp [e1, e2, e3, cset]
  · cases e1 : bt (W 2 0) i <;> cases e2 : bt (W 2 0) g <;> by_cases e3 : W 6 g = sg i <;> simp [e1, e2, e3, cset]
theorem stLMe_12 {W : Nat → Nat → Int32} {i g : Nat} : stLMe i g W 12 = W 12 := by
  unfold stLMe stLMo
  cases e0 : bt (W 0 0) g
  · cases e1 : bt (W 2 0) i <;> cases e2 : bt (W 2 0) g <;> by_cases e3 : W 6 g = sg i <;> simp [e1, e2, e3, cset]
  · cases e1 : bt (W 2 0) i <;> cases e2 : bt (W 2 0) g <;> by_cases e3 : W 6 g = sg i <;> simp [e1, e2, e3, cset]
theorem stLMe_13 {W : Nat → Nat → Int32} {i g : Nat} : stLMe i g W 13 = W 13 := by
  unfold stLMe stLMo
  cases e0 : bt (W 0 0) g
  · cases e1 : bt (W 2 0) i <;> cases e2 : bt (W 2 0) g <;> by_cases e3 : W 6 g = sg i <;> simp [e1, e2, e3, cset]
  · cases e1 : bt (W 2 0) i <;> cases e2 : bt (W 2 0) g <;> by_cases e3 : W 6 g = sg i <;> simp [e1, e2, e3, cset]
theorem stLMe_14 {W : Nat → Nat → Int32} {i g : Nat} : stLMe i g W 14 = W 14 := by
  unfold stLMe stLMo
  cases e0 : bt (W 0 0) g
  · cases e1 : bt (W 2 0) i <;> cases e2 : bt (W 2 0) g <;> by_cases e3 : W 6 g = sg i <;> simp [e1, e2, e3, cset]
  · cases e1 : bt (W 2 0) i <;> cases e2 : bt (W 2 0) g <;> by_cases e3 : W 6 g = sg i <;> simp [e1, e2, e3, cset]
theorem stLMe_15 {W : Nat → Nat → Int32} {i g : Nat} : stLMe i g W 15 = W 15 := by
  unfold stLMe stLMo
  cases e0 : bt (W 0 0) g
  · cases e1 : bt (W 2 0) i <;> cases e2 : bt (W 2 0) g <;> by_cases e3 : W 6 g = sg i <;> simp [e1, e2, e3, cset]
  · cases e1 : bt (W 2 0) i <;> cases e2 : bt (W 2 0) g <;> by_cases e3 : W 6 g = sg i <;> simp [e1, e2, e3, cset]
theorem stLM_0 {S W : Nat → Nat → Int32} {i : Nat} : stLM S i W 0 = W 0 := by
  unfold stLM
  rw [stLMe_0, osit_row (fun a W => stLM1_0)]
theorem stLM_1 {S W : Nat → Nat → Int32} {i : Nat} : stLM S i W 1 = W 1 := by
  unfold stLM
  rw [stLMe_1, osit_row (fun a W => stLM1_1)]
theorem stLM_2 {S W : Nat → Nat → Int32} {i : Nat} : stLM S i W 2 = W 2 := by
  unfold stLM
  rw [stLMe_2, osit_row (fun a W => stLM1_2)]
theorem stLM_4 {S W : Nat → Nat → Int32} {i : Nat} : stLM S i W 4 = W 4 := by
  unfold stLM
  rw [stLMe_4, osit_row (fun a W => stLM1_4)]
theorem stLM_5 {S W : Nat → Nat → Int32} {i : Nat} : stLM S i W 5 = W 5 := by
  unfold stLM
  rw [stLMe_5, osit_row (fun a W => stLM1_5)]
theorem stLM_6 {S W : Nat → Nat → Int32} {i : Nat} : stLM S i W 6 = W 6 := by
  unfold stLM
  rw [stLMe_6, osit_row (fun a W => stLM1_6)]
theorem stLM_8 {S W : Nat → Nat → Int32} {i : Nat} : stLM S i W 8 = W 8 := by
  unfold stLM
  rw [stLMe_8, osit_row (fun a W => stLM1_8)]
theorem stLM_11 {S W : Nat → Nat → Int32} {i : Nat} : stLM S i W 11 = W 11 := by
  unfold stLM
  rw [stLMe_11, osit_row (fun a W => stLM1_11)]
theorem stLM_12 {S W : Nat → Nat → Int32} {i : Nat} : stLM S i W 12 = W 12 := by
  unfold stLM
  rw [stLMe_12, osit_row (fun a W => stLM1_12)]
theorem stLM_13 {S W : Nat → Nat → Int32} {i : Nat} : stLM S i W 13 = W 13 := by
  unfold stLM
  rw [stLMe_13, osit_row (fun a W => stLM1_13)]
theorem stLM_14 {S W : Nat → Nat → Int32} {i : Nat} : stLM S i W 14 = W 14 := by
  unfold stLM
  rw [stLMe_14, osit_row (fun a W => stLM1_14)]
theorem stLM_15 {S W : Nat → Nat → Int32} {i : Nat} : stLM S i W 15 = W 15 := by
  unfold stLM
  rw [stLMe_15, osit_row (fun a W => stLM1_15)]
theorem stLM_3 {S W : Nat → Nat → Int32} {i : Nat} : stLM S i W 3 = if (bt (W 2 0) i && (bt (W 2 0) (gof S i) && decide (W 6 (gof S i) = sg i))) = true then fun _ => W 3 0 ||| sg i else W 3 := by
  unfold stLM
  rw [stLMe_3, osit_row (j := 2) (fun a W => stLM1_2), osit_row (j := 3) (fun a W => stLM1_3), osit_row (j := 6) (fun a W => stLM1_6)]
theorem stLM_10 {S W : Nat → Nat → Int32} {i : Nat} : stLM S i W 10 = if bt (W 0 0) (gof S i) = true then upd (W 10) i (W 8 (gof S i)) else W 10 := by
  unfold stLM
  rw [stLMe_10, osit_row (j := 0) (fun a W => stLM1_0), osit_row (j := 8) (fun a W => stLM1_8), osit_row (j := 10) (fun a W => stLM1_10)]
theorem stLM_7 {S W : Nat → Nat → Int32} {i : Nat} : stLM S i W 7 = osit (fun c f => rC (fun c => !decide (c = i) && decide (W 6 c = W 6 i)) (fun _ => i) c f) 0 16 (W 7) := by
  unfold stLM
  rw [stLMe_7]
  exact osit_pr (r := fun c f => rC (fun c => !decide (c = i) && decide (W 6 c = W 6 i)) (fun _ => i) c f) (fun V => V 6 = W 6) (fun a V hV => by rw [stLM1_6]; exact hV) (fun a V hV => by rw [stLM1_7, hV]) rfl
theorem stLM_9 {S W : Nat → Nat → Int32} {i : Nat} : stLM S i W 9 = osit (fun c f => rC (fun c => !decide (S 6 c = -1) && decide (S 6 c = S 6 (gof S i))) (fun _ => i) c f) 0 16 (W 9) := by
  unfold stLM
  rw [stLMe_9]
  exact osit_pr (r := fun c f => rC (fun c => !decide (S 6 c = -1) && decide (S 6 c = S 6 (gof S i))) (fun _ => i) c f) (fun _ => True) (fun _ _ _ => trivial) (fun a V _ => stLM1_9) trivial
def I3 (V W : Nat → Nat → Int32) : Prop := W 0 = V 0 ∧ W 1 = V 1 ∧ W 2 = V 2 ∧ W 6 = V 6 ∧ W 8 = V 8
theorem P3_0 {S W : Nat → Nat → Int32} {a : Nat} : stP3 S a W 0 = W 0 := by
  unfold stP3
  split
  · rw [stLM_0]
  · rfl
theorem P3_1 {S W : Nat → Nat → Int32} {a : Nat} : stP3 S a W 1 = W 1 := by
  unfold stP3
  split
  · rw [stLM_1]
  · rfl
theorem P3_2 {S W : Nat → Nat → Int32} {a : Nat} : stP3 S a W 2 = W 2 := by
  unfold stP3
  split
  · rw [stLM_2]
  · rfl
theorem P3_4 {S W : Nat → Nat → Int32} {a : Nat} : stP3 S a W 4 = W 4 := by
  unfold stP3
  split
  · rw [stLM_4]
  · rfl
theorem P3_5 {S W : Nat → Nat → Int32} {a : Nat} : stP3 S a W 5 = W 5 := by
  unfold stP3
  split
  · rw [stLM_5]
  · rfl
theorem P3_6 {S W : Nat → Nat → Int32} {a : Nat} : stP3 S a W 6 = W 6 := by
  unfold stP3
  split
  · rw [stLM_6]
  · rfl
theorem P3_8 {S W : Nat → Nat → Int32} {a : Nat} : stP3 S a W 8 = W 8 := by
  unfold stP3
  split
  · rw [stLM_8]
  · rfl
theorem P3_11 {S W : Nat → Nat → Int32} {a : Nat} : stP3 S a W 11 = W 11 := by
  unfold stP3
  split
  · rw [stLM_11]
  · rfl
theorem P3_12 {S W : Nat → Nat → Int32} {a : Nat} : stP3 S a W 12 = W 12 := by
  unfold stP3
  split
  · rw [stLM_12]
  · rfl
theorem P3_13 {S W : Nat → Nat → Int32} {a : Nat} : stP3 S a W 13 = W 13 := by
  unfold stP3
  split
  · rw [stLM_13]
  · rfl
theorem P3_14 {S W : Nat → Nat → Int32} {a : Nat} : stP3 S a W 14 = W 14 := by
  unfold stP3
  split
  · rw [stLM_14]
  · rfl
theorem P3_15 {S W : Nat → Nat → Int32} {a : Nat} : stP3 S a W 15 = W 15 := by
  unfold stP3
  split
  · rw [stLM_15]
  · rfl
theorem P3_I {S V W : Nat → Nat → Int32} {a : Nat} (h : I3 V W) : I3 V (stP3 S a W) := ⟨P3_0.trans h.1, P3_1.trans h.2.1, P3_2.trans h.2.2.1, P3_6.trans h.2.2.2.1, P3_8.trans h.2.2.2.2⟩
theorem P3_3 {S V W : Nat → Nat → Int32} {a : Nat} (h : I3 V W) : stP3 S a W 3 = rA (fun a => bt (V 1 0) a && (bt (V 2 0) a && (bt (V 2 0) (gof S a) && decide (V 6 (gof S a) = sg a)))) a (W 3) := by
  unfold stP3 rA
  rw [h.2.1]
  cases e : bt (V 1 0) a
  · simp [e]
  · simp only [if_true, stLM_3, h.2.2.1, h.2.2.2.1, e, Bool.true_and]
theorem P3_10 {S V W : Nat → Nat → Int32} {a : Nat} (h : I3 V W) : stP3 S a W 10 = rB (fun a => bt (V 1 0) a && bt (V 0 0) (gof S a)) (fun a => V 8 (gof S a)) a (W 10) := by
  unfold stP3 rB
  rw [h.2.1]
  cases e : bt (V 1 0) a
  · simp [e]
  · simp only [if_true, stLM_10, h.1, h.2.2.2.2, e, Bool.true_and]
theorem P3_7 {S V W : Nat → Nat → Int32} {a : Nat} (h : I3 V W) : stP3 S a W 7 = rD (fun a => bt (V 1 0) a) (fun a c => !decide (c = a) && decide (V 6 c = V 6 a)) a (W 7) := by
  unfold stP3 rD
  rw [h.2.1]
  cases e : bt (V 1 0) a
  · simp [e]
  · simp only [if_true, stLM_7, h.2.2.2.1, e]
theorem P3_9 {S V W : Nat → Nat → Int32} {a : Nat} (h : I3 V W) : stP3 S a W 9 = rD (fun a => bt (V 1 0) a) (fun a c => !decide (S 6 c = -1) && decide (S 6 c = S 6 (gof S a))) a (W 9) := by
  unfold stP3 rD
  rw [h.2.1]
  cases e : bt (V 1 0) a
  · simp [e]
  · simp only [if_true, stLM_9, e]
