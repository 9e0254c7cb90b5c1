/-! Links: what stands in the end (by program) -/
theorem sg_inj {a b : Nat} (ha : a < 32) (hb : b < 32) : sg a = sg b ↔ a = b := by
  refine ⟨fun h => ?_, fun h => by rw [h]⟩
  have := congrArg (fun x => bt x a) h
  simp only [b_sg ha ha, b_sg hb ha] at this
  simpa using this
theorem sg_n0 {a : Nat} (ha : a < 32) : ¬ (0 : Int32) = sg a := fun h => by
  have := congrArg (fun x => bt x a) h
  simp only [b_sg ha ha, b_0] at this
  simp at this
/-- what Links says of a board and a state -/
def LK (C S L : Nat → Nat → Int32) : Prop :=
  (∀ i, i < 32 → bt (L 0 0) i = (decide (i < 16) && uu S i)) ∧
  (∀ i, i < 32 → bt (L 1 0) i = (decide (i < 16) && mv S i)) ∧
  (∀ i, i < 32 → bt (L 2 0) i = (decide (i < 16) && dm C S i)) ∧
  (∀ i, i < 32 → bt (L 3 0) i = (decide (i < 16) && opp C S i)) ∧
  (∀ i, i < 32 → bt (L 4 0) i = (decide (i < 16) && spg S i)) ∧
  (∀ i, i < 32 → bt (L 5 0) i = (decide (i < 16) && blg S i)) ∧
  (∀ j, j < 16 → L 6 j = if mv S j = true then sg (gof S j) else 0) ∧
  (∀ i j, j < 16 → i < 32 → bt (L 7 j) i = (mv S j && (decide (i < 16) && (!decide (i = j) && (mv S i && decide (gof S i = gof S j)))))) ∧
  (∀ i j, j < 16 → i < 32 → bt (L 8 j) i = (decide (i < 16) && (blg S i && decide (gof S i = j)))) ∧
  (∀ i j, j < 16 → i < 32 → bt (L 9 j) i = (mv S j && (decide (i < 16) && (uu S i && decide (S 6 i = S 6 (gof S j)))))) ∧
  (∀ j, j < 16 → mv S j = true → L 10 j = if uu S (gof S j) = true then L 8 (gof S j) else 0) ∧
  (∀ i j, j < 16 → i < 32 → bt (L 11 j) i = (blg S j && (decide (i < 16) && cutt S j i))) ∧
  (∀ i j, j < 16 → i < 32 → bt (L 12 j) i = (decide (i < 16) && cvy C S j i)) ∧
  (∀ j, j < 16 → mv S j = true → L 13 j = bd C j 1) ∧
  (∀ j, j < 16 → mv S j = true → L 14 j = bd C (gof S j) 1) ∧
  (∀ j, j < 16 → L 15 j = bd C j 1)
theorem LK.u {C S L : Nat → Nat → Int32} (h : LK C S L) {i : Nat} : i < 32 → bt (L 0 0) i = (decide (i < 16) && uu S i) := h.1 _
theorem LK.m {C S L : Nat → Nat → Int32} (h : LK C S L) {i : Nat} : i < 32 → bt (L 1 0) i = (decide (i < 16) && mv S i) := h.2.1 _
theorem LK.d {C S L : Nat → Nat → Int32} (h : LK C S L) {i : Nat} : i < 32 → bt (L 2 0) i = (decide (i < 16) && dm C S i) := h.2.2.1 _
theorem LK.op {C S L : Nat → Nat → Int32} (h : LK C S L) {i : Nat} : i < 32 → bt (L 3 0) i = (decide (i < 16) && opp C S i) := h.2.2.2.1 _
theorem LK.sp {C S L : Nat → Nat → Int32} (h : LK C S L) {i : Nat} : i < 32 → bt (L 4 0) i = (decide (i < 16) && spg S i) := h.2.2.2.2.1 _
theorem LK.bl {C S L : Nat → Nat → Int32} (h : LK C S L) {i : Nat} : i < 32 → bt (L 5 0) i = (decide (i < 16) && blg S i) := h.2.2.2.2.2.1 _
theorem LK.goal {C S L : Nat → Nat → Int32} (h : LK C S L) {j : Nat} : j < 16 → L 6 j = if mv S j = true then sg (gof S j) else 0 := h.2.2.2.2.2.2.1 _
theorem LK.rv {C S L : Nat → Nat → Int32} (h : LK C S L) {i j : Nat} : j < 16 → i < 32 → bt (L 7 j) i = (mv S j && (decide (i < 16) && (!decide (i = j) && (mv S i && decide (gof S i = gof S j))))) := h.2.2.2.2.2.2.2.1 _ _
theorem LK.bk {C S L : Nat → Nat → Int32} (h : LK C S L) {i j : Nat} : j < 16 → i < 32 → bt (L 8 j) i = (decide (i < 16) && (blg S i && decide (gof S i = j))) := h.2.2.2.2.2.2.2.2.1 _ _
theorem LK.ho {C S L : Nat → Nat → Int32} (h : LK C S L) {i j : Nat} : j < 16 → i < 32 → bt (L 9 j) i = (mv S j && (decide (i < 16) && (uu S i && decide (S 6 i = S 6 (gof S j))))) := h.2.2.2.2.2.2.2.2.2.1 _ _
theorem LK.hb {C S L : Nat → Nat → Int32} (h : LK C S L) {j : Nat} : j < 16 → mv S j = true → L 10 j = if uu S (gof S j) = true then L 8 (gof S j) else 0 := h.2.2.2.2.2.2.2.2.2.2.1 _
theorem LK.cu {C S L : Nat → Nat → Int32} (h : LK C S L) {i j : Nat} : j < 16 → i < 32 → bt (L 11 j) i = (blg S j && (decide (i < 16) && cutt S j i)) := h.2.2.2.2.2.2.2.2.2.2.2.1 _ _
theorem LK.cv {C S L : Nat → Nat → Int32} (h : LK C S L) {i j : Nat} : j < 16 → i < 32 → bt (L 12 j) i = (decide (i < 16) && cvy C S j i) := h.2.2.2.2.2.2.2.2.2.2.2.2.1 _ _
theorem LK.bo {C S L : Nat → Nat → Int32} (h : LK C S L) {j : Nat} : j < 16 → mv S j = true → L 13 j = bd C j 1 := h.2.2.2.2.2.2.2.2.2.2.2.2.2.1 _
theorem LK.la {C S L : Nat → Nat → Int32} (h : LK C S L) {j : Nat} : j < 16 → mv S j = true → L 14 j = bd C (gof S j) 1 := h.2.2.2.2.2.2.2.2.2.2.2.2.2.2.1 _
theorem LK.wa {C S L : Nat → Nat → Int32} (h : LK C S L) {j : Nat} : j < 16 → L 15 j = bd C j 1 := h.2.2.2.2.2.2.2.2.2.2.2.2.2.2.2 _
section
variable {C S L : Nat → Nat → Int32}
theorem mv_uu {a : Nat} (h : mv S a = true) : uu S a = true := by unfold mv at h; unfold uu; simp at h ⊢; exact h.1
theorem mv_g (ho : okO S) {a : Nat} (ha : a < 16) (h : mv S a = true) : S 13 a = nI (gof S a) ∧ gof S a < 16 := by
  unfold mv at h
  simp at h
  exact (ho a ha h.1).2.1 (by rw [h.2]; decide)
theorem uu_g (ho : okO S) {a : Nat} (ha : a < 16) (h : uu S a = true) (hk : ¬ S 12 a = 0) : S 13 a = nI (gof S a) ∧ gof S a < 16 := by
  unfold uu at h
  simp at h
  exact (ho a ha h).2.1 hk
theorem uu_s (ho : okO S) {a : Nat} (ha : a < 16) (h : uu S a = true) (hk : S 12 a = 3 ∨ S 12 a = 4) : S 14 a = nI (sof S a) ∧ sof S a < 16 := by
  unfold uu at h
  simp at h
  exact (ho a ha h).2.2 hk
theorem I2_rf {V : Nat → Nat → Int32} : I2 V V := ⟨rfl, rfl, rfl, rfl⟩
theorem I3_rf {V : Nat → Nat → Int32} : I3 V V := ⟨rfl, rfl, rfl, rfl, rfl⟩
theorem L2_0 : L2 C S L 0 = L1 C S L 0 := osit_row (fun a W => P2_0)
theorem L2_1 : L2 C S L 1 = L1 C S L 1 := osit_row (fun a W => P2_1)
theorem L2_2 : L2 C S L 2 = L1 C S L 2 := osit_row (fun a W => P2_2)
theorem L2_6 : L2 C S L 6 = L1 C S L 6 := osit_row (fun a W => P2_6)
theorem L2_13 : L2 C S L 13 = L1 C S L 13 := osit_row (fun a W => P2_13)
theorem L2_14 : L2 C S L 14 = L1 C S L 14 := osit_row (fun a W => P2_14)
theorem L2_15 : L2 C S L 15 = L1 C S L 15 := osit_row (fun a W => P2_15)
theorem L2_7 : L2 C S L 7 = L1 C S L 7 := osit_row (fun a W => P2_7)
theorem L2_9 : L2 C S L 9 = L1 C S L 9 := osit_row (fun a W => P2_9)
theorem L2_10 : L2 C S L 10 = L1 C S L 10 := osit_row (fun a W => P2_10)
theorem L2_3 : L2 C S L 3 = L1 C S L 3 := osit_row (fun a W => P2_3)
theorem pr_0 : prep C S L 0 = L2 C S L 0 := osit_row (fun a W => P3_0)
theorem pr_1 : prep C S L 1 = L2 C S L 1 := osit_row (fun a W => P3_1)
theorem pr_2 : prep C S L 2 = L2 C S L 2 := osit_row (fun a W => P3_2)
theorem pr_6 : prep C S L 6 = L2 C S L 6 := osit_row (fun a W => P3_6)
theorem pr_13 : prep C S L 13 = L2 C S L 13 := osit_row (fun a W => P3_13)
theorem pr_14 : prep C S L 14 = L2 C S L 14 := osit_row (fun a W => P3_14)
theorem pr_15 : prep C S L 15 = L2 C S L 15 := osit_row (fun a W => P3_15)
theorem pr_4 : prep C S L 4 = L2 C S L 4 := osit_row (fun a W => P3_4)
theorem pr_5 : prep C S L 5 = L2 C S L 5 := osit_row (fun a W => P3_5)
theorem pr_8 : prep C S L 8 = L2 C S L 8 := osit_row (fun a W => P3_8)
theorem pr_11 : prep C S L 11 = L2 C S L 11 := osit_row (fun a W => P3_11)
theorem pr_12 : prep C S L 12 = L2 C S L 12 := osit_row (fun a W => P3_12)
theorem pp_4 : (osit (fun a W => stP2 S a W) 0 16 (L1 C S L)) 4 = osit (fun a f => rA (fun a => bt (L1 C S L 0 0) a && spW S a) a f) 0 16 ((L1 C S L) 4) := osit_pr (r := fun a f => rA (fun a => bt (L1 C S L 0 0) a && spW S a) a f) (I2 (L1 C S L)) (fun a W h => P2_I h) (fun a W h => P2_4 h) I2_rf
theorem pp_5 : (osit (fun a W => stP2 S a W) 0 16 (L1 C S L)) 5 = osit (fun a f => rA (fun a => bt (L1 C S L 0 0) a && blW S (L1 C S L) a) a f) 0 16 ((L1 C S L) 5) := osit_pr (r := fun a f => rA (fun a => bt (L1 C S L 0 0) a && blW S (L1 C S L) a) a f) (I2 (L1 C S L)) (fun a W h => P2_I h) (fun a W h => P2_5 h) I2_rf
theorem pp_8 : (osit (fun a W => stP2 S a W) 0 16 (L1 C S L)) 8 = osit (fun a f => rC (fun a => bt (L1 C S L 0 0) a && blW S (L1 C S L) a) (gof S) a f) 0 16 ((L1 C S L) 8) := osit_pr (r := fun a f => rC (fun a => bt (L1 C S L 0 0) a && blW S (L1 C S L) a) (gof S) a f) (I2 (L1 C S L)) (fun a W h => P2_I h) (fun a W h => P2_8 h) I2_rf
theorem pp_11 : (osit (fun a W => stP2 S a W) 0 16 (L1 C S L)) 11 = osit (fun a f => rD (fun a => bt (L1 C S L 0 0) a && blW S (L1 C S L) a) (fun a => cuQ S (L1 C S L 6) a (spr S a)) a f) 0 16 ((L1 C S L) 11) := osit_pr (r := fun a f => rD (fun a => bt (L1 C S L 0 0) a && blW S (L1 C S L) a) (fun a => cuQ S (L1 C S L 6) a (spr S a)) a f) (I2 (L1 C S L)) (fun a W h => P2_I h) (fun a W h => P2_11 h) I2_rf
theorem pp_12 : (osit (fun a W => stP2 S a W) 0 16 (L1 C S L)) 12 = osit (fun a f => rC (fun a => bt (L1 C S L 0 0) a && cvW S (L1 C S L) a) (gof S) a f) 0 16 ((L1 C S L) 12) := osit_pr (r := fun a f => rC (fun a => bt (L1 C S L 0 0) a && cvW S (L1 C S L) a) (gof S) a f) (I2 (L1 C S L)) (fun a W h => P2_I h) (fun a W h => P2_12 h) I2_rf
theorem pp_3 : (osit (fun a W => stP3 S a W) 0 16 (L2 C S L)) 3 = osit (fun a f => rA (fun a => bt (L2 C S L 1 0) a && (bt (L2 C S L 2 0) a && (bt (L2 C S L 2 0) (gof S a) && decide (L2 C S L 6 (gof S a) = sg a)))) a f) 0 16 ((L2 C S L) 3) := osit_pr (r := fun a f => rA (fun a => bt (L2 C S L 1 0) a && (bt (L2 C S L 2 0) a && (bt (L2 C S L 2 0) (gof S a) && decide (L2 C S L 6 (gof S a) = sg a)))) a f) (I3 (L2 C S L)) (fun a W h => P3_I h) (fun a W h => P3_3 h) I3_rf
theorem pp_10 : (osit (fun a W => stP3 S a W) 0 16 (L2 C S L)) 10 = osit (fun a f => rB (fun a => bt (L2 C S L 1 0) a && bt (L2 C S L 0 0) (gof S a)) (fun a => L2 C S L 8 (gof S a)) a f) 0 16 ((L2 C S L) 10) := osit_pr (r := fun a f => rB (fun a => bt (L2 C S L 1 0) a && bt (L2 C S L 0 0) (gof S a)) (fun a => L2 C S L 8 (gof S a)) a f) (I3 (L2 C S L)) (fun a W h => P3_I h) (fun a W h => P3_10 h) I3_rf
theorem pp_7 : (osit (fun a W => stP3 S a W) 0 16 (L2 C S L)) 7 = osit (fun a f => rD (fun a => bt (L2 C S L 1 0) a) (fun a c => !decide (c = a) && decide (L2 C S L 6 c = L2 C S L 6 a)) a f) 0 16 ((L2 C S L) 7) := osit_pr (r := fun a f => rD (fun a => bt (L2 C S L 1 0) a) (fun a c => !decide (c = a) && decide (L2 C S L 6 c = L2 C S L 6 a)) a f) (I3 (L2 C S L)) (fun a W h => P3_I h) (fun a W h => P3_7 h) I3_rf
theorem pp_9 : (osit (fun a W => stP3 S a W) 0 16 (L2 C S L)) 9 = osit (fun a f => rD (fun a => bt (L2 C S L 1 0) a) (fun a c => !decide (S 6 c = -1) && decide (S 6 c = S 6 (gof S a))) a f) 0 16 ((L2 C S L) 9) := osit_pr (r := fun a f => rD (fun a => bt (L2 C S L 1 0) a) (fun a c => !decide (S 6 c = -1) && decide (S 6 c = S 6 (gof S a))) a f) (I3 (L2 C S L)) (fun a W h => P3_I h) (fun a W h => P3_9 h) I3_rf
theorem goal_eq {j g : Nat} (hj : j < 16) (hg : g < 32) (ho : okO S) : decide (L1 C S L 6 j = sg g) = (mv S j && decide (gof S j = g)) := by
  rw [L1_6 hj]
  cases e : mv S j
  · simp [sg_n0 hg]
  · have := (mv_g ho hj e).2
    simp [sg_inj (show gof S j < 32 by omega) hg]
theorem bl_1 (ho : okO S) {i : Nat} (hi : i < 16) : (bt (L1 C S L 0 0) i && blW S (L1 C S L) i) = blg S i := by
  rw [L1_0 (by omega)]
  unfold blW blg
  cases eu : uu S i
  · simp
  · by_cases h2 : S 12 i = 2
    · have hg := (uu_g ho hi eu (by rw [h2]; decide)).2
      rw [L1_0 (by omega), L1_1 (by omega)]
      simp [h2, hi, hg]
    · by_cases h3 : S 12 i = 3
      · have hg := (uu_g ho hi eu (by rw [h3]; decide)).2
        have hs := (uu_s ho hi eu (Or.inl h3)).2
        rw [L1_1 (by omega), goal_eq hg (by omega) ho]
        cases em : mv S (gof S i) <;> simp [h3, hi, hg]
      · simp [h2, h3]
theorem cv_1 (ho : okO S) {i j : Nat} (hi : i < 16) : ((bt (L1 C S L 0 0) i && cvW S (L1 C S L) i) && decide (gof S i = j)) = cvy C S j i := by
  rw [L1_0 (by omega)]
  unfold cvW cvy
  cases eu : uu S i
  · simp
  · by_cases h4 : S 12 i = 4
    · have hg := (uu_g ho hi eu (by rw [h4]; decide)).2
      have hs := (uu_s ho hi eu (Or.inr h4)).2
      rw [b_and, b_xor, b_m1 _ (by omega), L1_1 (by omega), L1_2 (by omega), goal_eq hg (by omega) ho]
      by_cases ej : gof S i = j
      · subst ej
        cases em : mv S (gof S i) <;> simp [h4, hi, hg]
      · simp [ej]
    · simp [h4]
theorem cu_1 (ho : okO S) {i j : Nat} (hi : i < 16) (hj : j < 16) : cuQ S (L1 C S L 6) j (spr S j) i = cutt S j i := by
  unfold cuQ cutt
  rw [goal_eq hi (by omega) ho]
  cases mv S i <;> simp
theorem op_1 (ho : okO S) {i : Nat} (hi : i < 16) : (bt (L1 C S L 1 0) i && (bt (L1 C S L 2 0) i && (bt (L1 C S L 2 0) (gof S i) && decide (L1 C S L 6 (gof S i) = sg i)))) = opp C S i := by
  rw [L1_1 (by omega), L1_2 (by omega)]
  unfold opp
  cases em : mv S i
  · simp [dm, em]
  · have hg := (mv_g ho hi em).2
    rw [L1_2 (by omega), goal_eq hg (by omega) ho]
    cases ed : dm C S i
    · simp
    · cases ed2 : dm C S (gof S i)
      · simp
      · have : mv S (gof S i) = true := by unfold dm at ed2; simp at ed2; exact ed2.1
        simp [hi, hg, this]
theorem prep_LK (ho : okO S) : LK C S (prep C S L) := by
  refine ⟨fun i h => ?_, fun i h => ?_, fun i h => ?_, fun i h => ?_, fun i h => ?_, fun i h => ?_, fun j hj => ?_, fun i j hj h => ?_, fun i j hj h => ?_, fun i j hj h => ?_, fun j hj h => ?_, fun i j hj h => ?_, fun i j hj h => ?_, fun j hj h => ?_, fun j hj h => ?_, fun j hj => ?_⟩
  · rw [pr_0, L2_0, L1_0 h]
  · rw [pr_1, L2_1, L1_1 h]
  · rw [pr_2, L2_2, L1_2 h]
  · rw [prep_eq, pp_3, bt_rA (by omega) h, L2_3, L1_3, b_0, Bool.false_or, L2_1, L2_2, L2_6]
    by_cases hi : i < 16
    · rw [op_1 ho hi]
    · simp [hi]
  · rw [pr_4]
    show bt ((osit (fun a W => stP2 S a W) 0 16 (L1 C S L)) 4 0) i = _
    rw [pp_4, bt_rA (by omega) h, L1_4, b_0, Bool.false_or, L1_0 h]
    by_cases hi : i < 16
    · unfold spg spW; simp [hi]
    · simp [hi]
  · rw [pr_5]
    show bt ((osit (fun a W => stP2 S a W) 0 16 (L1 C S L)) 5 0) i = _
    rw [pp_5, bt_rA (by omega) h, L1_5, b_0, Bool.false_or]
    by_cases hi : i < 16
    · rw [bl_1 ho hi]
    · simp [hi]
  · rw [pr_6, L2_6, L1_6 hj]
  · rw [prep_eq, pp_7, bt_rD h, L2_7, L1_7 hj, b_0, Bool.false_or, L2_1, L2_6, L1_1 (by omega)]
    cases em : mv S j
    · simp
    · by_cases hi : i < 16
      · have hg := (mv_g ho hj em).2
        have e : L1 C S L 6 j = sg (gof S j) := by rw [L1_6 hj, if_pos em]
        rw [e, goal_eq hi (by omega) ho]
        simp [hj, hi]
      · simp [hi]
  · rw [pr_8]
    show bt ((osit (fun a W => stP2 S a W) 0 16 (L1 C S L)) 8 j) i = _
    rw [pp_8, bt_rC (by omega) h, L1_8 hj, b_0, Bool.false_or]
    by_cases hi : i < 16
    · rw [bl_1 ho hi]
    · simp [hi]
  · rw [prep_eq, pp_9, bt_rD h, L2_9, L1_9 hj, b_0, Bool.false_or, L2_1, L1_1 (by omega)]
    simp [hj, uu]
  · rw [prep_eq, pp_10, at_rB, L2_10, L1_10 hj, L2_1, L2_0, L1_1 (by omega), L1_0 (by have := (mv_g ho hj h).2; omega), ← prep_eq, pr_8]
    have := (mv_g ho hj h).2
    simp [hj, h, this]
  · rw [pr_11]
    show bt ((osit (fun a W => stP2 S a W) 0 16 (L1 C S L)) 11 j) i = _
    rw [pp_11, bt_rD h, L1_11 hj, b_0, Bool.false_or, bl_1 ho hj]
    by_cases hi : i < 16
    · rw [cu_1 ho hi hj]; simp [hj]
    · simp [hi]
  · rw [pr_12]
    show bt ((osit (fun a W => stP2 S a W) 0 16 (L1 C S L)) 12 j) i = _
    rw [pp_12, bt_rC (by omega) h, L1_12 hj, b_0, Bool.false_or]
    by_cases hi : i < 16
    · rw [cv_1 ho hi]
    · simp [hi]
  · rw [pr_13, L2_13, L1_13 hj, if_pos h]
  · rw [pr_14, L2_14, L1_14 hj, if_pos h]
  · rw [pr_15, L2_15, L1_15 hj]
end
section
variable {G : osG} {z : osS} {N l b s : Nat} {L C S : Nat → Nat → Int32}
theorem q_X2_prepare_115 (hl : rX2 z l L) (h : rX5 z s S) (hA : G.2.2.1 ≤ l) (hd2 : l + 11 ≤ s ∨ s + 12 ≤ l) (hm1 : ∀ a, a < 16 → bt (L 1 0) a = true → S 13 a = nI (gof S a) ∧ gof S a < 16) (hN : 16 < N) : gx (qX2_prepare_115 N (l, s, nI 0) G z) (fun _ z' => osFr l (l + 11) z z' ∧ rX2 z' l (osit (fun a W => stP3 S a W) 0 16 L)) := by
  unfold qX2_prepare_115
  refine gx_loop 16 (fun i p z' => p = (l, s, nI i) ∧ osFr l (l + 11) z z' ∧ rX2 z' l (osit (fun a W => stP3 S a W) 0 i L)) ?_ ?_ N 0 _ z (Nat.zero_le _) (by omega) ⟨rfl, osFr.rf, hl⟩
  · rintro ih a p z' h9 ⟨rfl, f_0, h_0⟩ k
    show gx (bX2_prepare_115 N ih l s (nI a) G z') _
    exact q_bX2_prepare_115 h_0 (h.keep f_0 (by omega)) hA hd2 (by rw [osit_row (fun a W => P3_1)]; exact hm1 a h9) hN h9 (fun z1 f_1 h_1 => k _ _ ⟨by rw [nI_1], f_0.tr f_1, by rw [osit_last, Nat.zero_add]; exact h_1⟩)
  · rintro ih p z' ⟨rfl, f_0, h_0⟩
    show gx (bX2_prepare_115 N ih l s (nI 16) G z') _
    unfold bX2_prepare_115
    exact gx_itet le16 (gx_ret ⟨f_0, h_0⟩)
theorem q_X2_prepare_78 (hl : rX2 z l L) (h : rX5 z s S) (hA : G.2.2.1 ≤ l) (hd2 : l + 11 ≤ s ∨ s + 12 ≤ l) (ho : okO S) (hu : ∀ a, a < 16 → bt (L 0 0) a = true → ¬ S 6 a = -1) (hm1 : ∀ a, a < 16 → bt (L 1 0) a = true → S 13 a = nI (gof S a) ∧ gof S a < 16) (hN : 16 < N) : gx (qX2_prepare_78 N (l, s, nI 0) G z) (fun _ z' => osFr l (l + 11) z z' ∧ rX2 z' l (osit (fun a W => stP3 S a W) 0 16 (osit (fun a W => stP2 S a W) 0 16 L))) := by
  unfold qX2_prepare_78
  refine gx_loop 16 (fun i p z' => p = (l, s, nI i) ∧ osFr l (l + 11) z z' ∧ rX2 z' l (osit (fun a W => stP2 S a W) 0 i L)) ?_ ?_ N 0 _ z (Nat.zero_le _) (by omega) ⟨rfl, osFr.rf, hl⟩
  · rintro ih a p z' h9 ⟨rfl, f_0, h_0⟩ k
    show gx (bX2_prepare_78 N ih l s (nI a) G z') _
    exact q_bX2_prepare_78 h_0 (h.keep f_0 (by omega)) hA hd2 ho (by rw [osit_row (fun a W => P2_0)]; exact hu a h9) hN h9 (fun z1 f_1 h_1 => k _ _ ⟨by rw [nI_1], f_0.tr f_1, by rw [osit_last, Nat.zero_add]; exact h_1⟩)
  · rintro ih p z' ⟨rfl, f_0, h_0⟩
    show gx (bX2_prepare_78 N ih l s (nI 16) G z') _
    unfold bX2_prepare_78
    exact gx_itet le16 (gx_mono (q_X2_prepare_115 h_0 (h.keep f_0 (by omega)) hA hd2 (by rw [osit_row (fun a W => P2_1)]; exact hm1) hN) (fun _ z1 ⟨f1, h1⟩ => ⟨f_0.tr f1, h1⟩))
theorem q_X2_prepare (hl : rX2 z l L) (hb : rX0 z b C) (h : rX5 z s S) (hA : G.2.2.1 ≤ l) (hd : l + 11 ≤ b ∨ b + 6 ≤ l) (hd2 : l + 11 ≤ s ∨ s + 12 ≤ l) (ho : okO S) (hN : 16 < N) : gx (qX2_prepare N l b s G z) (fun _ z' => osFr l (l + 11) z z' ∧ rX2 z' l (prep C S L)) := by
  unfold qX2_prepare
  refine gx_recvQ hl.o (by decide) (q_X2_clear hl hA hN) (fun _ z0 ⟨f0, h0⟩ => ?_)
  unfold qX2_prepare_6
  refine gx_loop 16 (fun i p z' => p = (l, b, s, nI i) ∧ osFr l (l + 11) z z' ∧ rX2 z' l (osit (fun a W => stP1 C S a W) 0 i (lclr L))) ?_ ?_ N 0 _ z0 (Nat.zero_le _) (by omega) ⟨rfl, f0, h0⟩
  · rintro ih a p z' h9 ⟨rfl, f_0, h_0⟩ k
    show gx (bX2_prepare_6 N ih l b s (nI a) G z') _
    exact q_bX2_prepare_6 h_0 (hb.keep f_0 (by omega)) (h.keep f_0 (by omega)) hA hd hd2 (fun h1 h2 => (ho a h9 h1).2.1 (by rw [h2]; decide)) h9 (fun z1 f_1 h_1 => k _ _ ⟨by rw [nI_1], f_0.tr f_1, by rw [osit_last, Nat.zero_add]; exact h_1⟩)
  · rintro ih p z' ⟨rfl, f_0, h_0⟩
    show gx (bX2_prepare_6 N ih l b s (nI 16) G z') _
    unfold bX2_prepare_6
    have e0 : ∀ a, a < 16 → bt (L1 C S L 0 0) a = true → ¬ S 6 a = -1 := fun a ha q => by
      rw [L1_0 (by omega)] at q
      simp [uu] at q
      exact q.2
    have e1 : ∀ a, a < 16 → bt (L1 C S L 1 0) a = true → S 13 a = nI (gof S a) ∧ gof S a < 16 := fun a ha q => by
      rw [L1_1 (by omega)] at q
      simp at q
      exact mv_g ho ha q.2
    exact gx_itet le16 (gx_mono (q_X2_prepare_78 h_0 (h.keep f_0 (by omega)) hA hd2 ho e0 e1 hN) (fun _ z1 ⟨f1, h1⟩ => ⟨f_0.tr f1, h1⟩))
end
