/-! settling: what both leave agrees (by program) -/
section
variable {C S T M : Nat → Nat → Int32} {D : Nat → Nat → Int64} {n np U : Nat} {sea : Bool} {X : Nat → Bool} {v : Int32}
theorem ct_one (g0 : Nat) : ∀ m, fb_ct (fun b => decide (g0 = b)) m ≤ (if g0 < m then 1 else 0)
  | 0 => Nat.zero_le _
  | m + 1 => by
    have ih := ct_one g0 m
    rw [fb_ct_succ]
    by_cases q : g0 = m
    · rw [if_neg (show ¬ g0 < m by omega)] at ih
      rw [if_pos (show g0 < m + 1 by omega)]
      split <;> omega
    · rw [if_neg (show ¬ decide (g0 = m) = true by simp [q])]
      by_cases q2 : g0 < m
      · rw [if_pos q2] at ih; rw [if_pos (show g0 < m + 1 by omega)]; omega
      · rw [if_neg q2] at ih; rw [if_neg (show ¬ g0 < m + 1 by omega)]; omega
theorem ct_goal {g : Nat → Nat} (hg : ∀ a, a < 16 → X a = true → g a < 16) : ∀ k, k ≤ 16 → fb_ct (fun b => exn (fun a => X a && decide (g a = b)) k) 16 ≤ fb_ct X k
  | 0, _ => by
    have : fb_ct (fun b => exn (fun a => X a && decide (g a = b)) 0) 16 = 0 := fb_ct_zero.mpr (fun _ _ => rfl)
    omega
  | k + 1, hk => by
    have ih := ct_goal hg k (by omega)
    rw [fb_ct_succ]
    have e : ∀ p q : Nat → Bool, ∀ m, fb_ct (fun b => p b || q b) m ≤ fb_ct p m + fb_ct q m := fun p q m => by
      induction m with
      | zero => show 0 ≤ 0 + 0; omega
      | succ m ihm =>
        rw [fb_ct_succ, fb_ct_succ, fb_ct_succ]
        cases p m <;> cases q m <;> simp <;> omega
    have h1 := e (fun b => exn (fun a => X a && decide (g a = b)) k) (fun b => X k && decide (g k = b)) 16
    have h2 : fb_ct (fun b => X k && decide (g k = b)) 16 ≤ (if X k = true then 1 else 0) := by
      cases hx : X k
      · have : fb_ct (fun b => false && decide (g k = b)) 16 = 0 := fb_ct_zero.mpr (fun _ _ => rfl)
        rw [this]; simp
      · rw [if_pos rfl]
        have h := ct_one (g k) 16
        rw [if_pos (hg k (by omega) hx)] at h
        exact h
    exact Nat.le_trans (show fb_ct (fun b => exn (fun a => X a && decide (g a = b)) (k + 1)) 16 ≤ _ from h1) (Nat.add_le_add ih h2)
theorem exW_no {a w : Nat} (hu : uu S a = false) (hw : w < 6) : exW C S sea X a w = 0 := by
  have hm : mv S a = false := by
    cases e : mv S a
    · rfl
    · rw [mv_uu e] at hu; cases hu
  rcases (show w = 0 ∨ w = 1 ∨ w = 2 ∨ w = 3 ∨ w = 4 ∨ w = 5 by omega) with e | e | e | e | e | e <;> subst e
  · show (if uu S a = true then _ else (0 : Int32)) = 0
    rw [hu]; rfl
  · show (if disl S X a = true then (1 : Int32) else 0) = 0
    unfold disl; rw [hu]; rfl
  · show (if uu S a = true then _ else (0 : Int32)) = 0
    rw [hu]; rfl
  · show (if mv S a = true then _ else (0 : Int32)) = 0
    rw [hm]; rfl
  · show (if mv S a = true then _ else (0 : Int32)) = 0
    rw [hm]; rfl
  · show (if (pth C S sea X a && !dm C S a) = true then (1 : Int32) else 0) = 0
    unfold pth dm
    rw [hm]; simp
theorem coT_uu (h : coT C S T sea X v) (hX : ∀ a, X a = true → a < 16 ∧ mv S a = true) {b : Nat} (hb : b < 16) (hu : uu T b = true) : (∃ a, a < 16 ∧ X a = true ∧ gof S a = b) ∨ sty S X b = true := by
  refine nwR_uu hX h.2.2.2.1 hb ?_
  unfold uu at hu
  simpa using hu
theorem coT_ds (h : coT C S T sea X v) {b : Nat} (hb : b < 16) : ds T b = disl S X b := by
  have := (h.2.2.2.2.2.1 b hb).1
  unfold ds
  rw [this]
  cases hd : disl S X b
  · rfl
  · have : uu S b = true := by unfold disl at hd; rw [Bool.and_eq_true] at hd; exact hd.1
    unfold uu at this
    rw [if_pos rfl]; exact this
theorem coT_J (h : coT C S T sea X v) (hX : ∀ a, X a = true → a < 16 ∧ mv S a = true) (hm : cpM C M D n np) (hi : stI C S n np U) (h0 : S 0 0 = 0) : stJ C T n np U := by
  have ho := hi.o h0
  have hu' : ∀ a, X a = true → uu S a = true := fun a ha => mv_uu (hX a ha).2
  have hg : ∀ a, a < 16 → X a = true → gof S a < n := fun a ha hx => by
    have hmv := (hX a hx).2
    have := (ho a ha (mv_uu hmv)).2.2.1 (by unfold mv at hmv; simp at hmv; rw [hmv.2]; decide)
    exact this.2
  obtain ⟨ck, c2, c3, c6, c7, c8, c10, c10', c4, c15⟩ := h
  have h := (⟨ck, c2, c3, c6, c7, c8, c10, c10', c4, c15⟩ : coT C S T sea X v)
  have hst : ∀ b, sty S X b = true → uu S b = true := fun b q => by unfold sty at q; rw [Bool.and_eq_true] at q; exact q.1
  have hdi : ∀ b, disl S X b = true → uu S b = true := fun b q => by unfold disl at q; rw [Bool.and_eq_true] at q; exact q.1
  refine ⟨Or.inr c2, by rw [ck 1 (by omega)]; exact hi.j.t, fun b hb q => ?_, fun b hb q => ?_, fun b hb q => ?_, fun b hb q => ?_, ?_, by rw [ck 5 (by omega)]; exact hi.j.ow, fun b hb q => absurd (c8 b hb).2.2 q⟩
  · have q6 : T 6 b = -1 := by unfold uu at q; simpa using q
    refine c7.2.2 b hb (fun a ha hx e => ?_) ?_
    · have := c6.1 a ha hx
      rw [e, q6] at this
      have hu := hu' a hx
      unfold uu at hu
      rw [← this] at hu; simp at hu
    · cases e : sty S X b
      · rfl
      · have := c6.2.1 b hb e
        rw [q6] at this
        have hu := hst b e
        unfold uu at hu
        rw [← this] at hu; simp at hu
  · rcases coT_uu h hX hb q with ⟨a, ha, hx, rfl⟩ | hs
    · have := hi.j.u a ha (hu' a hx)
      rw [c6.1 a ha hx, c7.1 a ha hx]
      exact ⟨hg a ha hx, this.2⟩
    · have := hi.j.u b hb (hst b hs)
      rw [c6.2.1 b hb hs, c7.2.1 b hb hs]
      exact this
  · rw [coT_ds h hb] at q
    have := hi.j.u b hb (hdi b q)
    rw [(c8 b hb).1, (c8 b hb).2.1, q]
    exact this
  · rw [coT_ds h hb] at q
    rw [(c8 b hb).2.1, q]
    exact ⟨rfl, (c8 b hb).2.2⟩
  · have g1 : fb_ct (uu T) 16 ≤ fb_ct (fun b => exn (fun a => X a && decide (gof S a = b)) 16 || sty S X b) 16 := fb_ct_sub (fun b hb q => by
      rcases coT_uu h hX hb q with ⟨a, ha, hx, e⟩ | hs
      · rw [exn_iff.mpr ⟨a, ha, by rw [hx, decide_eq_true e]; rfl⟩]; rfl
      · rw [hs]; simp)
    rw [fb_ct_or (fun b hb q => by
      obtain ⟨a, ha, hx⟩ := exn_iff.mp q.1
      rw [Bool.and_eq_true] at hx
      exact sty_no q.2 ha hx.1 (of_decide_eq_true hx.2))] at g1
    have g2 := ct_goal (X := X) (g := gof S) (fun a ha hx => by have := hg a ha hx; have := hm.n16; omega) 16 (Nat.le_refl _)
    have g3 : fb_ct (ds T) 16 = fb_ct (disl S X) 16 := fb_ct_cong (fun b hb => coT_ds h hb)
    have g4 : fb_ct (fun b => X b || (sty S X b || disl S X b)) 16 ≤ fb_ct (uu S) 16 := fb_ct_sub (fun b hb q => by
      cases hx : X b
      · rw [hx] at q
        cases hs : sty S X b
        · rw [hs] at q; exact hdi b q
        · exact hst b hs
      · exact hu' b hx)
    rw [fb_ct_or (fun b hb q => by
      rcases q with ⟨q1, q2⟩
      unfold sty disl at q2
      rw [q1] at q2
      simp at q2), fb_ct_or (fun b hb q => by
      rcases q with ⟨q1, q2⟩
      unfold sty at q1
      rw [q2] at q1
      simp at q1)] at g4
    have := hi.j.c12
    omega
/-- the coupling of what both leave -/
theorem coT_T (h : coT C S T sea X v) (hX : ∀ a, X a = true → a < 16 ∧ mv S a = true) (hi : stI C S n np U) {f g : Nat → Int32} (ht : cpT S f) (l0 : g 0 = f 0) (l1 : g 1 = f 1) (l2 : g 2 = 1) (l3 : g 3 = v) (l4 : g 4 = T 4 0) (l5 : ∀ a, a < 16 → g (5 + a) = f (5 + a)) (l117 : ∀ j, 117 ≤ j → j < 165 → g j = f j) (l165 : ∀ a w, a < 16 → w < 6 → g (165 + 6 * a + w) = exW C S sea X a w) (m6 : nwR S X 6 (fun b => g (21 + b))) (m7 : (∀ a, a < 16 → X a = true → g (37 + gof S a) = S 7 a) ∧ ∀ b, b < 16 → sty S X b = true → g (37 + b) = S 7 b) (m8 : ∀ b, b < 16 → g (53 + b) = if disl S X b = true then S 6 b else -1) (m9 : ∀ b, b < 16 → g (69 + b) = f (37 + b)) (m11 : ∀ b, b < 16 → g (101 + b) = -1) (m10 : ∀ a, a < 16 → X a = true → g (85 + gof S a) = if dm C S a = true then nI a else -1) : cpT T g := by
  obtain ⟨ck, c2, c3, c6, c7, c8, c10, c10', c4, c15⟩ := h
  have h := (⟨ck, c2, c3, c6, c7, c8, c10, c10', c4, c15⟩ : coT C S T sea X v)
  refine ⟨⟨?_, ?_, ?_, ?_, l4⟩, fun a ha => ⟨?_, ?_, ?_, ?_, ?_, ?_, ?_⟩, fun b hb q => ?_, fun b hb q => ?_, fun a w ha hw => ?_⟩
  · rw [l0, ck 0 (by omega)]; exact ht.1.1
  · rw [l1, ck 1 (by omega)]; exact ht.1.2.1
  · rw [l2, c2]
  · rw [l3, c3]
  · rw [l5 a ha, ck 5 (by omega)]; exact (ht.2.1 a ha).1
  · exact nwR_same m6 c6 ha
  · rw [m8 a ha, (c8 a ha).1]
  · rw [m11 a ha, (c8 a ha).2.2]
  · rw [l117 _ (by omega) (by omega), ck 12 (by omega)]; exact (ht.2.1 a ha).2.2.2.2.1
  · rw [l117 _ (by omega) (by omega), ck 13 (by omega)]; exact (ht.2.1 a ha).2.2.2.2.2.1
  · rw [l117 _ (by omega) (by omega), ck 14 (by omega)]; exact (ht.2.1 a ha).2.2.2.2.2.2
  · rcases coT_uu h hX hb q with ⟨a, ha, hx, rfl⟩ | hs
    · rw [m7.1 a ha hx, c7.1 a ha hx]
    · rw [m7.2 b hb hs, c7.2.1 b hb hs]
  · rw [coT_ds h hb] at q
    have hu : uu S b = true := by unfold disl at q; rw [Bool.and_eq_true] at q; exact q.1
    rw [m9 b hb, ht.2.2.1 b hb hu, (c8 b hb).2.1, q]
    refine ⟨rfl, ?_⟩
    have q2 := q
    unfold disl at q2
    rw [Bool.and_eq_true, Bool.and_eq_true] at q2
    obtain ⟨a, ha, hx⟩ := exn_iff.mp q2.2.2
    rw [Bool.and_eq_true] at hx
    have e := of_decide_eq_true hx.2
    rw [c10 b hb q a ha hx.1 e, ← e, m10 a ha hx.1]
  · rw [l165 a w ha hw, c15 a w ha hw]
end
/-- the state when a settling is carried out -/
def endS (C T : Nat → Nat → Int32) (np t : Nat) (d : Bool) : Nat → Nat → Int32 := if d = true then cset T 0 fun _ => (1 : Int32) else if t % 2 = 0 then closed C T np else begun T
theorem cpS_ext2 {C S M M' : Nat → Nat → Int32} {n : Nat} (h : cpS C S M n) (e1 : M' 1 = M 1) (e3 : ∀ j, 21 ≤ j → j < 53 ∨ 117 ≤ j ∧ j < 165 → M' 3 j = M 3 j) : cpS C S M' n := by
  obtain ⟨h1, h2, h3, h4⟩ := h
  refine ⟨by rw [e1]; exact h1, fun a ha => ?_, fun a ha hu => ?_, h4⟩
  · rw [e1, e3 _ (by omega) (by omega), e3 _ (by omega) (by omega), e3 _ (by omega) (by omega)]; exact h2 a ha
  · rw [e3 _ (by omega) (by omega), e3 _ (by omega) (by omega)]; exact h3 a ha hu
