/-! the turn's end, in both (by program) -/
section
variable {C S M : Nat → Nat → Int32} {D : Nat → Nat → Int64} {f : Nat → Int32} {n np T : Nat}
theorem begun_k {k : Nat} (h0 : k ≠ 0) (h1 : k ≠ 1) (h2 : k ≠ 12) (h3 : k ≠ 13) (h4 : k ≠ 14) : begun S k = S k := by
  unfold begun
  rw [cf_HA, cset_ne h4, cset_ne h3, cset_ne h2, cset_ne h0, cset_ne h1]
theorem begun_0 : begun S 0 0 = 0 := by
  unfold begun
  rw [cf_HA, cset_ne (by omega), cset_ne (by omega), cset_ne (by omega), cset_eq]
theorem begun_1 : begun S 1 0 = S 1 0 + 1 := by
  unfold begun
  rw [cf_HA, cset_ne (by omega), cset_ne (by omega), cset_ne (by omega), cset_ne (by omega), cset_eq]
theorem begun_o {a : Nat} (ha : a < 16) : begun S 12 a = 0 ∧ begun S 13 a = -1 ∧ begun S 14 a = -1 := by
  unfold begun
  rw [cf_HA]
  refine ⟨?_, ?_, ?_⟩ <;> simp [cset_ap, fl, ha]
def goF (f : Nat → Int32) : Nat → Int32 := holdF (upd (upd f 0 0) 1 (f 1 + 1))
theorem goF_at {j : Nat} : goF f j = if j = 0 then 0 else if j = 1 then f 1 + 1 else if 117 ≤ j ∧ j < 133 then 0 else if 133 ≤ j ∧ j < 165 then -1 else f j := by
  unfold goF
  rw [holdF_at]
  by_cases h0 : j = 0
  · subst h0; rw [if_neg (by omega), if_neg (by omega), upd_ne (by omega), upd_eq]; rfl
  · rw [if_neg h0]
    by_cases h1 : j = 1
    · subst h1; rw [if_neg (by omega), if_neg (by omega), upd_eq]; rfl
    · rw [if_neg h1, upd_ne h1, upd_ne h0]
theorem cpT_go (h : cpT S f) : cpT (begun S) (goF f) := by
  obtain ⟨⟨c0, c1, c2, c3, c4⟩, h1, h2, h3, h4⟩ := h
  have e := fun k a b c d e => begun_k (S := S) (k := k) a b c d e
  have eu : uu (begun S) = uu S := by unfold uu; rw [e 6 (by omega) (by omega) (by omega) (by omega) (by omega)]
  have ed : ds (begun S) = ds S := by unfold ds; rw [e 8 (by omega) (by omega) (by omega) (by omega) (by omega)]
  refine ⟨⟨?_, ?_, ?_, ?_, ?_⟩, fun a ha => ?_, fun a ha hu => ?_, fun a ha hu => ?_, fun a w ha hw => ?_⟩
  · rw [goF_at, if_pos rfl, begun_0]
  · rw [goF_at, if_neg (by omega), if_pos rfl, begun_1, c1]
  · rw [goF_at, if_neg (by omega), if_neg (by omega), if_neg (by omega), if_neg (by omega), e 2 (by omega) (by omega) (by omega) (by omega) (by omega)]; exact c2
  · rw [goF_at, if_neg (by omega), if_neg (by omega), if_neg (by omega), if_neg (by omega), e 3 (by omega) (by omega) (by omega) (by omega) (by omega)]; exact c3
  · rw [goF_at, if_neg (by omega), if_neg (by omega), if_neg (by omega), if_neg (by omega), e 4 (by omega) (by omega) (by omega) (by omega) (by omega)]; exact c4
  · obtain ⟨t1, t2, t3, t4, _⟩ := h1 a ha
    obtain ⟨b1, b2, b3⟩ := begun_o (S := S) ha
    rw [b1, b2, b3, e 5 (by omega) (by omega) (by omega) (by omega) (by omega), e 6 (by omega) (by omega) (by omega) (by omega) (by omega), e 8 (by omega) (by omega) (by omega) (by omega) (by omega), e 11 (by omega) (by omega) (by omega) (by omega) (by omega)]
    have lo : ∀ j, 2 ≤ j → j < 117 → goF f j = f j := fun j q1 q2 => by rw [goF_at, if_neg (by omega), if_neg (by omega), if_neg (by omega), if_neg (by omega)]
    rw [lo _ (by omega) (by omega), lo _ (by omega) (by omega), lo _ (by omega) (by omega), lo _ (by omega) (by omega)]
    refine ⟨t1, t2, t3, t4, ?_, ?_, ?_⟩
    · rw [goF_at, if_neg (by omega), if_neg (by omega), if_pos (by omega)]
    · rw [goF_at, if_neg (by omega), if_neg (by omega), if_neg (by omega), if_pos (by omega)]
    · rw [goF_at, if_neg (by omega), if_neg (by omega), if_neg (by omega), if_pos (by omega)]
  · rw [goF_at, if_neg (by omega), if_neg (by omega), if_neg (by omega), if_neg (by omega), e 7 (by omega) (by omega) (by omega) (by omega) (by omega)]
    rw [eu] at hu; exact h2 a ha hu
  · rw [goF_at, if_neg (by omega), if_neg (by omega), if_neg (by omega), if_neg (by omega), goF_at, if_neg (by omega), if_neg (by omega), if_neg (by omega), if_neg (by omega), e 9 (by omega) (by omega) (by omega) (by omega) (by omega), e 10 (by omega) (by omega) (by omega) (by omega) (by omega)]
    rw [ed] at hu; exact h3 a ha hu
  · rw [goF_at, if_neg (by omega), if_neg (by omega), if_neg (by omega), if_neg (by omega), e 15 (by omega) (by omega) (by omega) (by omega) (by omega)]
    exact h4 a w ha hw
theorem stI_go (h : stJ C S n np T) (hd : ∀ a, a < 16 → ds S a = false) : stI C (begun S) n np (T + 1) := by
  obtain ⟨i2, ⟨t, t1, t2, t3⟩, i4, i5, i6, i7, i8, i9, i10⟩ := h
  have e := fun k a b c d e => begun_k (S := S) (k := k) a b c d e
  have e6 := e 6 (by omega) (by omega) (by omega) (by omega) (by omega)
  have e7 := e 7 (by omega) (by omega) (by omega) (by omega) (by omega)
  have e8 := e 8 (by omega) (by omega) (by omega) (by omega) (by omega)
  have e9 := e 9 (by omega) (by omega) (by omega) (by omega) (by omega)
  have e11 := e 11 (by omega) (by omega) (by omega) (by omega) (by omega)
  have e5 := e 5 (by omega) (by omega) (by omega) (by omega) (by omega)
  have e2 := e 2 (by omega) (by omega) (by omega) (by omega) (by omega)
  have eu : uu (begun S) = uu S := by unfold uu; rw [e6]
  have ed : ds (begun S) = ds S := by unfold ds; rw [e8]
  refine ⟨⟨by rw [e2]; exact i2, ⟨t + 1, by rw [begun_1, t1, nI_1], by omega, by omega⟩, ?_, ?_, ?_, ?_, ?_, ?_, ?_⟩, Or.inl begun_0, ?_, ?_⟩
  · rw [eu, e7]; exact i4
  · rw [eu, e6, e7]; exact i5
  · rw [ed, e8, e9]; exact i6
  · rw [ed, e9, e11]; exact i7
  · rw [eu, ed]; exact i8
  · rw [e5]; exact i9
  · rw [e11]; exact i10
  · intro a ha q
    rw [ed, hd a ha] at q; cases q
  · intro _ a ha _
    obtain ⟨b1, b2, b3⟩ := begun_o (S := S) ha
    have n0 : ∀ v : Int32, v = 0 → ¬ (v = 3 ∨ v = 4) := fun v q => by subst q; decide
    exact ⟨Or.inl b1, fun _ => b2, fun q => absurd b1 q, fun q => absurd q (n0 _ b1), fun _ => b3, fun q => by rw [b1] at q; exact absurd q (by decide)⟩
/-- centers change hands -/
def ctr (C S : Nat → Nat → Int32) : Nat → Nat → Int32 := osit (fun a W => stCT C a W) 0 16 S
theorem ctr_i : ∀ i, i ≤ 16 → (∀ k, k ≠ 5 → osit (fun a W => stCT C a W) 0 i S k = S k) ∧ ∀ a, osit (fun a W => stCT C a W) 0 i S 5 a = if a < i ∧ bt (C 4 0) a = true ∧ ¬ S 6 a = -1 then S 6 a else S 5 a
  | 0, _ => ⟨fun _ _ => rfl, fun a => by rw [osit_zero, if_neg (by omega)]⟩
  | i + 1, hi => by
    obtain ⟨a1, a2⟩ := ctr_i i (by omega)
    rw [osit_last, Nat.zero_add]
    generalize osit (fun a W => stCT C a W) 0 i S = W at a1 a2 ⊢
    have no : ¬ (bt (C 4 0) i = true ∧ ¬ S 6 i = -1) → ∀ a, (if a < i ∧ bt (C 4 0) a = true ∧ ¬ S 6 a = -1 then S 6 a else S 5 a) = if a < i + 1 ∧ bt (C 4 0) a = true ∧ ¬ S 6 a = -1 then S 6 a else S 5 a := fun hno a => by
      by_cases q : a < i ∧ bt (C 4 0) a = true ∧ ¬ S 6 a = -1
      · rw [if_pos q, if_pos ⟨by omega, q.2⟩]
      · rw [if_neg q, if_neg]
        rintro ⟨q1, q2⟩
        by_cases e : a = i
        · subst e; exact hno q2
        · exact q ⟨by omega, q2⟩
    unfold stCT
    rw [a1 6 (by omega)]
    by_cases hc : bt (C 4 0) i = true
    · rw [if_pos hc]
      by_cases hu : S 6 i = -1
      · rw [if_pos hu]
        exact ⟨a1, fun a => (a2 a).trans (no (fun q => q.2 hu) a)⟩
      · rw [if_neg hu]
        refine ⟨fun k hk => by rw [cset_ne hk]; exact a1 k hk, fun a => ?_⟩
        rw [cset_eq]
        by_cases e : a = i
        · subst e; rw [upd_eq, if_pos ⟨by omega, hc, hu⟩]
        · rw [upd_ne e, a2 a]
          by_cases q : a < i ∧ bt (C 4 0) a = true ∧ ¬ S 6 a = -1
          · rw [if_pos q, if_pos ⟨by omega, q.2⟩]
          · rw [if_neg q, if_neg (fun x => q ⟨by omega, x.2⟩)]
    · rw [if_neg hc]
      exact ⟨a1, fun a => (a2 a).trans (no (fun q => hc q.1) a)⟩
theorem ctr_k {k : Nat} (h : k ≠ 5) : ctr C S k = S k := (ctr_i 16 (Nat.le_refl _)).1 k h
theorem ctr_5 {a : Nat} (ha : a < 16) : ctr C S 5 a = if bt (C 4 0) a = true ∧ ¬ S 6 a = -1 then S 6 a else S 5 a := by
  have := (ctr_i (C := C) (S := S) 16 (Nat.le_refl _)).2 a
  unfold ctr
  rw [this]
  by_cases q : bt (C 4 0) a = true ∧ ¬ S 6 a = -1
  · rw [if_pos q, if_pos ⟨ha, q⟩]
  · rw [if_neg q, if_neg (fun x => q x.2)]
theorem stJ_ctr (h : stJ C S n np T) : stJ C (ctr C S) n np T := by
  obtain ⟨i2, i3, i4, i5, i6, i7, i8, i9, i10⟩ := h
  have e := fun k a => ctr_k (C := C) (S := S) (k := k) a
  have eu : uu (ctr C S) = uu S := by unfold uu; rw [e 6 (by omega)]
  have ed : ds (ctr C S) = ds S := by unfold ds; rw [e 8 (by omega)]
  refine ⟨by rw [e 2 (by omega)]; exact i2, by rw [e 1 (by omega)]; exact i3, by rw [eu, e 7 (by omega)]; exact i4, by rw [eu, e 6 (by omega), e 7 (by omega)]; exact i5, by rw [ed, e 8 (by omega), e 9 (by omega)]; exact i6, by rw [ed, e 9 (by omega), e 11 (by omega)]; exact i7, by rw [eu, ed]; exact i8, fun a ha hne => ?_, by rw [e 11 (by omega)]; exact i10⟩
  rw [ctr_5 ha] at hne ⊢
  by_cases q : bt (C 4 0) a = true ∧ ¬ S 6 a = -1
  · rw [if_pos q]
    exact ⟨q.1, (i5 a ha (by unfold uu; rw [decide_eq_false q.2]; rfl)).2.1⟩
  · rw [if_neg q] at hne ⊢
    exact i9 a ha hne
theorem stI_ph2 (h : stJ C S n np T) (hd : ∀ a, a < 16 → ds S a = false) : stI C (cset S 0 fun _ => (2 : Int32)) n np T := ⟨h, Or.inr (Or.inr rfl), fun a ha q => absurd (show ds S a = true from q) (by rw [hd a ha]; decide), fun q => absurd (show (2 : Int32) = 0 from q) (by decide)⟩
theorem cpT_ph {v : Int32} (h : cpT S f) : cpT (cset S 0 fun _ => v) (upd f 0 v) := by
  obtain ⟨⟨c0, c1, c2, c3, c4⟩, h1, h2, h3, h4⟩ := h
  refine ⟨⟨upd_eq, by rw [upd_ne (by omega)]; exact c1, by rw [upd_ne (by omega)]; exact c2, by rw [upd_ne (by omega)]; exact c3, by rw [upd_ne (by omega)]; exact c4⟩, fun a ha => ?_, fun a ha hu => ?_, fun a ha hu => ?_, fun a w ha hw => ?_⟩
  · rw [upd_ne (by omega), upd_ne (by omega), upd_ne (by omega), upd_ne (by omega), upd_ne (by omega), upd_ne (by omega), upd_ne (by omega)]; exact h1 a ha
  · rw [upd_ne (by omega)]; exact h2 a ha hu
  · rw [upd_ne (by omega), upd_ne (by omega)]; exact h3 a ha hu
  · rw [upd_ne (by omega)]; exact h4 a w ha hw
theorem stJ_T {T' : Nat} (h : stJ C S n np T) (hT : T ≤ T') : stJ C S n np T' := by
  obtain ⟨i2, ⟨t, t1, t2, t3⟩, i4⟩ := h
  exact ⟨i2, ⟨t, t1, t2, by omega⟩, i4⟩
theorem stI_T {T' : Nat} (h : stI C S n np T) (hT : T ≤ T') : stI C S n np T' := ⟨stJ_T h.1 hT, h.2⟩
end
section
variable {G : osG} {z : osS} {N m : Nat} {C S M : Nat → Nat → Int32} {D : Nat → Nat → Int64} {n np T : Nat}
def ctF (f : Nat → Int32) (P : Nat → Bool) (i : Nat) : Nat → Int32 := fun j => if 5 ≤ j ∧ j < 5 + i ∧ P (j - 5) = true then f (j + 16) else f j
theorem ctF_at {f : Nat → Int32} {P : Nat → Bool} {i a : Nat} : ctF f P i (5 + a) = if a < i ∧ P a = true then f (21 + a) else f (5 + a) := by
  unfold ctF
  rw [show 5 + a - 5 = a by omega, show 5 + a + 16 = 21 + a by omega]
  by_cases q : a < i ∧ P a = true
  · rw [if_pos q, if_pos ⟨by omega, by omega, q.2⟩]
  · rw [if_neg q, if_neg (fun x => q ⟨by omega, x.2.2⟩)]
theorem ctF_s {f : Nat → Int32} {P : Nat → Bool} {i : Nat} : upd (ctF f P i) (5 + i) (if P i = true then f (21 + i) else f (5 + i)) = ctF f P (i + 1) := funext (fun j => by
  by_cases e : j = 5 + i
  · subst e
    rw [upd_eq, ctF_at]
    cases h : P i
    · rw [if_neg (by decide), if_neg (fun q => absurd q.2 (by decide))]
    · rw [if_pos rfl, if_pos ⟨by omega, rfl⟩]
  · rw [upd_ne e]
    unfold ctF
    by_cases q : 5 ≤ j ∧ j < 5 + i ∧ P (j - 5) = true
    · rw [if_pos q, if_pos ⟨q.1, by omega, q.2.2⟩]
    · rw [if_neg q, if_neg (fun x => q ⟨x.1, by omega, x.2.2⟩)])
def cuP (C S : Nat → Nat → Int32) (a : Nat) : Bool := bt (C 4 0) a && uu S a
def blP (C S : Nat → Nat → Int32) (p : Nat) : Bool := !decide (bld C S (nI p) = 0)
end
