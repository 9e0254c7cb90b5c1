/-! the outcome that counts: successful moves have goals of their own (by program) -/
section
variable {C S : Nat → Nat → Int32} {sea : Bool} {X : Nat → Bool}
theorem att_str {a : Nat} : att C S sea X a ≤ str C S sea X a := by
  have h := fb_ct_sub (p := fun i => gvn C S sea X i && (decide (gof S i = a) && !decide (S 6 i = S 6 (gof S a)))) (q := fun i => gvn C S sea X i && decide (gof S i = a)) (n := 16) (fun i _ h => by
    rw [Bool.and_eq_true, Bool.and_eq_true] at h
    rw [h.1, h.2.1]; rfl)
  have hs : str C S sea X a = 1 + fb_ct (fun i => gvn C S sea X i && decide (gof S i = a)) 16 := rfl
  unfold att
  split
  · split
    · exact Nat.le_refl _
    · split
      · omega
      · omega
  · omega
theorem cns_shd (h : cns C S sea X = true) {a : Nat} (ha : a < 16) (hm : mv S a = true) : shd C S sea X a = X a := by
  unfold cns at h
  have h1 : exn (fun a => mv S a && !decide (shd C S sea X a = X a)) 16 = false := by
    cases e : exn (fun a => mv S a && !decide (shd C S sea X a = X a)) 16
    · rfl
    · rw [e] at h; cases h
  have := exn_no.mp h1 a ha
  rw [hm] at this
  simpa using this
theorem shd_p {a : Nat} (h : shd C S sea X a = true) : rsi C S sea X a < att C S sea X a ∧ pth C S sea X a = true ∧ ∀ c, c < 16 → ¬ c = a → mv S c = true → gof S c = gof S a → prv C S sea X c < att C S sea X a := by
  unfold shd at h
  rw [Bool.and_eq_true] at h
  have h1 := of_decide_eq_true h.1
  refine ⟨h1, ?_, fun c hc hne hm hg => ?_⟩
  · cases e : pth C S sea X a
    · unfold att at h1
      rw [e] at h1
      simp at h1
    · rfl
  · have h2 : exn (fun c => !decide (c = a) && ((mv S c && decide (gof S c = gof S a)) && decide (att C S sea X a ≤ prv C S sea X c))) 16 = false := by
      cases e : exn (fun c => !decide (c = a) && ((mv S c && decide (gof S c = gof S a)) && decide (att C S sea X a ≤ prv C S sea X c))) 16
      · rfl
      · rw [e] at h; cases h.2
    have := exn_no.mp h2 c hc
    rw [decide_eq_false hne, hm, decide_eq_true hg] at this
    simp at this
    exact this
theorem opp_sym {a : Nat} (h : opp C S a = true) : gof S (gof S a) = a ∧ opp C S (gof S a) = true := by
  unfold opp at h
  rw [Bool.and_eq_true, Bool.and_eq_true] at h
  have e := of_decide_eq_true h.2.2
  refine ⟨e, ?_⟩
  unfold opp
  rw [e, h.2.1, h.1, decide_eq_true rfl]; rfl
theorem no_swap (h : cns C S sea X = true) (ho : okO S) {c : Nat} (hc : c < 16) (hm : mv S c = true) (hx : X c = true) : (opp C S c && X (gof S c)) = false := by
  cases e1 : opp C S c
  · rfl
  · cases e2 : X (gof S c)
    · rfl
    · exfalso
      obtain ⟨g1, g2⟩ := opp_sym e1
      have hg := (mv_g ho hc hm).2
      have hmg := (opp_mv e1).2
      have s1 := shd_p (by rw [cns_shd h hc hm]; exact hx)
      have s2 := shd_p (by rw [cns_shd h hg hmg]; exact e2)
      have r1 : rsi C S sea X c = str C S sea X (gof S c) := by unfold rsi; rw [e1]; rfl
      have r2 : rsi C S sea X (gof S c) = str C S sea X c := by unfold rsi; rw [g2, g1]; rfl
      have a1 := att_str (C := C) (S := S) (sea := sea) (X := X) (a := c)
      have a2 := att_str (C := C) (S := S) (sea := sea) (X := X) (a := gof S c)
      have := s1.1
      have := s2.1
      omega
theorem uniq (h : cns C S sea X = true) (ho : okO S) {a c : Nat} (ha : a < 16) (hc : c < 16) (ma : mv S a = true) (mc : mv S c = true) (xa : X a = true) (xc : X c = true) (hg : gof S a = gof S c) : a = c := by
  apply Classical.byContradiction
  intro hne
  have s1 := shd_p (by rw [cns_shd h ha ma]; exact xa)
  have s2 := shd_p (by rw [cns_shd h hc mc]; exact xc)
  have p1 : prv C S sea X a = str C S sea X a := by unfold prv; rw [s1.2.1, no_swap h ho ha ma xa]; rfl
  have p2 : prv C S sea X c = str C S sea X c := by unfold prv; rw [s2.2.1, no_swap h ho hc mc xc]; rfl
  have q1 := s1.2.2 c hc (fun e => hne e.symm) mc hg.symm
  have q2 := s2.2.2 a ha hne ma hg
  have a1 := att_str (C := C) (S := S) (sea := sea) (X := X) (a := c)
  have a2 := att_str (C := C) (S := S) (sea := sea) (X := X) (a := a)
  omega
theorem srn_c {m : Int32} : ∀ n, (srn C S sea m n).2.1 = 0 ∨ cns C S sea (bt (srn C S sea m n).1) = true
  | 0 => Or.inl rfl
  | n + 1 => by
    have ih := srn_c (m := m) n
    unfold srn at ih ⊢
    rw [osit_last, Nat.zero_add]
    generalize osit (fun i q => stQ C S sea (sub m i) q) 0 n (0, 0, 0, 0) = q at ih ⊢
    unfold stQ
    by_cases c1 : cns C S sea (bt (sub m n)) = true
    · rw [if_pos c1]
      by_cases c2 : (q.2.1 = 0 ∨ q.2.2.1 < cnt (sub m n) ∨ (cnt (sub m n) = q.2.2.1 ∧ q.2.2.2 ≤ ng C S sea (sub m n)))
      · rw [if_pos c2]; exact Or.inr c1
      · rw [if_neg c2]
        rcases ih with ih | ih
        · exact absurd (Or.inl ih) c2
        · exact Or.inr ih
    · rw [if_neg c1]; exact ih
end
/-- the moves that succeed -/
def xF (C S : Nat → Nat → Int32) : Nat → Bool := bt (srs C S (seaF C S)).1
theorem xF_in {C S : Nat → Nat → Int32} {a : Nat} (h : xF C S a = true) : a < 16 ∧ mv S a = true := by
  have := (srn_b (C := C) (S := S) (sea := seaF C S) (m := mset S) (2 ^ mk S)).2.2.2 a h
  rw [mset_bt] at this
  simpa using this
theorem xF_u {C S : Nat → Nat → Int32} (ho : okO S) {a c : Nat} (xa : xF C S a = true) (xc : xF C S c = true) (hg : gof S a = gof S c) : a = c := by
  rcases srn_c (C := C) (S := S) (sea := seaF C S) (m := mset S) (2 ^ mk S) with h | h
  · have h0 := srn_0 _ h
    unfold xF srs at xa
    rw [h0, b_0] at xa; cases xa
  · exact uniq h ho (xF_in xa).1 (xF_in xc).1 (xF_in xa).2 (xF_in xc).2 xa xc hg
def sty (S : Nat → Nat → Int32) (X : Nat → Bool) (b : Nat) : Bool := uu S b && (!X b && !disl S X b)
theorem sty_no {S : Nat → Nat → Int32} {X : Nat → Bool} {a b : Nat} (h : sty S X b = true) (ha : a < 16) (hx : X a = true) : ¬ gof S a = b := fun e => by
  unfold sty disl at h
  simp only [Bool.and_eq_true, Bool.not_eq_true'] at h
  have h2 : exn (fun a => X a && decide (gof S a = b)) 16 = false := by
    cases q : exn (fun a => X a && decide (gof S a = b)) 16
    · rfl
    · rw [q] at h
      simp [h.1, h.2.1] at h
  have := exn_no.mp h2 a ha
  rw [hx, decide_eq_true e] at this
  cases this
/-- where the units are then -/
def nwR (S : Nat → Nat → Int32) (X : Nat → Bool) (r : Nat) (f : Nat → Int32) : Prop := (∀ a, a < 16 → X a = true → f (gof S a) = S r a) ∧ (∀ b, b < 16 → sty S X b = true → f b = S r b) ∧ ∀ b, b < 16 → (∀ a, a < 16 → X a = true → ¬ gof S a = b) → sty S X b = false → f b = -1
theorem nwR_same {S : Nat → Nat → Int32} {X : Nat → Bool} {r : Nat} {f g : Nat → Int32} (hf : nwR S X r f) (hg : nwR S X r g) {b : Nat} (hb : b < 16) : f b = g b := by
  by_cases h : ∃ a, a < 16 ∧ X a = true ∧ gof S a = b
  · obtain ⟨a, ha, hx, rfl⟩ := h
    rw [hf.1 a ha hx, hg.1 a ha hx]
  · have h' : ∀ a, a < 16 → X a = true → ¬ gof S a = b := fun a ha hx e => h ⟨a, ha, hx, e⟩
    cases e : sty S X b
    · rw [hf.2.2 b hb h' e, hg.2.2 b hb h' e]
    · rw [hf.2.1 b hb e, hg.2.1 b hb e]
theorem nwR_uu {S : Nat → Nat → Int32} {X : Nat → Bool} {f : Nat → Int32} (hx : ∀ a, X a = true → a < 16 ∧ mv S a = true) (hf : nwR S X 6 f) {b : Nat} (hb : b < 16) (h : ¬ f b = -1) : (∃ a, a < 16 ∧ X a = true ∧ gof S a = b) ∨ sty S X b = true := by
  by_cases h1 : ∃ a, a < 16 ∧ X a = true ∧ gof S a = b
  · exact Or.inl h1
  · have h' : ∀ a, a < 16 → X a = true → ¬ gof S a = b := fun a ha hx e => h1 ⟨a, ha, hx, e⟩
    cases e : sty S X b
    · exact absurd (hf.2.2 b hb h' e) h
    · exact Or.inr rfl
