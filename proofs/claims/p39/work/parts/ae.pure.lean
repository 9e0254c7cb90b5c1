/-! the law's own steps (12): what a settling does, as facts of numbers -/
theorem fb_cutN {q : Nat → Bool} {n : Nat} : ∀ m, n ≤ m → (∀ i, n ≤ i → i < m → q i = false) → fb_ct q m = fb_ct q n
  | 0, hn, _ => by
    have : n = 0 := by omega
    subst this; rfl
  | m + 1, hn, h => by
    by_cases e : n = m + 1
    · rw [e]
    · rw [fb_ct_succ, h m (by omega) (by omega), fb_cutN m (by omega) (fun i h1 h2 => h i h1 (by omega))]; rfl
section
variable {C S T : Nat → Nat → Int32} {a b n np U : Nat} {v : Int32}
theorem xF_c {a : Nat} (h : xF C S a = true) : cns C S (seaF C S) (xF C S) = true := by
  rcases srn_c (C := C) (S := S) (sea := seaF C S) (m := mset S) (2 ^ mk S) with q | q
  · have h0 := srn_0 _ q
    unfold xF srs at h
    rw [h0, b_0] at h; cases h
  · exact q
theorem xF_w (h : xF C S a = true) : rsi C S (seaF C S) (xF C S) a < att C S (seaF C S) (xF C S) a ∧ pth C S (seaF C S) (xF C S) a = true := by
  have := shd_p (by rw [cns_shd (xF_c h) (xF_in h).1 (xF_in h).2]; exact h)
  exact ⟨this.1, this.2.1⟩
theorem str17 {sea : Bool} {X : Nat → Bool} : str C S sea X a ≤ 17 := by
  unfold str
  have := fb_ct_le (fun i => gvn C S sea X i && decide (gof S i = a)) 16
  omega
theorem xF_hold (h : xF C S a = true) (hm : mv S (gof S a) = false) : (if uu S (gof S a) = true then str C S (seaF C S) (xF C S) (gof S a) else 0) < att C S (seaF C S) (xF C S) a := by
  have h1 := (xF_w h).1
  have ho : opp C S a = false := by
    have hd : dm C S (gof S a) = false := by unfold dm; rw [hm]; rfl
    unfold opp
    rw [hd]
    cases dm C S a <;> rfl
  unfold rsi hld at h1
  rw [ho, hm] at h1
  exact h1
theorem xF_foe (hb : xF C S b = true) (hd : disl S (xF C S) (gof S b) = true) : ¬ S 6 (gof S b) = S 6 b := fun e => by
  obtain ⟨h1, h2⟩ := xF_w hb
  unfold disl at hd
  rw [Bool.and_eq_true, Bool.and_eq_true] at hd
  have hx : xF C S (gof S b) = false := by
    have := hd.2.1
    simpa using this
  unfold att at h1
  rw [if_pos h2, hd.1, hx] at h1
  rw [if_neg (show ¬ ((!true || (false && !opp C S b)) = true) from fun q => nomatch q), if_pos e] at h1
  omega
/-- the goals are as many as the moves -/
theorem ct_goalE {X : Nat → Bool} {g : Nat → Nat} {m : Nat} (hg : ∀ a, a < 16 → X a = true → g a < m) (hu : ∀ a c, X a = true → X c = true → g a = g c → a = c) : ∀ k, k ≤ 16 → fb_ct (fun b => exn (fun a => X a && decide (g a = b)) k) m = fb_ct X k
  | 0, _ => fb_ct_zero.mpr (fun _ _ => rfl)
  | k + 1, hk => by
    have ih := ct_goalE hg hu k (by omega)
    cases hx : X k
    · have e : fb_ct X (k + 1) = fb_ct X k := by rw [fb_ct_succ, hx]; rfl
      rw [e, ← ih]
      exact fb_ct_cong (fun b _ => by
        show (exn (fun a => X a && decide (g a = b)) k || (X k && decide (g k = b))) = _
        rw [hx, Bool.false_and, Bool.or_false])
    · have e : fb_ct X (k + 1) = fb_ct X k + 1 := by rw [fb_ct_succ, hx]; rfl
      have h0 : exn (fun a => X a && decide (g a = g k)) k = false := exn_no.mpr (fun a ha => by
        cases q : X a && decide (g a = g k)
        · rfl
        · rw [Bool.and_eq_true] at q
          have := hu a k q.1 hx (of_decide_eq_true q.2)
          omega)
      have key : ∀ P : Nat → Bool, P (g k) = false → fb_ct (fun b => if b = g k then true else P b) m = fb_ct P m + 1 := fun P hP => by
        have := fb_ct_upd P true (i := g k) (n := m) (hg k (by omega) hx)
        rw [hP, if_neg (by decide), if_pos rfl, Nat.add_zero] at this
        exact this
      rw [e, ← ih, ← key (fun b => exn (fun a => X a && decide (g a = b)) k) h0]
      exact fb_ct_cong (fun b _ => by
        show (exn (fun a => X a && decide (g a = b)) k || (X k && decide (g k = b))) = _
        rw [hx, Bool.true_and]
        by_cases e : b = g k
        · rw [if_pos e, decide_eq_true e.symm, Bool.or_true]
        · rw [if_neg e, decide_eq_false (fun q => e q.symm), Bool.or_false])
theorem gof_in (ho : okO S) (h : mv S a = true) (ha : a < 16) : gof S a < 16 ∧ S 13 a = nI (gof S a) := by
  have hu := mv_uu h
  have hk0 : ¬ S 12 a = 0 := by unfold mv at h; simp at h; rw [h.2]; decide
  have := (ho a ha (by unfold uu at hu; simpa using hu)).2.1 hk0
  exact ⟨this.2, this.1⟩
/-- the units after a settling -/
theorem coT_ct (h : coT C S T (seaF C S) (xF C S) v) (ho : okO S) : fb_ct (uu T) 16 + fb_ct (disl S (xF C S)) 16 = fb_ct (uu S) 16 := by
  have hX : ∀ a, xF C S a = true → a < 16 ∧ mv S a = true := fun a q => xF_in q
  have hu6 := h.2.2.2.1
  have e1 : fb_ct (uu T) 16 = fb_ct (fun b => exn (fun a => xF C S a && decide (gof S a = b)) 16 || sty S (xF C S) b) 16 := fb_ct_cong (fun b hb => by
    cases q : uu T b
    · have hT : T 6 b = -1 := by unfold uu at q; simpa using q
      have n1 : exn (fun a => xF C S a && decide (gof S a = b)) 16 = false := exn_no.mpr (fun a ha => by
        cases r : xF C S a && decide (gof S a = b)
        · rfl
        · rw [Bool.and_eq_true] at r
          have e := of_decide_eq_true r.2
          have h1 := hu6.1 a ha r.1
          rw [e, hT] at h1
          have := mv_uu (hX a r.1).2
          unfold uu at this
          rw [← h1] at this
          exact absurd this (by decide))
      have n2 : sty S (xF C S) b = false := by
        cases r : sty S (xF C S) b
        · rfl
        · have h1 := hu6.2.1 b hb r
          rw [hT] at h1
          unfold sty at r
          rw [Bool.and_eq_true] at r
          have := r.1
          unfold uu at this
          rw [← h1] at this
          exact absurd this (by decide)
      rw [n1, n2]; rfl
    · rcases coT_uu h hX hb q with ⟨a, ha, xa, ga⟩ | s
      · rw [exn_iff.mpr ⟨a, ha, by rw [xa, decide_eq_true ga]; rfl⟩]; rfl
      · rw [s, Bool.or_true])
  have e2 := fb_ct_or (p := fun b => exn (fun a => xF C S a && decide (gof S a = b)) 16) (q := sty S (xF C S)) (n := 16) (fun b _ q => by
    obtain ⟨a, ha, r⟩ := exn_iff.mp q.1
    rw [Bool.and_eq_true] at r
    exact sty_no q.2 ha r.1 (of_decide_eq_true r.2))
  have e3 := ct_goalE (X := xF C S) (g := gof S) (m := 16) (fun a ha q => (gof_in ho (hX a q).2 ha).1) (fun a c xa xc e => xF_u ho xa xc e) 16 (Nat.le_refl _)
  have e4 : fb_ct (uu S) 16 = fb_ct (fun b => (xF C S b || sty S (xF C S) b) || disl S (xF C S) b) 16 := fb_ct_cong (fun b hb => by
    cases q : uu S b
    · have : xF C S b = false := by
        cases r : xF C S b
        · rfl
        · have := mv_uu (hX b r).2
          rw [q] at this; cases this
      unfold sty disl
      rw [q, this]; rfl
    · unfold sty
      rw [q]
      cases r : xF C S b
      · cases d : disl S (xF C S) b <;> rfl
      · rfl)
  have e5 := fb_ct_or (p := fun b => xF C S b || sty S (xF C S) b) (q := disl S (xF C S)) (n := 16) (fun b _ q => by
    obtain ⟨q1, q2⟩ := q
    unfold sty at q1
    rw [q2] at q1
    unfold disl at q2
    rw [Bool.and_eq_true, Bool.and_eq_true] at q2
    have : xF C S b = false := by
      have := q2.2.1
      simpa using this
    rw [this] at q1
    simp at q1)
  have e6 := fb_ct_or (p := xF C S) (q := sty S (xF C S)) (n := 16) (fun b _ q => by
    obtain ⟨q1, q2⟩ := q
    unfold sty at q2
    rw [q1] at q2
    simp at q2)
  rw [e1, e2, e3, e4, e5, e6]
/-- what explain says, in the law's words -/
theorem exW_0 : exW C S (seaF C S) (xF C S) a 0 = 1 ↔ xF C S a = true := by
  show (if uu S a = true then (if mv S a = true then (if xF C S a = true then (1 : Int32) else 2) else if spg S a = true then (if gvn C S (seaF C S) (xF C S) a = true then 3 else 4) else 5) else 0) = 1 ↔ _
  constructor
  · intro q
    by_cases c1 : uu S a = true
    · rw [if_pos c1] at q
      by_cases c2 : mv S a = true
      · rw [if_pos c2] at q
        by_cases c3 : xF C S a = true
        · exact c3
        · rw [if_neg c3] at q; exact absurd q (by decide)
      · rw [if_neg c2] at q
        split at q
        · split at q <;> exact absurd q (by decide)
        · exact absurd q (by decide)
    · rw [if_neg c1] at q; exact absurd q (by decide)
  · intro q
    have hm := (xF_in q).2
    rw [if_pos (mv_uu hm), if_pos hm, if_pos q]
theorem exW_2 : exW C S (seaF C S) (xF C S) a 0 = 2 ↔ mv S a = true ∧ xF C S a = false := by
  show (if uu S a = true then (if mv S a = true then (if xF C S a = true then (1 : Int32) else 2) else if spg S a = true then (if gvn C S (seaF C S) (xF C S) a = true then 3 else 4) else 5) else 0) = 2 ↔ _
  constructor
  · intro q
    by_cases c1 : uu S a = true
    · rw [if_pos c1] at q
      by_cases c2 : mv S a = true
      · rw [if_pos c2] at q
        by_cases c3 : xF C S a = true
        · rw [if_pos c3] at q; exact absurd q (by decide)
        · exact ⟨c2, by simpa using c3⟩
      · rw [if_neg c2] at q
        split at q
        · split at q <;> exact absurd q (by decide)
        · exact absurd q (by decide)
    · rw [if_neg c1] at q; exact absurd q (by decide)
  · rintro ⟨hm, hx⟩
    rw [if_pos (mv_uu hm), if_pos hm, hx]; rfl
theorem exW_00 : exW C S (seaF C S) (xF C S) a 0 = 0 ↔ uu S a = false := by
  show (if uu S a = true then (if mv S a = true then (if xF C S a = true then (1 : Int32) else 2) else if spg S a = true then (if gvn C S (seaF C S) (xF C S) a = true then 3 else 4) else 5) else 0) = 0 ↔ _
  cases c1 : uu S a
  · exact ⟨fun _ => rfl, fun _ => rfl⟩
  · rw [if_pos rfl]
    constructor
    · intro q
      split at q
      · split at q <;> exact absurd q (by decide)
      · split at q
        · split at q <;> exact absurd q (by decide)
        · exact absurd q (by decide)
    · intro q; cases q
theorem exW_4 : exW C S (seaF C S) (xF C S) a 4 = 0 ↔ ¬ (mv S a = true ∧ xF C S a = false) := by
  show (if mv S a = true then (if xF C S a = true then (0 : Int32) else if pth C S (seaF C S) (xF C S) a = true then (if rsi C S (seaF C S) (xF C S) a < att C S (seaF C S) (xF C S) a then 3 else 2) else 1) else 0) = 0 ↔ _
  cases c1 : mv S a
  · exact ⟨fun _ q => (nomatch q.1), fun _ => rfl⟩
  · rw [if_pos rfl]
    cases c2 : xF C S a
    · rw [if_neg (by decide)]
      constructor
      · intro q
        split at q
        · split at q <;> exact absurd q (by decide)
        · exact absurd q (by decide)
      · intro q; exact absurd ⟨rfl, rfl⟩ q
    · exact ⟨fun _ q => (nomatch q.2), fun _ => rfl⟩
theorem exW_1 : exW C S (seaF C S) (xF C S) a 1 = if disl S (xF C S) a = true then 1 else 0 := rfl
/-- who is dislodged didn't move and didn't support -/
theorem exW_d (hd : disl S (xF C S) a = true) : ¬ exW C S (seaF C S) (xF C S) a 0 = 1 ∧ ¬ exW C S (seaF C S) (xF C S) a 0 = 3 := by
  have hd2 := hd
  unfold disl at hd2
  rw [Bool.and_eq_true, Bool.and_eq_true] at hd2
  have hx : xF C S a = false := by
    have := hd2.2.1
    simpa using this
  refine ⟨fun q => (by rw [exW_0.mp q] at hx; cases hx), fun q => ?_⟩
  have q : (if uu S a = true then (if mv S a = true then (if xF C S a = true then (1 : Int32) else 2) else if spg S a = true then (if gvn C S (seaF C S) (xF C S) a = true then 3 else 4) else 5) else 0) = 3 := q
  have hg : gvn C S (seaF C S) (xF C S) a = false := by
    unfold gvn
    rw [hd]
    cases blg S a <;> rfl
  rw [hg, hx] at q
  split at q
  · split at q
    · exact absurd q (by decide)
    · split at q <;> exact absurd q (by decide)
  · exact absurd q (by decide)
theorem exW_3 (h : xF C S a = true) : exW C S (seaF C S) (xF C S) a 3 = nI (att C S (seaF C S) (xF C S) a) ∧ 0 < att C S (seaF C S) (xF C S) a ∧ att C S (seaF C S) (xF C S) a ≤ 17 := by
  refine ⟨?_, by have := (xF_w h).1; omega, Nat.le_trans att_str str17⟩
  show (if mv S a = true then nI (att C S (seaF C S) (xF C S) a) else 0) = _
  rw [if_pos (xF_in h).2]
theorem exW_s : exW C S (seaF C S) (xF C S) a 2 = nI (if uu S a = true then str C S (seaF C S) (xF C S) a else 0) := by
  show (if uu S a = true then nI (str C S (seaF C S) (xF C S) a) else 0) = _
  split <;> rfl
end
