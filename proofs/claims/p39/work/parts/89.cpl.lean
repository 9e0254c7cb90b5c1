section
variable {G : osG} {z : osS} {N w : Nat} {f : Nat → Int32}
def hold1 (a : Nat) (g : Nat → Int32) : Nat → Int32 := upd (upd (upd g (117 + a) 0) (133 + a) (-1)) (149 + a) (-1)
def holdF (f : Nat → Int32) : Nat → Int32 := osit hold1 0 16 f
theorem hold_at (f : Nat → Int32) : ∀ (i : Nat), i ≤ 16 → ∀ j, osit hold1 0 i f j = if 117 ≤ j ∧ j < 117 + i then 0 else if (133 ≤ j ∧ j < 133 + i) ∨ (149 ≤ j ∧ j < 149 + i) then -1 else f j
  | 0, _, j => by rw [osit_zero, if_neg (by omega), if_neg (by omega)]
  | i + 1, hi, j => by
    rw [osit_last, Nat.zero_add]
    have ih := hold_at f i (by omega) j
    generalize osit hold1 0 i f = g at ih ⊢
    unfold hold1
    by_cases e3 : j = 149 + i
    · subst e3
      rw [upd_eq, if_neg (by omega), if_pos (by omega)]
    · rw [upd_ne e3]
      by_cases e2 : j = 133 + i
      · subst e2
        rw [upd_eq, if_neg (by omega), if_pos (by omega)]
      · rw [upd_ne e2]
        by_cases e1 : j = 117 + i
        · subst e1
          rw [upd_eq, if_pos (by omega)]
        · rw [upd_ne e1, ih]
          by_cases q1 : 117 ≤ j ∧ j < 117 + i
          · rw [if_pos q1, if_pos (by omega)]
          · rw [if_neg q1, if_neg (show ¬ (117 ≤ j ∧ j < 117 + (i + 1)) by omega)]
            by_cases q2 : (133 ≤ j ∧ j < 133 + i) ∨ (149 ≤ j ∧ j < 149 + i)
            · rw [if_pos q2, if_pos (by omega)]
            · rw [if_neg q2, if_neg (by omega)]
theorem holdF_at {f : Nat → Int32} {j : Nat} : holdF f j = if 117 ≤ j ∧ j < 133 then 0 else if 133 ≤ j ∧ j < 165 then -1 else f j := by
  unfold holdF
  rw [hold_at f 16 (by omega) j]
  by_cases q1 : 117 ≤ j ∧ j < 133
  · rw [if_pos q1, if_pos (by omega)]
  · rw [if_neg q1, if_neg (show ¬ (117 ≤ j ∧ j < 117 + 16) by omega)]
    by_cases q2 : 133 ≤ j ∧ j < 165
    · rw [if_pos q2, if_pos (by omega)]
    · rw [if_neg q2, if_neg (by omega)]
end
/-- a power's number -/
def pw (np : Nat) (v : Int32) : Prop := ∃ p, p < np ∧ v = nI p
def cpM (C M : Nat → Nat → Int32) (D : Nat → Nat → Int64) (n np : Nat) : Prop :=
  (n ≤ 16 ∧ np ≤ 4 ∧ C 0 0 = nI n ∧ M 1 0 = nI n ∧ C 1 0 = nI np ∧ M 1 1 = nI np) ∧
  (∀ a, a < 16 → M 1 (66 + a) = C 7 a ∧ M 1 (82 + a) = C 8 a ∧ M 1 (34 + a) = C 6 a ∧ M 1 (2 + a) = kdOf C a ∧ M 1 (18 + a) = b2i (bt (C 4 0) a)) ∧
  (∀ a, a < n → (∃ v, 0 < v ∧ v < 2 ^ 25 ∧ C 5 a = nI v ∧ D 6 a = lN v)) ∧ (∀ p, p < np → (∃ v, 0 < v ∧ v < 2 ^ 25 ∧ C 9 p = nI v ∧ D 6 (16 + p) = lN v)) ∧
  (∀ j, j < 32 → (bt (C 2 0) j = true ∨ bt (C 3 0) j = true ∨ bt (C 4 0) j = true → j < n) ∧ (bt (C 2 0) j = true ∨ bt (C 4 0) j = true → bt (C 3 0) j = false)) ∧
  (∀ a b, a < 16 → b < 32 → bt (C 7 a) b = true ∨ bt (C 8 a) b = true → a < n ∧ b < n ∧ ¬ a = b) ∧
  (∀ a, a < 16 → ¬ C 6 a = -1 → a < n ∧ pw np (C 6 a) ∧ bt (C 4 0) a = true)
def ds (S : Nat → Nat → Int32) (a : Nat) : Bool := !decide (S 8 a = -1)
def cpT (S : Nat → Nat → Int32) (f : Nat → Int32) : Prop :=
  (f 0 = S 0 0 ∧ f 1 = S 1 0 ∧ f 2 = S 2 0 ∧ f 3 = S 3 0 ∧ f 4 = S 4 0) ∧
  (∀ a, a < 16 → f (5 + a) = S 5 a ∧ f (21 + a) = S 6 a ∧ f (53 + a) = S 8 a ∧ f (101 + a) = S 11 a ∧ f (117 + a) = S 12 a ∧ f (133 + a) = S 13 a ∧ f (149 + a) = S 14 a) ∧
  (∀ a, a < 16 → uu S a = true → f (37 + a) = S 7 a) ∧
  (∀ a, a < 16 → ds S a = true → f (69 + a) = S 9 a ∧ f (85 + a) = S 10 a) ∧
  (∀ a w, a < 16 → w < 6 → f (165 + 6 * a + w) = S 15 (6 * a + w))
def ordOK (S : Nat → Nat → Int32) (n : Nat) : Prop := ∀ a, a < 16 → uu S a = true → (S 12 a = 0 ∨ S 12 a = 1 ∨ S 12 a = 2 ∨ S 12 a = 3 ∨ S 12 a = 4) ∧ (S 12 a = 0 → S 13 a = -1) ∧ (¬ S 12 a = 0 → S 13 a = nI (gof S a) ∧ gof S a < n) ∧ (S 12 a = 3 ∨ S 12 a = 4 → S 14 a = nI (sof S a) ∧ sof S a < n) ∧ (¬ (S 12 a = 3 ∨ S 12 a = 4) → S 14 a = -1) ∧ (S 12 a = 2 → uu S (gof S a) = true)
def stJ (C S : Nat → Nat → Int32) (n np T : Nat) : Prop :=
  (S 2 0 = 0 ∨ S 2 0 = 1) ∧ (∃ t, S 1 0 = nI t ∧ 1 ≤ t ∧ t ≤ T) ∧
  (∀ a, a < 16 → uu S a = false → S 7 a = -1) ∧ (∀ a, a < 16 → uu S a = true → a < n ∧ pw np (S 6 a) ∧ (S 7 a = 0 ∨ S 7 a = 1)) ∧
  (∀ a, a < 16 → ds S a = true → a < n ∧ pw np (S 8 a) ∧ (S 9 a = 0 ∨ S 9 a = 1)) ∧ (∀ a, a < 16 → ds S a = false → S 9 a = -1 ∧ S 11 a = -1) ∧
  fb_ct (uu S) 16 + fb_ct (ds S) 16 ≤ 12 ∧
  (∀ a, a < 16 → ¬ S 5 a = -1 → bt (C 4 0) a = true ∧ pw np (S 5 a)) ∧
  (∀ a, a < 16 → ¬ S 11 a = -1 → S 11 a = nI (tn (S 11 a)) ∧ tn (S 11 a) < n)
def stI (C S : Nat → Nat → Int32) (n np T : Nat) : Prop := stJ C S n np T ∧ (S 0 0 = 0 ∨ S 0 0 = 1 ∨ S 0 0 = 2) ∧ (∀ a, a < 16 → ds S a = true → S 0 0 = 1) ∧ (S 0 0 = 0 → ordOK S n)
section
variable {C S : Nat → Nat → Int32} {n np T : Nat}
theorem stJ.b2 (h : stJ C S n np T) : S 2 0 = 0 ∨ S 2 0 = 1 := h.1
theorem stJ.t (h : stJ C S n np T) : ∃ t, S 1 0 = nI t ∧ 1 ≤ t ∧ t ≤ T := h.2.1
theorem stJ.k7 (h : stJ C S n np T) : ∀ a, a < 16 → uu S a = false → S 7 a = -1 := h.2.2.1
theorem stJ.u (h : stJ C S n np T) : ∀ a, a < 16 → uu S a = true → a < n ∧ pw np (S 6 a) ∧ (S 7 a = 0 ∨ S 7 a = 1) := h.2.2.2.1
theorem stJ.d (h : stJ C S n np T) : ∀ a, a < 16 → ds S a = true → a < n ∧ pw np (S 8 a) ∧ (S 9 a = 0 ∨ S 9 a = 1) := h.2.2.2.2.1
theorem stJ.nd (h : stJ C S n np T) : ∀ a, a < 16 → ds S a = false → S 9 a = -1 ∧ S 11 a = -1 := h.2.2.2.2.2.1
theorem stJ.c12 (h : stJ C S n np T) : fb_ct (uu S) 16 + fb_ct (ds S) 16 ≤ 12 := h.2.2.2.2.2.2.1
theorem stJ.ow (h : stJ C S n np T) : ∀ a, a < 16 → ¬ S 5 a = -1 → bt (C 4 0) a = true ∧ pw np (S 5 a) := h.2.2.2.2.2.2.2.1
theorem stJ.rt (h : stJ C S n np T) : ∀ a, a < 16 → ¬ S 11 a = -1 → S 11 a = nI (tn (S 11 a)) ∧ tn (S 11 a) < n := h.2.2.2.2.2.2.2.2
theorem stI.j (h : stI C S n np T) : stJ C S n np T := h.1
theorem stI.ph (h : stI C S n np T) : S 0 0 = 0 ∨ S 0 0 = 1 ∨ S 0 0 = 2 := h.2.1
theorem stI.d1 (h : stI C S n np T) : ∀ a, a < 16 → ds S a = true → S 0 0 = 1 := h.2.2.1
theorem stI.o (h : stI C S n np T) : S 0 0 = 0 → ordOK S n := h.2.2.2
end
section
variable {C S M : Nat → Nat → Int32} {D : Nat → Nat → Int64} {f : Nat → Int32} {n np T : Nat}
theorem cpM.n16 (h : cpM C M D n np) : n ≤ 16 := h.1.1
theorem cpM.p4 (h : cpM C M D n np) : np ≤ 4 := h.1.2.1
theorem cpM.c0 (h : cpM C M D n np) : C 0 0 = nI n := h.1.2.2.1
theorem cpM.m0 (h : cpM C M D n np) : M 1 0 = nI n := h.1.2.2.2.1
theorem cpM.c1 (h : cpM C M D n np) : C 1 0 = nI np := h.1.2.2.2.2.1
theorem cpM.m1 (h : cpM C M D n np) : M 1 1 = nI np := h.1.2.2.2.2.2
theorem cpM_keep {M' : Nat → Nat → Int32} {D' : Nat → Nat → Int64} (h : cpM C M D n np) (e1 : M' 1 = M 1) (e6 : D' 6 = D 6) : cpM C M' D' n np := by
  unfold cpM at h ⊢; rw [e1, e6]; exact h
theorem okO_of (h : ordOK S n) (h16 : n ≤ 16) : okO S := fun a ha hu => by
  have := h a ha (by unfold uu; rw [decide_eq_false hu]; rfl)
  exact ⟨this.1, fun q => ⟨(this.2.2.1 q).1, by have := (this.2.2.1 q).2; omega⟩, fun q => ⟨(this.2.2.2.1 q).1, by have := (this.2.2.2.1 q).2; omega⟩⟩
theorem mv_le : fb_ct (mv S) 16 ≤ fb_ct (uu S) 16 := fb_ct_sub (fun a _ h => mv_uu h)
/-- the settling's coupling out of these -/
theorem cpS_of (hm : cpM C M D n np) (ht : cpT S (M 3)) (hi : stI C S n np T) (h0 : S 0 0 = 0) : cpS C S M n := by
  have ho := hi.o h0
  refine ⟨⟨hm.m0, hm.n16⟩, fun a ha => ?_, fun a ha hu => ?_, okO_of ho hm.n16, ?_⟩
  · obtain ⟨t1, t2, t3, t4, t5, t6, t7⟩ := ht.2.1 a ha
    obtain ⟨m1, m2, m3⟩ := hm.2.1 a ha
    exact ⟨t2, t5, t6, m1, m2⟩
  · obtain ⟨u1, u2, u3⟩ := hi.j.u a ha hu
    obtain ⟨o1, o2, o3, o4, o5, o6⟩ := ho a ha hu
    exact ⟨u1, ht.2.2.1 a ha hu, u3, fun _ => (ht.2.1 a ha).2.2.2.2.2.2, o6, fun q => (o3 q).2⟩
  · have := mv_le (S := S)
    have := hi.j.c12
    omega
theorem nu_uu : nu S = fb_ct (uu S) 16 := nu_eq
theorem pw_n1 {v : Int32} (h4 : np ≤ 4) (h : pw np v) : ¬ v = -1 := by
  obtain ⟨p, hp, rfl⟩ := h
  exact nI_m1 (by omega)
theorem cnU_eq (hi : stJ C S n np T) (ht : cpT S f) (h16 : n ≤ 16) {v : Int32} (hv : ¬ v = -1) : fb_ct (cnU f v) n = ct (S 6) v := by
  unfold ct
  rw [fb_ct_cut h16 (fun i h1 h2 => decide_eq_false (fun q => by
    have := (hi.u i h2 (by unfold uu; rw [q, decide_eq_false hv]; rfl)).1
    omega))]
  refine fb_ct_cong (fun i hi2 => ?_)
  unfold cnU
  rw [(ht.2.1 i (by omega)).2.1, decide_eq_false hv, Bool.false_or]
  by_cases q : S 6 i = v
  · rw [q, decide_eq_true rfl, decide_eq_false hv]; rfl
  · rw [decide_eq_false q, Bool.and_false]
theorem cnU_all (hi : stJ C S n np T) (ht : cpT S f) (h16 : n ≤ 16) : fb_ct (cnU f (-1)) n = nu S := by
  rw [nu_uu, fb_ct_cut h16 (fun i h1 h2 => by
    cases e : uu S i
    · rfl
    · have := (hi.u i h2 e).1; omega)]
  refine fb_ct_cong (fun i hi2 => ?_)
  unfold cnU uu
  rw [(ht.2.1 i (by omega)).2.1]; simp
theorem cnC_eq (hm : cpM C M D n np) (hi : stJ C S n np T) (ht : cpT S f) {v : Int32} (hv : ¬ v = -1) : fb_ct (cnC M f v) n = ct (S 5) v := by
  unfold ct
  have h16 := hm.n16
  rw [fb_ct_cut h16 (fun i h1 h2 => decide_eq_false (fun q => by
    have := (hi.ow i h2 (by rw [q]; exact hv)).1
    have := (hm.2.2.2.2.1 i (by omega)).1 (Or.inr (Or.inr this))
    omega))]
  refine fb_ct_cong (fun i hi2 => ?_)
  unfold cnC
  rw [(ht.2.1 i (by omega)).1, (hm.2.1 i (by omega)).2.2.2.2]
  by_cases q : S 5 i = v
  · have := (hi.ow i (by omega) (by rw [q]; exact hv)).1
    rw [this, decide_eq_true q]; rfl
  · rw [decide_eq_false q, Bool.and_false]
theorem cnH_eq (hm : cpM C M D n np) (ht : cpT S f) {v : Int32} (hv : ¬ v = -1) : fb_ct (cnH M f v) n = fb_ct (fhP C S v) 16 := by
  have h16 := hm.n16
  rw [fb_ct_cut (q := fhP C S v) h16 (fun i h1 h2 => by
    unfold fhP
    by_cases q : C 6 i = v
    · have := (hm.2.2.2.2.2.2 i h2 (by rw [q]; exact hv)).1; omega
    · rw [decide_eq_false q]; rfl)]
  refine fb_ct_cong (fun i hi2 => ?_)
  unfold cnH fhP
  rw [(ht.2.1 i (by omega)).1, (ht.2.1 i (by omega)).2.1, (hm.2.1 i (by omega)).2.2.1, Bool.and_assoc]
theorem bl_eq (hm : cpM C M D n np) (hi : stJ C S n np T) (ht : cpT S f) {v : Int32} (hv : ¬ v = -1) : rBl M f n v = bld C S v := by
  unfold rBl bld
  rw [cnU_eq hi ht hm.n16 hv, cnC_eq hm hi ht hv, cnH_eq hm ht hv, cnU_all hi ht hm.n16]
theorem nu12 (hi : stJ C S n np T) : nu S ≤ 12 := by rw [nu_uu]; have := hi.c12; omega
end
