/-! settling: what both leave agrees (by program) -/
section
variable {C S T M : Nat → Nat → Int32} {D : Nat → Nat → Int64} {n np U : Nat} {sea : Bool} {X : Nat → Bool} {v : Int32}
theorem ct_one (g0 : Nat) : ∀ m, fb_ct (fun b => decide (g0 = b)) m ≤ (if g0 < m then 1 else 0)
  | 0 => Nat.zero_le _
  | m + 1 => by
    have ih := ct_one g0 m
    rw [fb_ct_succ]
    by_cases q : g0 = m
    · rw [if_neg (show ¬ g0 < m by omega)] at ih
      rw [if_pos (show g0 < m + 1 by omega)]
      split <;> omega
    · rw [if_neg (show ¬ decide (g0 = m) = true by simp [q])]
      by_cases q2 : g0 < m
      · rw [if_pos q2] at ih; rw [if_pos (show g0 < m + 1 by omega)]; omega
      · rw [if_neg q2] at ih; rw [if_neg (show ¬ g0 < m + 1 by omega)]; omega
theorem ct_goal {g : Nat → Nat} (hg : ∀ a, a < 16 → X a = true → g a < 16) : ∀ k, k ≤ 16 → fb_ct (fun b => exn (fun a => X a && decide (g a = b)) k) 16 ≤ fb_ct X k
  | 0, _ => by
    have : fb_ct (fun b => exn (fun a => X a && decide (g a = b)) 0) 16 = 0 := fb_ct_zero.mpr (fun _ _ => rfl)
    omega
  | k + 1, hk => by
    have ih := ct_goal hg k (by omega)
    rw [fb_ct_succ]
    have e : ∀ p q : Nat → Bool, ∀ m, fb_ct (fun b => p b || q b) m ≤ fb_ct p m + fb_ct q m := fun p q m => by
      induction m with
      | zero => show 0 ≤ 0 + 0; omega
      | succ m ihm =>
        rw [fb_ct_succ, fb_ct_succ, fb_ct_succ]
        cases p m <;> cases q m <;> simp <;> omega
    have h1 := e (fun b => exn (fun a => X a && decide (g a = b)) k) (fun b => X k && decide (g k = b)) 16
    have h2 : fb_ct (fun b => X k && decide (g k = b)) 16 ≤ (if X k = true then 1 else 0) := by
      cases hx : X k
      · have : fb_ct (fun b => false && decide (g k = b)) 16 = 0 := fb_ct_zero.mpr (fun _ _ => rfl)
        rw [this]; simp
      · rw [if_pos rfl]
        have h := ct_one (g k) 16
        rw [if_pos (hg k (by omega) hx)] at h
        exact h
    exact Nat.le_trans (show fb_ct (fun b => exn (fun a => X a && decide (g a = b)) (k + 1)) 16 ≤ _ from h1) (Nat.add_le_add ih h2)
theorem exW_no {a w : Nat} (hu : uu S a = false) (hw : w < 6) : exW C S sea X a w = 0 := by
  have hm : mv S a = false := by
    cases e : mv S a
    · rfl
    · rw [mv_uu e] at hu; cases hu
  rcases (show w = 0 ∨ w = 1 ∨ w = 2 ∨ w = 3 ∨ w = 4 ∨ w = 5 by omega) with e | e | e | e | e | e <;> subst e
  · show (if uu S a = true then _ else (0 : Int32)) = 0
    rw [hu]; rfl
  · show (if disl S X a = true then (1 : Int32) else 0) = 0
    unfold disl; rw [hu]; rfl
  · show (if uu S a = true then _ else (0 : Int32)) = 0
    rw [hu]; rfl
  · show (if mv S a = true then _ else (0 : Int32)) = 0
    rw [hm]; rfl
  · show (if mv S a = true then _ else (0 : Int32)) = 0
    rw [hm]; rfl
  · show (if (pth C S sea X a && !dm C S a) = true then (1 : Int32) else 0) = 0
    unfold pth dm
    rw [hm]; simp
theorem coT_uu (h : coT C S T sea X v) (hX : ∀ a, X a = true → a < 16 ∧ mv S a = true) {b : Nat} (hb : b < 16) (hu : uu T b = true) : (∃ a, a < 16 ∧ X a = true ∧ gof S a = b) ∨ sty S X b = true := by
  refine nwR_uu hX h.2.2.2.1 hb ?_
  unfold uu at hu
  simpa using hu
theorem coT_ds (h : coT C S T sea X v) {b : Nat} (hb : b < 16) : ds T b = disl S X b := by
  have := (h.2.2.2.2.2.1 b hb).1
  unfold ds
  rw [this]
  cases hd : disl S X b
  · rfl
  · have : uu S b = true := by unfold disl at hd; rw [Bool.and_eq_true] at hd; exact hd.1
    unfold uu at this
    rw [if_pos rfl]; exact this
theorem coT_J (h : coT C S T sea X v) (hX : ∀ a, X a = true → a < 16 ∧ mv S a = true) (hm : cpM C M D n np) (hi : stI C S n np U) (h0 : S 0 0 = 0) : stJ C T n np U := by
  have ho := hi.o h0
  have hu' : ∀ a, X a = true → uu S a = true := fun a ha => mv_uu (hX a ha).2
  have hg : ∀ a, a < 16 → X a = true → gof S a < n := fun a ha hx => by
    have hmv := (hX a hx).2
    have := (ho a ha (mv_uu hmv)).2.2.1 (by unfold mv at hmv; simp at hmv; rw [hmv.2]; decide)
    exact this.2
  obtain ⟨ck, c2, c3, c6, c7, c8, c10, c10', c4, c15⟩ := h
  have h := (⟨ck, c2, c3, c6, c7, c8, c10, c10', c4, c15⟩ : coT C S T sea X v)
  have hst : ∀ b, sty S X b = true → uu S b = true := fun b q => by unfold sty at q; rw [Bool.and_eq_true] at q; exact q.1
  have hdi : ∀ b, disl S X b = true → uu S b = true := fun b q => by unfold disl at q; rw [Bool.and_eq_true] at q; exact q.1
  refine ⟨Or.inr c2, by rw [ck 1 (by omega)]; exact hi.j.t, fun b hb q => ?_, fun b hb q => ?_, fun b hb q => ?_, fun b hb q => ?_, ?_, by rw [ck 5 (by omega)]; exact hi.j.ow, fun b hb q => absurd (c8 b hb).2.2 q⟩
  · have q6 : T 6 b = -1 := by unfold uu at q; simpa using q
    refine c7.2.2 b hb (fun a ha hx e => ?_) ?_
    · have := c6.1 a ha hx
      rw [e, q6] at this
      have hu := hu' a hx
      unfold uu at hu
      rw [← this] at hu; simp at hu
    · cases e : sty S X b
      · rfl
      · have := c6.2.1 b hb e
        rw [q6] at this
        have hu := hst b e
        unfold uu at hu
        rw [← this] at hu; simp at hu
  · rcases coT_uu h hX hb q with ⟨a, ha, hx, rfl⟩ | hs
    · have := hi.j.u a ha (hu' a hx)
      rw [c6.1 a ha hx, c7.1 a ha hx]
      exact ⟨hg a ha hx, this.2⟩
    · have := hi.j.u b hb (hst b hs)
      rw [c6.2.1 b hb hs, c7.2.1 b hb hs]
      exact this
  · rw [coT_ds h hb] at q
    have := hi.j.u b hb (hdi b q)
    rw [(c8 b hb).1, (c8 b hb).2.1, q]
    exact this
  · rw [coT_ds h hb] at q
    rw [(c8 b hb).2.1, q]
    exact ⟨rfl, (c8 b hb).2.2⟩
  · have g1 : fb_ct (uu T) 16 ≤ fb_ct (fun b => exn (fun a => X a && decide (gof S a = b)) 16 || sty S X b) 16 := fb_ct_sub (fun b hb q => by
      rcases coT_uu h hX hb q with ⟨a, ha, hx, e⟩ | hs
      · rw [exn_iff.mpr ⟨a, ha, by rw [hx, decide_eq_true e]; rfl⟩]; rfl
      · rw [hs]; simp)
    rw [fb_ct_or (fun b hb q => by
      obtain ⟨a, ha, hx⟩ := exn_iff.mp q.1
      rw [Bool.and_eq_true] at hx
      exact sty_no q.2 ha hx.1 (of_decide_eq_true hx.2))] at g1
    have g2 := ct_goal (X := X) (g := gof S) (fun a ha hx => by have := hg a ha hx; have := hm.n16; omega) 16 (Nat.le_refl _)
    have g3 : fb_ct (ds T) 16 = fb_ct (disl S X) 16 := fb_ct_cong (fun b hb => coT_ds h hb)
    have g4 : fb_ct (fun b => X b || (sty S X b || disl S X b)) 16 ≤ fb_ct (uu S) 16 := fb_ct_sub (fun b hb q => by
      cases hx : X b
      · rw [hx] at q
        cases hs : sty S X b
        · rw [hs] at q; exact hdi b q
        · exact hst b hs
      · exact hu' b hx)
    rw [fb_ct_or (fun b hb q => by
      rcases q with ⟨q1, q2⟩
      unfold sty disl at q2
      rw [q1] at q2
      simp at q2), fb_ct_or (fun b hb q => by
      rcases q with ⟨q1, q2⟩
      unfold sty at q1
      rw [q2] at q1
      simp at q1)] at g4
    have := hi.j.c12
    omega
/-- the coupling of what both leave -/
theorem coT_T (h : coT C S T sea X v) (hX : ∀ a, X a = true → a < 16 ∧ mv S a = true) (hi : stI C S n np U) {f g : Nat → Int32} (ht : cpT S f) (l0 : g 0 = f 0) (l1 : g 1 = f 1) (l2 : g 2 = 1) (l3 : g 3 = v) (l4 : g 4 = T 4 0) (l5 : ∀ a, a < 16 → g (5 + a) = f (5 + a)) (l117 : ∀ j, 117 ≤ j → j < 165 → g j = f j) (l165 : ∀ a w, a < 16 → w < 6 → g (165 + 6 * a + w) = exW C S sea X a w) (m6 : nwR S X 6 (fun b => g (21 + b))) (m7 : (∀ a, a < 16 → X a = true → g (37 + gof S a) = S 7 a) ∧ ∀ b, b < 16 → sty S X b = true → g (37 + b) = S 7 b) (m8 : ∀ b, b < 16 → g (53 + b) = if disl S X b = true then S 6 b else -1) (m9 : ∀ b, b < 16 → g (69 + b) = f (37 + b)) (m11 : ∀ b, b < 16 → g (101 + b) = -1) (m10 : ∀ a, a < 16 → X a = true → g (85 + gof S a) = if dm C S a = true then nI a else -1) : cpT T g := by
  obtain ⟨ck, c2, c3, c6, c7, c8, c10, c10', c4, c15⟩ := h
  have h := (⟨ck, c2, c3, c6, c7, c8, c10, c10', c4, c15⟩ : coT C S T sea X v)
  refine ⟨⟨?_, ?_, ?_, ?_, l4⟩, fun a ha => ⟨?_, ?_, ?_, ?_, ?_, ?_, ?_⟩, fun b hb q => ?_, fun b hb q => ?_, fun a w ha hw => ?_⟩
  · rw [l0, ck 0 (by omega)]; exact ht.1.1
  · rw [l1, ck 1 (by omega)]; exact ht.1.2.1
  · rw [l2, c2]
  · rw [l3, c3]
  · rw [l5 a ha, ck 5 (by omega)]; exact (ht.2.1 a ha).1
  · exact nwR_same m6 c6 ha
  · rw [m8 a ha, (c8 a ha).1]
  · rw [m11 a ha, (c8 a ha).2.2]
  · rw [l117 _ (by omega) (by omega), ck 12 (by omega)]; exact (ht.2.1 a ha).2.2.2.2.1
  · rw [l117 _ (by omega) (by omega), ck 13 (by omega)]; exact (ht.2.1 a ha).2.2.2.2.2.1
  · rw [l117 _ (by omega) (by omega), ck 14 (by omega)]; exact (ht.2.1 a ha).2.2.2.2.2.2
  · rcases coT_uu h hX hb q with ⟨a, ha, hx, rfl⟩ | hs
    · rw [m7.1 a ha hx, c7.1 a ha hx]
    · rw [m7.2 b hb hs, c7.2.1 b hb hs]
  · rw [coT_ds h hb] at q
    have hu : uu S b = true := by unfold disl at q; rw [Bool.and_eq_true] at q; exact q.1
    rw [m9 b hb, ht.2.2.1 b hb hu, (c8 b hb).2.1, q]
    refine ⟨rfl, ?_⟩
    have q2 := q
    unfold disl at q2
    rw [Bool.and_eq_true, Bool.and_eq_true] at q2
    obtain ⟨a, ha, hx⟩ := exn_iff.mp q2.2.2
    rw [Bool.and_eq_true] at hx
    have e := of_decide_eq_true hx.2
    rw [c10 b hb q a ha hx.1 e, ← e, m10 a ha hx.1]
  · rw [l165 a w ha hw, c15 a w ha hw]
end
/-- the state when a settling is carried out -/
def endS (C T : Nat → Nat → Int32) (np t : Nat) (d : Bool) : Nat → Nat → Int32 := if d = true then cset T 0 fun _ => (1 : Int32) else if t % 2 = 0 then closed C T np else begun T
theorem cpS_ext2 {C S M M' : Nat → Nat → Int32} {n : Nat} (h : cpS C S M n) (e1 : M' 1 = M 1) (e3 : ∀ j, 21 ≤ j → j < 53 ∨ 117 ≤ j ∧ j < 165 → M' 3 j = M 3 j) : cpS C S M' n := by
  obtain ⟨h1, h2, h3, h4⟩ := h
  refine ⟨by rw [e1]; exact h1, fun a ha => ?_, fun a ha hu => ?_, h4⟩
  · rw [e1, e3 _ (by omega) (by omega), e3 _ (by omega) (by omega), e3 _ (by omega) (by omega)]; exact h2 a ha
  · rw [e3 _ (by omega) (by omega), e3 _ (by omega) (by omega)]; exact h3 a ha hu
theorem q_X10_settle_33 {G : osG} {z : osS} {N m n np U : Nat} {C S T M : Nat → Nat → Int32} {D : Nat → Nat → Int64} (hm : rX10 z m M D) (hA : G.2.2.1 ≤ m) (hc : cpM C M D n np) (ht : cpT S (M 3)) (hi : stI C S n np U) (h0 : S 0 0 = 0) (hd : dcT C S M n) (hT : coT C S T (seaF C S) (xF C S) (nI (srs C S true).2.1)) {t : Nat} (e1 : S 1 0 = nI t) (ht31 : t < 2 ^ 31) (hN : 20 < N) : gx (qX10_settle_33 N (m, nI 0) G z) (fun v z' => v = nI (cnt (srs C S (seaF C S)).1) ∧ osFr m (m + 21) z z' ∧ ∃ M', rX10 z' m M' D ∧ (∀ k, k < 21 → k ≠ 3 → M' k = M k) ∧ (∀ k, 41 ≤ k → M' k = M k) ∧ cpT (endS C T np t (exn (disl S (xF C S)) 16)) (M' 3) ∧ stI C (endS C T np t (exn (disl S (xF C S)) 16)) n np (U + 1)) := by
  have h16 := hc.n16
  have hcS := cpS_of hc ht hi h0
  have h12 := hcS.m12
  obtain ⟨dt, dsa, dx, d38, j, hj, d28⟩ := hd
  have dx : oX S (M 28 0) = xF C S := dx
  have h64 : 2 ^ fb_ct (mv S) 16 ≤ 4096 := Nat.le_trans (Nat.pow_le_pow_right (by omega) h12) (by decide)
  have hXin : ∀ a, xF C S a = true → a < 16 ∧ mv S a = true := fun a h => xF_in h
  have ret : ∀ z2 M2, osFr m (m + 21) z z2 → rX10 z2 m M2 D → M2 28 = M 28 → (∀ k, k < 21 → k ≠ 3 → M2 k = M k) → (∀ k, 41 ≤ k → M2 k = M k) → cpT (endS C T np t (exn (disl S (xF C S)) 16)) (M2 3) → stI C (endS C T np t (exn (disl S (xF C S)) 16)) n np (U + 1) → gx (qX10_settle_146 N m G z2) (fun v z' => v = nI (cnt (srs C S (seaF C S)).1) ∧ osFr m (m + 21) z z' ∧ ∃ M', rX10 z' m M' D ∧ (∀ k, k < 21 → k ≠ 3 → M' k = M k) ∧ (∀ k, 41 ≤ k → M' k = M k) ∧ cpT (endS C T np t (exn (disl S (xF C S)) 16)) (M' 3) ∧ stI C (endS C T np t (exn (disl S (xF C S)) 16)) n np (U + 1)) := fun z2 M2 f2 h2 e28 ek ek2 ct ci => by
    have hi28 : hi0 (M2 28 0) := by
      rw [e28, d28]
      exact fun i h1 h2 => by
        rw [bt_nI (by omega)]
        exact Nat.testBit_lt_two_pow (Nat.lt_of_lt_of_le hj (Nat.pow_le_pow_right (by omega) (by omega)))
    unfold qX10_settle_146
    refine gx_gI h2.o (by decide) rfl (gx_callE (q_X10_ones hi28 hN) (gx_ret ⟨?_, f2, M2, h2, ek, ek2, ct, ci⟩))
    rw [e28, d28, ← cnt_oX (h12 := h12) hj]
    congr 1
    unfold cnt
    rw [sub_X (h12 := h12) hj, ← d28, dx]; rfl
  unfold qX10_settle_33
  refine gx_rows (fun a M' => (∀ k, k ≠ 3 → M' k = M k) ∧ (∀ j, j < 165 → M' 3 j = M 3 j) ∧ ∀ b w, b < a → w < 6 → M' 3 (165 + 6 * b + w) = exW C S (seaF C S) (xF C S) b w) 16 (fun i => (m, nI i)) hm ⟨fun _ _ => rfl, fun _ _ => rfl, fun b w hb => by omega⟩ ?_ ?_ N (by omega)
  · rintro ih a z1 M1 ha f1 h1 ⟨k1, j1, i1⟩ k
    show gx (bX10_settle_33 N ih m (nI a) G z1) _
    unfold bX10_settle_33
    refine gx_itef (ge16 ha) ?_
    unfold qX10_settle_41
    refine gx_rows (fun w M' => (∀ k, k ≠ 3 → M' k = M k) ∧ (∀ j, j < 165 → M' 3 j = M 3 j) ∧ (∀ b w, b < a → w < 6 → M' 3 (165 + 6 * b + w) = exW C S (seaF C S) (xF C S) b w) ∧ ∀ w', w' < w → M' 3 (165 + 6 * a + w') = exW C S (seaF C S) (xF C S) a w') 6 (fun i => (m, nI a, nI i)) h1 ⟨k1, j1, i1, fun w' h => by omega⟩ ?_ ?_ N (by omega)
    · rintro ih2 w z2 M2 hw f2 h2 ⟨k2, j2, i2, o2⟩ kk
      have c2 : cpM C M2 D n np := cpM_keep hc (k2 1 (by omega)) rfl
      have s2 : cpS C S M2 n := cpS_ext2 hcS (k2 1 (by omega)) (fun j _ hj => j2 j (by omega))
      have t2 : mvT C S M2 := mvT_keep dt (fun k h1 h2 => k2 k (by omega))
      have sa2 : saT C S M2 n (seaF C S) := by
        unfold saT at dsa ⊢
        rw [k2 28 (by omega), k2 29 (by omega), k2 30 (by omega), k2 31 (by omega), k2 32 (by omega), k2 33 (by omega), k2 34 (by omega), k2 35 (by omega)]
        exact dsa
      have fin : ∀ v z3, osFr m (m + 21) z2 z3 → rX10 z3 m (cset M2 3 (upd (M2 3) (165 + 6 * a + w) v)) D → v = exW C S (seaF C S) (xF C S) a w → gx (ih2 (m, nI a, nI w + 1) G z3) _ := fun v z3 f3 h3 ev => by
        rw [nI_1]
        refine kk z3 _ f3 h3 ⟨fun k hk => by rw [cset_ne hk]; exact k2 k hk, fun j hj => ?_, fun b w' hb hw' => ?_, fun w' hw' => ?_⟩
        · show upd (M2 3) _ v j = _
          rw [upd_ne (by omega)]; exact j2 j hj
        · show upd (M2 3) _ v _ = _
          rw [upd_ne (by omega)]; exact i2 b w' hb hw'
        · show upd (M2 3) _ v _ = _
          by_cases e : w' = w
          · subst e; rw [upd_eq]; exact ev
          · rw [upd_ne (by omega)]; exact o2 w' (by omega)
      have hix : ((165 : Int32) + ((6 : Int32) * nI a)) + nI w = nI (165 + 6 * a + w) := nI_sum (nI_sum (a := 165) rfl (nI_prod (a := 6) rfl rfl)) rfl
      show gx (bX10_settle_41 N ih ih2 m (nI a) (nI w) G z2) _
      unfold bX10_settle_41 qX10_settle_81
      refine gx_itef (nI_nleE (a := 6) (b := w) rfl rfl hw (by omega)) (gx_gR h2.o (by decide) rfl (gx_gR h2.o (by decide) rfl (gx_aE (i := 0) h2.a1 rfl (by omega) (Nat.le_of_ble_eq_true rfl) ?_)))
      rw [c2.m0]
      refine gx_ite (fun c => h2.s3 hix (by omega) hA (fun z3 f3 h3 => fin _ z3 f3 h3 ?_)) (fun c => ?_)
      · have hna : n ≤ a := (nI_leI (by omega) (by omega)).mp c
        refine (exW_no ?_ hw).symm
        cases e : uu S a
        · rfl
        · have := hcS.lt ha e; omega
      · have hna : a < n := Nat.not_le.mp (fun q => c ((nI_leI (by omega) (by omega)).mpr q))
        refine gx_recvE h2.o (by decide) (q_X10_said h2 s2 t2 sa2 hna hw) (h2.s3 hix (by omega) hA (fun z3 f3 h3 => fin _ z3 f3 h3 ?_))
        rw [k2 28 (by omega), dx]
    · rintro ih2 z2 M2 f2 h2 ⟨k2, j2, i2, o2⟩
      show gx (bX10_settle_41 N ih ih2 m (nI a) (nI 6) G z2) _
      unfold bX10_settle_41
      refine gx_itet ((nI_leI (a := 6) (by omega) (by omega)).mpr (Nat.le_refl _)) ?_
      rw [nI_1]
      exact k z2 M2 f2 h2 ⟨k2, j2, fun b w hb hw => by
        by_cases e : b = a
        · subst e; exact o2 w hw
        · exact i2 b w (by omega) hw⟩
  · rintro ih z1 M1 f1 h1 ⟨k1, j1, i1⟩
    show gx (bX10_settle_33 N ih m (nI 16) G z1) _
    unfold bX10_settle_33
    refine gx_itet le16 (gx_gR h1.o (by decide) rfl (h1.s3 (i := 2) rfl (by omega) hA (fun z2 f2 h2 => gx_gR h2.o (by decide) rfl (gx_gI h2.o (by decide) rfl (h2.s3 (i := 3) rfl (by omega) hA (fun z3 f3 h3 => ?_))))))
    have k3 : ∀ k, k ≠ 3 → (cset (cset M1 3 (upd (M1 3) 2 (1 : Int32))) 3 (upd ((cset M1 3 (upd (M1 3) 2 (1 : Int32))) 3) 3 ((cset M1 3 (upd (M1 3) 2 (1 : Int32))) 38 0))) k = M k := fun k hk => by rw [cset_ne hk, cset_ne hk]; exact k1 k hk
    have r3 : (cset (cset M1 3 (upd (M1 3) 2 (1 : Int32))) 3 (upd ((cset M1 3 (upd (M1 3) 2 (1 : Int32))) 3) 3 ((cset M1 3 (upd (M1 3) 2 (1 : Int32))) 38 0))) 3 = upd (upd (M1 3) 2 1) 3 (M1 38 0) := rfl
    generalize (cset (cset M1 3 (upd (M1 3) 2 (1 : Int32))) 3 (upd ((cset M1 3 (upd (M1 3) 2 (1 : Int32))) 3) 3 ((cset M1 3 (upd (M1 3) 2 (1 : Int32))) 38 0))) = M3 at h3 k3 r3
    have g3 : ∀ j, j ≠ 2 → j ≠ 3 → M3 3 j = M1 3 j := fun j a b => by rw [r3, upd_ne b, upd_ne a]
    have g32 : M3 3 2 = 1 := by rw [r3, upd_ne (by omega), upd_eq]
    have g33 : M3 3 3 = nI (srs C S true).2.1 := by rw [r3, upd_eq, k1 38 (by omega)]; exact d38
    have s3 : cpS C S M3 n := cpS_ext2 hcS (k3 1 (by omega)) (fun j _ hj => by rw [g3 j (by omega) (by omega)]; exact j1 j (by omega))
    have t3 : mvT C S M3 := mvT_keep dt (fun k h1 h2 => k3 k (by omega))
    refine gx_recvQ h3.o (by decide) (q_X10_leads (X := xF C S) h3 hA s3 t3 (by rw [k3 29 (by omega), ← dx]; exact dsa.1) (by rw [k3 28 (by omega)]; exact dx) (fun a c _ _ xa xc hg => xF_u hcS.o xa xc hg) hN) (fun _ z4 ⟨f4, M4, h4, k4, l4⟩ => ?_)
    obtain ⟨lo, l6, l7, l7', l8, l9, l11, l10⟩ := l4
    have n4 : ∀ k, k < 39 → k ≠ 3 → M4 k = M k := fun k a b => (k4 k b (by omega) (by omega)).trans (k3 k b)
    have t4 : mvT C S M4 := mvT_keep dt (fun k h1 h2 => n4 k (by omega) (by omega))
    have e46 : ∀ b, b < 16 → M4 3 (21 + b) = T 6 b := fun b hb => nwR_same l6 hT.2.2.2.1 hb
    refine gx_gR h4.o (by decide) rfl (gx_recvQ h4.o (by decide) (q_X10_contestedNow (n := n) (X := xF C S) (sea := seaF C S) (f := T 6) h4 hcS.o h12 t4 (by rw [n4 30 (by omega) (by omega), ← dx]; exact dsa.2.1) (by rw [n4 28 (by omega) (by omega)]; exact dx) e46 hN) (fun v5 z5 ⟨ez, hv5⟩ => ?_))
    subst ez
    have ev5 : v5 = T 4 0 := b_ext (fun j hj => by rw [hv5 j hj, hT.2.2.2.2.2.2.2.2.1 j hj])
    refine h4.s3 (i := 4) rfl (by omega) hA (fun z6 f6 h6 => ?_)
    have k6 : ∀ k, k ≠ 3 → (cset M4 3 (upd (M4 3) 4 v5)) k = M4 k := fun k hk => cset_ne hk
    have r6 : (cset M4 3 (upd (M4 3) 4 v5)) 3 = upd (M4 3) 4 v5 := rfl
    generalize (cset M4 3 (upd (M4 3) 4 v5)) = M6 at h6 k6 r6
    have n6 : ∀ k, k < 39 → k ≠ 3 → M6 k = M k := fun k a b => (k6 k b).trans (n4 k a b)
    have n6' : ∀ k, 41 ≤ k → M6 k = M k := fun k a => (k6 k (by omega)).trans ((k4 k (by omega) (by omega) (by omega)).trans (k3 k (by omega)))
    have g6 : ∀ j, j ≠ 4 → M6 3 j = M4 3 j := fun j a => by rw [r6, upd_ne a]
    have low : ∀ j, j < 21 ∨ 117 ≤ j → j ≠ 2 → j ≠ 3 → j ≠ 4 → M6 3 j = M1 3 j := fun j a b c d => by rw [g6 j d, lo j a, g3 j b c]
    have cT : cpT T (M6 3) := by
      refine coT_T (f := M 3) hT hXin hi ht ?_ ?_ ?_ ?_ ?_ (fun a ha => ?_) (fun j q1 q2 => ?_) (fun a w ha hw => ?_) ⟨fun a ha hx => ?_, fun b hb hs => ?_, fun b hb q1 q2 => ?_⟩ ⟨fun a ha hx => ?_, fun b hb hs => ?_⟩ (fun b hb => ?_) (fun b hb => ?_) (fun b hb => ?_) (fun a ha hx => ?_)
      · rw [low 0 (by omega) (by omega) (by omega) (by omega)]; exact j1 0 (by omega)
      · rw [low 1 (by omega) (by omega) (by omega) (by omega)]; exact j1 1 (by omega)
      · rw [g6 2 (by omega), lo 2 (by omega), g32]
      · rw [g6 3 (by omega), lo 3 (by omega), g33]
      · rw [r6, upd_eq]; exact ev5
      · rw [low _ (by omega) (by omega) (by omega) (by omega)]; exact j1 _ (by omega)
      · rw [low _ (by omega) (by omega) (by omega) (by omega)]; exact j1 _ (by omega)
      · rw [low _ (by omega) (by omega) (by omega) (by omega)]; exact i1 a w ha hw
      · show M6 3 (21 + gof S a) = _
        rw [g6 _ (by omega)]; exact l6.1 a ha hx
      · show M6 3 (21 + b) = _
        rw [g6 _ (by omega)]; exact l6.2.1 b hb hs
      · show M6 3 (21 + b) = _
        rw [g6 _ (by omega)]; exact l6.2.2 b hb q1 q2
      · rw [g6 _ (by omega)]; exact l7 a ha hx
      · rw [g6 _ (by omega)]; exact l7' b hb hs
      · rw [g6 _ (by omega)]; exact l8 b hb
      · rw [g6 _ (by omega), l9 b hb, g3 _ (by omega) (by omega)]; exact j1 _ (by omega)
      · rw [g6 _ (by omega)]; exact l11 b hb
      · rw [g6 _ (by omega)]; exact l10 a ha hx
    have cJ : stJ C T n np U := coT_J hT hXin hc hi h0
    have hT1 : T 1 0 = nI t := by rw [hT.1 1 (by omega)]; exact e1
    have c6 : cpM C M6 D n np := cpM_keep hc (n6 1 (by omega) (by omega)) rfl
    have hdz : decide (M6 29 0 = 0) = !exn (disl S (xF C S)) 16 := by
      rw [n6 29 (by omega) (by omega), i0_ex (hi0_of dsa.1)]
      congr 1
      refine exn_cong (fun a ha => ?_)
      rw [dsa.1 a (by omega), dx, decide_eq_true ha, Bool.true_and]
    have fr : osFr m (m + 21) z z6 := ((((f1.tr f2).tr f3).tr f4).tr f6)
    refine gx_gI h6.o (by decide) rfl (gx_ite (fun c => ?_) (fun c => ?_))
    · have hno : exn (disl S (xF C S)) 16 = false := by
        have c : M6 29 0 = 0 := c
        rw [decide_eq_true c] at hdz
        cases q : exn (disl S (xF C S)) 16
        · rfl
        · rw [q] at hdz; cases hdz
      have hds : ∀ a, a < 16 → ds T a = false := fun a ha => by rw [coT_ds hT ha]; exact exn_no.mp hno a ha
      have hE : endS C T np t (exn (disl S (xF C S)) 16) = if t % 2 = 0 then closed C T np else begun T := by unfold endS; rw [hno]; rfl
      refine gx_recvQ h6.o (by decide) (q_X10_endsTurn h6 hA c6 cT cJ hds hT1 ht31 hN) (fun _ z7 ⟨f7, M7, h7, k7, ct7, ci7⟩ => ?_)
      exact ret z7 M7 (fr.tr f7) h7 ((k7 28 (by omega)).trans (n6 28 (by omega) (by omega))) (fun k a b => (k7 k b).trans (n6 k (by omega) b)) (fun k a => (k7 k (by omega)).trans (n6' k a)) (by rw [hE]; exact ct7) (by rw [hE]; exact ci7)
    · have hyes : exn (disl S (xF C S)) 16 = true := by
        have c : ¬ M6 29 0 = 0 := c
        rw [decide_eq_false c] at hdz
        cases q : exn (disl S (xF C S)) 16
        · rw [q] at hdz; cases hdz
        · rfl
      have hE : endS C T np t (exn (disl S (xF C S)) 16) = cset T 0 fun _ => (1 : Int32) := by unfold endS; rw [hyes]; rfl
      refine gx_gR h6.o (by decide) rfl (h6.s3 (i := 0) rfl (by omega) hA (fun z7 f7 h7 => ?_))
      refine ret z7 _ (fr.tr f7) h7 (by rw [cset_ne (by omega)]; exact n6 28 (by omega) (by omega)) (fun k a b => by rw [cset_ne b]; exact n6 k (by omega) b) (fun k a => by rw [cset_ne (by omega)]; exact n6' k a) ?_ ?_
      · rw [hE]; exact cpT_ph cT
      · rw [hE]
        exact ⟨stJ_T cJ (by omega), Or.inr (Or.inl rfl), fun _ _ _ => rfl, fun q => absurd (show (1 : Int32) = 0 from q) (by decide)⟩
