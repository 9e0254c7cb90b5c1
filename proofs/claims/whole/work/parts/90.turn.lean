/-! the turn's end, in both (by program) -/
section
variable {C S M : Nat → Nat → Int32} {D : Nat → Nat → Int64} {f : Nat → Int32} {n np T : Nat}
theorem begun_k {k : Nat} (h0 : k ≠ 0) (h1 : k ≠ 1) (h2 : k ≠ 12) (h3 : k ≠ 13) (h4 : k ≠ 14) : begun S k = S k := by
  unfold begun
  rw [cf_HA, cset_ne h4, cset_ne h3, cset_ne h2, cset_ne h0, cset_ne h1]
theorem begun_0 : begun S 0 0 = 0 := by
  unfold begun
  rw [cf_HA, cset_ne (by omega), cset_ne (by omega), cset_ne (by omega), cset_eq]
theorem begun_1 : begun S 1 0 = S 1 0 + 1 := by
  unfold begun
  rw [cf_HA, cset_ne (by omega), cset_ne (by omega), cset_ne (by omega), cset_ne (by omega), cset_eq]
theorem begun_o {a : Nat} (ha : a < 16) : begun S 12 a = 0 ∧ begun S 13 a = -1 ∧ begun S 14 a = -1 := by
  unfold begun
  rw [cf_HA]
  refine ⟨?_, ?_, ?_⟩ <;> simp [cset_ap, fl, ha]
def goF (f : Nat → Int32) : Nat → Int32 := holdF (upd (upd f 0 0) 1 (f 1 + 1))
theorem goF_at {j : Nat} : goF f j = if j = 0 then 0 else if j = 1 then f 1 + 1 else if 117 ≤ j ∧ j < 133 then 0 else if 133 ≤ j ∧ j < 165 then -1 else f j := by
  unfold goF
  rw [holdF_at]
  by_cases h0 : j = 0
  · subst h0; rw [if_neg (by omega), if_neg (by omega), upd_ne (by omega), upd_eq]; rfl
  · rw [if_neg h0]
    by_cases h1 : j = 1
    · subst h1; rw [if_neg (by omega), if_neg (by omega), upd_eq]; rfl
    · rw [if_neg h1, upd_ne h1, upd_ne h0]
theorem cpT_go (h : cpT S f) : cpT (begun S) (goF f) := by
  obtain ⟨⟨c0, c1, c2, c3, c4⟩, h1, h2, h3, h4⟩ := h
  have e := fun k a b c d e => begun_k (S := S) (k := k) a b c d e
  have eu : uu (begun S) = uu S := by unfold uu; rw [e 6 (by omega) (by omega) (by omega) (by omega) (by omega)]
  have ed : ds (begun S) = ds S := by unfold ds; rw [e 8 (by omega) (by omega) (by omega) (by omega) (by omega)]
  refine ⟨⟨?_, ?_, ?_, ?_, ?_⟩, fun a ha => ?_, fun a ha hu => ?_, fun a ha hu => ?_, fun a w ha hw => ?_⟩
  · rw [goF_at, if_pos rfl, begun_0]
  · rw [goF_at, if_neg (by omega), if_pos rfl, begun_1, c1]
  · rw [goF_at, if_neg (by omega), if_neg (by omega), if_neg (by omega), if_neg (by omega), e 2 (by omega) (by omega) (by omega) (by omega) (by omega)]; exact c2
  · rw [goF_at, if_neg (by omega), if_neg (by omega), if_neg (by omega), if_neg (by omega), e 3 (by omega) (by omega) (by omega) (by omega) (by omega)]; exact c3
  · rw [goF_at, if_neg (by omega), if_neg (by omega), if_neg (by omega), if_neg (by omega), e 4 (by omega) (by omega) (by omega) (by omega) (by omega)]; exact c4
  · obtain ⟨t1, t2, t3, t4, _⟩ := h1 a ha
    obtain ⟨b1, b2, b3⟩ := begun_o (S := S) ha
    rw [b1, b2, b3, e 5 (by omega) (by omega) (by omega) (by omega) (by omega), e 6 (by omega) (by omega) (by omega) (by omega) (by omega), e 8 (by omega) (by omega) (by omega) (by omega) (by omega), e 11 (by omega) (by omega) (by omega) (by omega) (by omega)]
    have lo : ∀ j, 2 ≤ j → j < 117 → goF f j = f j := fun j q1 q2 => by rw [goF_at, if_neg (by omega), if_neg (by omega), if_neg (by omega), if_neg (by omega)]
    rw [lo _ (by omega) (by omega), lo _ (by omega) (by omega), lo _ (by omega) (by omega), lo _ (by omega) (by omega)]
    refine ⟨t1, t2, t3, t4, ?_, ?_, ?_⟩
    · rw [goF_at, if_neg (by omega), if_neg (by omega), if_pos (by omega)]
    · rw [goF_at, if_neg (by omega), if_neg (by omega), if_neg (by omega), if_pos (by omega)]
    · rw [goF_at, if_neg (by omega), if_neg (by omega), if_neg (by omega), if_pos (by omega)]
  · rw [goF_at, if_neg (by omega), if_neg (by omega), if_neg (by omega), if_neg (by omega), e 7 (by omega) (by omega) (by omega) (by omega) (by omega)]
    rw [eu] at hu; exact h2 a ha hu
  · rw [goF_at, if_neg (by omega), if_neg (by omega), if_neg (by omega), if_neg (by omega), goF_at, if_neg (by omega), if_neg (by omega), if_neg (by omega), if_neg (by omega), e 9 (by omega) (by omega) (by omega) (by omega) (by omega), e 10 (by omega) (by omega) (by omega) (by omega) (by omega)]
    rw [ed] at hu; exact h3 a ha hu
  · rw [goF_at, if_neg (by omega), if_neg (by omega), if_neg (by omega), if_neg (by omega), e 15 (by omega) (by omega) (by omega) (by omega) (by omega)]
    exact h4 a w ha hw
theorem stI_go (h : stJ C S n np T) (hd : ∀ a, a < 16 → ds S a = false) : stI C (begun S) n np (T + 1) := by
  obtain ⟨i2, ⟨t, t1, t2, t3⟩, i4, i5, i6, i7, i8, i9, i10⟩ := h
  have e := fun k a b c d e => begun_k (S := S) (k := k) a b c d e
  have e6 := e 6 (by omega) (by omega) (by omega) (by omega) (by omega)
  have e7 := e 7 (by omega) (by omega) (by omega) (by omega) (by omega)
  have e8 := e 8 (by omega) (by omega) (by omega) (by omega) (by omega)
  have e9 := e 9 (by omega) (by omega) (by omega) (by omega) (by omega)
  have e11 := e 11 (by omega) (by omega) (by omega) (by omega) (by omega)
  have e5 := e 5 (by omega) (by omega) (by omega) (by omega) (by omega)
  have e2 := e 2 (by omega) (by omega) (by omega) (by omega) (by omega)
  have eu : uu (begun S) = uu S := by unfold uu; rw [e6]
  have ed : ds (begun S) = ds S := by unfold ds; rw [e8]
  refine ⟨⟨by rw [e2]; exact i2, ⟨t + 1, by rw [begun_1, t1, nI_1], by omega, by omega⟩, ?_, ?_, ?_, ?_, ?_, ?_, ?_⟩, Or.inl begun_0, ?_, ?_⟩
  · rw [eu, e7]; exact i4
  · rw [eu, e6, e7]; exact i5
  · rw [ed, e8, e9]; exact i6
  · rw [ed, e9, e11]; exact i7
  · rw [eu, ed]; exact i8
  · rw [e5]; exact i9
  · rw [e11]; exact i10
  · intro a ha q
    rw [ed, hd a ha] at q; cases q
  · intro _ a ha _
    obtain ⟨b1, b2, b3⟩ := begun_o (S := S) ha
    have n0 : ∀ v : Int32, v = 0 → ¬ (v = 3 ∨ v = 4) := fun v q => by subst q; decide
    exact ⟨Or.inl b1, fun _ => b2, fun q => absurd b1 q, fun q => absurd q (n0 _ b1), fun _ => b3, fun q => by rw [b1] at q; exact absurd q (by decide)⟩
/-- centers change hands -/
def ctr (C S : Nat → Nat → Int32) : Nat → Nat → Int32 := osit (fun a W => stCT C a W) 0 16 S
theorem ctr_i : ∀ i, i ≤ 16 → (∀ k, k ≠ 5 → osit (fun a W => stCT C a W) 0 i S k = S k) ∧ ∀ a, osit (fun a W => stCT C a W) 0 i S 5 a = if a < i ∧ bt (C 4 0) a = true ∧ ¬ S 6 a = -1 then S 6 a else S 5 a
  | 0, _ => ⟨fun _ _ => rfl, fun a => by rw [osit_zero, if_neg (by omega)]⟩
  | i + 1, hi => by
    obtain ⟨a1, a2⟩ := ctr_i i (by omega)
    rw [osit_last, Nat.zero_add]
    generalize osit (fun a W => stCT C a W) 0 i S = W at a1 a2 ⊢
    have no : ¬ (bt (C 4 0) i = true ∧ ¬ S 6 i = -1) → ∀ a, (if a < i ∧ bt (C 4 0) a = true ∧ ¬ S 6 a = -1 then S 6 a else S 5 a) = if a < i + 1 ∧ bt (C 4 0) a = true ∧ ¬ S 6 a = -1 then S 6 a else S 5 a := fun hno a => by
      by_cases q : a < i ∧ bt (C 4 0) a = true ∧ ¬ S 6 a = -1
      · rw [if_pos q, if_pos ⟨by omega, q.2⟩]
      · rw [if_neg q, if_neg]
        rintro ⟨q1, q2⟩
        by_cases e : a = i
        · subst e; exact hno q2
        · exact q ⟨by omega, q2⟩
    unfold stCT
    rw [a1 6 (by omega)]
    by_cases hc : bt (C 4 0) i = true
    · rw [if_pos hc]
      by_cases hu : S 6 i = -1
      · rw [if_pos hu]
        exact ⟨a1, fun a => (a2 a).trans (no (fun q => q.2 hu) a)⟩
      · rw [if_neg hu]
        refine ⟨fun k hk => by rw [cset_ne hk]; exact a1 k hk, fun a => ?_⟩
        rw [cset_eq]
        by_cases e : a = i
        · subst e; rw [upd_eq, if_pos ⟨by omega, hc, hu⟩]
        · rw [upd_ne e, a2 a]
          by_cases q : a < i ∧ bt (C 4 0) a = true ∧ ¬ S 6 a = -1
          · rw [if_pos q, if_pos ⟨by omega, q.2⟩]
          · rw [if_neg q, if_neg (fun x => q ⟨by omega, x.2⟩)]
    · rw [if_neg hc]
      exact ⟨a1, fun a => (a2 a).trans (no (fun q => hc q.1) a)⟩
theorem ctr_k {k : Nat} (h : k ≠ 5) : ctr C S k = S k := (ctr_i 16 (Nat.le_refl _)).1 k h
theorem ctr_5 {a : Nat} (ha : a < 16) : ctr C S 5 a = if bt (C 4 0) a = true ∧ ¬ S 6 a = -1 then S 6 a else S 5 a := by
  have := (ctr_i (C := C) (S := S) 16 (Nat.le_refl _)).2 a
  unfold ctr
  rw [this]
  by_cases q : bt (C 4 0) a = true ∧ ¬ S 6 a = -1
  · rw [if_pos q, if_pos ⟨ha, q⟩]
  · rw [if_neg q, if_neg (fun x => q x.2)]
theorem stJ_ctr (h : stJ C S n np T) : stJ C (ctr C S) n np T := by
  obtain ⟨i2, i3, i4, i5, i6, i7, i8, i9, i10⟩ := h
  have e := fun k a => ctr_k (C := C) (S := S) (k := k) a
  have eu : uu (ctr C S) = uu S := by unfold uu; rw [e 6 (by omega)]
  have ed : ds (ctr C S) = ds S := by unfold ds; rw [e 8 (by omega)]
  refine ⟨by rw [e 2 (by omega)]; exact i2, by rw [e 1 (by omega)]; exact i3, by rw [eu, e 7 (by omega)]; exact i4, by rw [eu, e 6 (by omega), e 7 (by omega)]; exact i5, by rw [ed, e 8 (by omega), e 9 (by omega)]; exact i6, by rw [ed, e 9 (by omega), e 11 (by omega)]; exact i7, by rw [eu, ed]; exact i8, fun a ha hne => ?_, by rw [e 11 (by omega)]; exact i10⟩
  rw [ctr_5 ha] at hne ⊢
  by_cases q : bt (C 4 0) a = true ∧ ¬ S 6 a = -1
  · rw [if_pos q]
    exact ⟨q.1, (i5 a ha (by unfold uu; rw [decide_eq_false q.2]; rfl)).2.1⟩
  · rw [if_neg q] at hne ⊢
    exact i9 a ha hne
theorem stI_ph2 (h : stJ C S n np T) (hd : ∀ a, a < 16 → ds S a = false) : stI C (cset S 0 fun _ => (2 : Int32)) n np T := ⟨h, Or.inr (Or.inr rfl), fun a ha q => absurd (show ds S a = true from q) (by rw [hd a ha]; decide), fun q => absurd (show (2 : Int32) = 0 from q) (by decide)⟩
theorem cpT_ph {v : Int32} (h : cpT S f) : cpT (cset S 0 fun _ => v) (upd f 0 v) := by
  obtain ⟨⟨c0, c1, c2, c3, c4⟩, h1, h2, h3, h4⟩ := h
  refine ⟨⟨upd_eq, by rw [upd_ne (by omega)]; exact c1, by rw [upd_ne (by omega)]; exact c2, by rw [upd_ne (by omega)]; exact c3, by rw [upd_ne (by omega)]; exact c4⟩, fun a ha => ?_, fun a ha hu => ?_, fun a ha hu => ?_, fun a w ha hw => ?_⟩
  · rw [upd_ne (by omega), upd_ne (by omega), upd_ne (by omega), upd_ne (by omega), upd_ne (by omega), upd_ne (by omega), upd_ne (by omega)]; exact h1 a ha
  · rw [upd_ne (by omega)]; exact h2 a ha hu
  · rw [upd_ne (by omega), upd_ne (by omega)]; exact h3 a ha hu
  · rw [upd_ne (by omega)]; exact h4 a w ha hw
theorem stJ_T {T' : Nat} (h : stJ C S n np T) (hT : T ≤ T') : stJ C S n np T' := by
  obtain ⟨i2, ⟨t, t1, t2, t3⟩, i4⟩ := h
  exact ⟨i2, ⟨t, t1, t2, by omega⟩, i4⟩
theorem stI_T {T' : Nat} (h : stI C S n np T) (hT : T ≤ T') : stI C S n np T' := ⟨stJ_T h.1 hT, h.2⟩
end
section
variable {G : osG} {z : osS} {N m : Nat} {C S M : Nat → Nat → Int32} {D : Nat → Nat → Int64} {n np T : Nat}
theorem q_X10_goesOn (hm : rX10 z m M D) (hA : G.2.2.1 ≤ m) (hN : 16 < N) : gx (qX10_goesOn N m G z) (fun _ z' => osFr m (m + 21) z z' ∧ rX10 z' m (cset M 3 (goF (M 3))) D) := by
  unfold qX10_goesOn
  refine gx_gR hm.o (by decide) rfl (hm.s3 (i := 0) rfl (by omega) hA (fun z1 f1 h1 => gx_gR h1.o (by decide) rfl (gx_gR h1.o (by decide) rfl (gx_aE (i := 1) h1.a3 rfl (by omega) (Nat.le_of_ble_eq_true rfl) (h1.s3 (i := 1) rfl (by omega) hA (fun z2 f2 h2 => gx_gR h2.o (by decide) rfl (gx_call (q_X10_allHold h2.a3 (by omega) hN) (fun _ z3 ⟨f3, h3⟩ => gx_ret ⟨(f1.tr f2).tr (f3.wide (by omega) (by omega)), ?_⟩))))))))
  have h4 := h2.row3 f3 h3
  refine h4.ext (fun k => ?_) (fun _ => rfl)
  by_cases e : k = 3
  · subst e
    rw [cset_eq, cset_eq]
    rfl
  · rw [cset_ne e, cset_ne e, cset_ne e, cset_ne e]
def ctF (f : Nat → Int32) (P : Nat → Bool) (i : Nat) : Nat → Int32 := fun j => if 5 ≤ j ∧ j < 5 + i ∧ P (j - 5) = true then f (j + 16) else f j
theorem ctF_at {f : Nat → Int32} {P : Nat → Bool} {i a : Nat} : ctF f P i (5 + a) = if a < i ∧ P a = true then f (21 + a) else f (5 + a) := by
  unfold ctF
  rw [show 5 + a - 5 = a by omega, show 5 + a + 16 = 21 + a by omega]
  by_cases q : a < i ∧ P a = true
  · rw [if_pos q, if_pos ⟨by omega, by omega, q.2⟩]
  · rw [if_neg q, if_neg (fun x => q ⟨by omega, x.2.2⟩)]
theorem ctF_s {f : Nat → Int32} {P : Nat → Bool} {i : Nat} : upd (ctF f P i) (5 + i) (if P i = true then f (21 + i) else f (5 + i)) = ctF f P (i + 1) := funext (fun j => by
  by_cases e : j = 5 + i
  · subst e
    rw [upd_eq, ctF_at]
    cases h : P i
    · rw [if_neg (by decide), if_neg (fun q => absurd q.2 (by decide))]
    · rw [if_pos rfl, if_pos ⟨by omega, rfl⟩]
  · rw [upd_ne e]
    unfold ctF
    by_cases q : 5 ≤ j ∧ j < 5 + i ∧ P (j - 5) = true
    · rw [if_pos q, if_pos ⟨q.1, by omega, q.2.2⟩]
    · rw [if_neg q, if_neg (fun x => q ⟨x.1, by omega, x.2.2⟩)])
def cuP (C S : Nat → Nat → Int32) (a : Nat) : Bool := bt (C 4 0) a && uu S a
def blP (C S : Nat → Nat → Int32) (p : Nat) : Bool := !decide (bld C S (nI p) = 0)
theorem q_X10_endsTurn (hm : rX10 z m M D) (hA : G.2.2.1 ≤ m) (hc : cpM C M D n np) (ht : cpT S (M 3)) (hi : stJ C S n np T) (hd : ∀ a, a < 16 → ds S a = false) {t : Nat} (e1 : S 1 0 = nI t) (ht31 : t < 2 ^ 31) (hN : 20 < N) : gx (qX10_endsTurn N m G z) (fun _ z' => osFr m (m + 21) z z' ∧ ∃ M', rX10 z' m M' D ∧ (∀ k, k ≠ 3 → M' k = M k) ∧ cpT (if t % 2 = 0 then closed C S np else begun S) (M' 3) ∧ stI C (if t % 2 = 0 then closed C S np else begun S) n np (T + 1)) := by
  have h16 := hc.n16
  have h4 := hc.p4
  unfold qX10_endsTurn
  refine gx_gR hm.o (by decide) rfl (gx_aE (i := 1) hm.a3 rfl (by omega) (Nat.le_of_ble_eq_true rfl) (gx_guard (by decide) ?_))
  rw [ht.1.2.1, e1]
  have e2 : nI t - nI t / (2 : Int32) * (2 : Int32) = nI (t % 2) := mod_nI (b := 2) ht31 (by omega)
  rw [e2]
  refine gx_ite (fun c => ?_) (fun c => ?_)
  · have hodd : ¬ t % 2 = 0 := fun q => by rw [q] at c; exact absurd c (by decide)
    rw [if_neg hodd]
    exact gx_recvQ hm.o (by decide) (q_X10_goesOn hm hA (by omega)) (fun _ z1 ⟨f1, h1⟩ => gx_ret ⟨f1, _, h1, fun k hk => cset_ne hk, cpT_go ht, stI_go hi hd⟩)
  · have hev : t % 2 = 0 := by
      rcases (show t % 2 = 0 ∨ t % 2 = 1 by omega) with q | q
      · exact q
      · rw [q] at c; exact absurd rfl c
    rw [if_pos hev]
    have hP : ∀ a, a < 16 → (decide (M 1 (18 + a) = 1) && !decide (S 6 a = -1)) = (bt (C 4 0) a && uu S a) := fun a ha => by
      rw [(hc.2.1 a ha).2.2.2.2]
      unfold uu
      cases bt (C 4 0) a <;> rfl
    unfold qX10_endsTurn_19
    refine gx_rows (fun i M' => (∀ k, k ≠ 3 → M' k = M k) ∧ M' 3 = ctF (M 3) (cuP C S) i) n (fun i => (m, nI i)) hm ⟨fun _ _ => rfl, funext (fun j => by unfold ctF; rw [if_neg (by omega)])⟩ ?_ ?_ N (by omega)
    · rintro ih a z1 M1 ha f1 h1 ⟨e3, r3⟩ k
      have ha16 : a < 16 := by omega
      have o5 : M1 3 (5 + a) = M 3 (5 + a) := by rw [r3]; unfold ctF; rw [if_neg (by omega)]
      have o21 : M1 3 (21 + a) = S 6 a := by rw [r3]; unfold ctF; rw [if_neg (by omega)]; exact (ht.2.1 a ha16).2.1
      have o18 : M1 1 (18 + a) = b2i (bt (C 4 0) a) := by rw [e3 1 (by omega)]; exact (hc.2.1 a ha16).2.2.2.2
      have fin : ∀ v z2, osFr m (m + 21) z1 z2 → rX10 z2 m (cset M1 3 (upd (M1 3) (5 + a) v)) D → v = (if (bt (C 4 0) a && uu S a) = true then S 6 a else M 3 (5 + a)) → gx (ih (m, nI a + 1) G z2) _ := fun v z2 f2 h2 ev => by
        rw [nI_1]
        refine k z2 _ f2 h2 ⟨fun k hk => by rw [cset_ne hk]; exact e3 k hk, funext (fun j => ?_)⟩
        show upd (M1 3) (5 + a) v j = _
        rw [← ctF_s (i := a), r3, ev]
        have e21 : M 3 (21 + a) = S 6 a := (ht.2.1 a ha16).2.1
        rw [e21]; rfl
      show gx (bX10_endsTurn_19 N ih m (nI a) G z1) _
      unfold bX10_endsTurn_19 qX10_endsTurn_72 qX10_endsTurn_80
      refine gx_gR h1.o (by decide) rfl (gx_aE (i := 0) h1.a1 rfl (by omega) (Nat.le_of_ble_eq_true rfl) (gx_itef (nI_nleE (a := n) (b := a) (by rw [e3 1 (by omega)]; exact hc.m0) rfl ha (by omega)) (gx_gR h1.o (by decide) rfl (gx_gR h1.o (by decide) rfl (gx_aE h1.a1 (nI_sum (a := 18) (b := a) rfl rfl) (by omega) (Nat.le_of_ble_eq_true rfl) ?_)))))
      have old : (bt (C 4 0) a && uu S a) = false → gx ((osbind (osgR [8] 3 m) fun x1 => osbind (osaI 0 x1 ((5 : Int32) + nI a)) fun x2 => osbind (ossI 0 (m + 3) ((5 : Int32) + nI a) x2) fun _ => ih (m, nI a + 1)) G z1) _ := fun hq =>
        gx_gR h1.o (by decide) rfl (gx_aE h1.a3 (nI_sum (a := 5) (b := a) rfl rfl) (by omega) (Nat.le_of_ble_eq_true rfl) (h1.s3 (nI_sum (a := 5) (b := a) rfl rfl) (by omega) hA (fun z2 f2 h2 => fin _ z2 f2 h2 (by rw [hq]; exact o5))))
      rw [o18]
      refine gx_ite (fun c1 => gx_gR h1.o (by decide) rfl (gx_callE (q_X10_isUnit h1.a3 ha16 rfl) ?_)) (fun c1 => ?_)
      · have hb : bt (C 4 0) a = true := by cases q : bt (C 4 0) a; rw [q] at c1; exact absurd c1 (by decide); rfl
        rw [o21]
        refine gx_iteB (fun c2 => ?_) (fun c2 => gx_gR h1.o (by decide) rfl (gx_aE h1.a3 (nI_sum (a := 21) (b := a) rfl rfl) (by omega) (Nat.le_of_ble_eq_true rfl) (h1.s3 (nI_sum (a := 5) (b := a) rfl rfl) (by omega) hA (fun z2 f2 h2 => fin _ z2 f2 h2 ?_))))
        · exact old (by rw [hb]; exact c2)
        · rw [hb, show uu S a = true from c2]; exact o21
      · have hb : bt (C 4 0) a = false := by cases q : bt (C 4 0) a; rfl; rw [q] at c1; exact absurd rfl c1
        exact old (by rw [hb]; rfl)
    · rintro ih z1 M1 f1 h1 ⟨e3, r3⟩
      show gx (bX10_endsTurn_19 N ih m (nI n) G z1) _
      unfold bX10_endsTurn_19
      have m0 : M1 1 0 = nI n := by rw [e3 1 (by omega)]; exact hc.m0
      refine gx_gR h1.o (by decide) rfl (gx_aE (i := 0) h1.a1 rfl (by omega) (Nat.le_of_ble_eq_true rfl) (gx_itet (by rw [m0]; exact ni_end h16) ?_))
      -- the centers' rows agree
      have at5 : ∀ j, ¬ (5 ≤ j ∧ j < 21) → M1 3 j = M 3 j := fun j hj => by
        rw [r3]; unfold ctF
        rw [if_neg (by rintro ⟨q1, q2, _⟩; exact hj ⟨q1, by omega⟩)]
      have own : ∀ a, a < 16 → M1 3 (5 + a) = ctr C S 5 a := fun a ha => by
        rw [r3, ctr_5 ha, ctF_at, (ht.2.1 a ha).1, (ht.2.1 a ha).2.1]
        have hu9 : uu S a = !decide (S 6 a = -1) := rfl
        by_cases q : bt (C 4 0) a = true ∧ ¬ S 6 a = -1
        · have hl : a < n := (hc.2.2.2.2.1 a (by omega)).1 (Or.inr (Or.inr q.1))
          have hx : cuP C S a = true := by unfold cuP; rw [q.1, hu9, decide_eq_false q.2]; rfl
          rw [if_pos q, if_pos ⟨hl, hx⟩]
        · rw [if_neg q, if_neg]
          rintro ⟨_, x⟩
          unfold cuP at x
          rw [Bool.and_eq_true] at x
          refine q ⟨x.1, fun y => ?_⟩
          have := x.2
          rw [hu9, decide_eq_true y] at this; cases this
      have ht1 : cpT (ctr C S) (M1 3) := by
        obtain ⟨⟨c0, c1, c2, c3, c4⟩, g1, g2, g3, g4⟩ := ht
        have e := fun k a => ctr_k (C := C) (S := S) (k := k) a
        have eu : uu (ctr C S) = uu S := by unfold uu; rw [e 6 (by omega)]
        have ed : ds (ctr C S) = ds S := by unfold ds; rw [e 8 (by omega)]
        refine ⟨⟨?_, ?_, ?_, ?_, ?_⟩, fun a ha => ⟨own a ha, ?_, ?_, ?_, ?_, ?_, ?_⟩, fun a ha hu => ?_, fun a ha hu => ⟨?_, ?_⟩, fun a w ha hw => ?_⟩
        · rw [at5 _ (by omega), e 0 (by omega)]; exact c0
        · rw [at5 _ (by omega), e 1 (by omega)]; exact c1
        · rw [at5 _ (by omega), e 2 (by omega)]; exact c2
        · rw [at5 _ (by omega), e 3 (by omega)]; exact c3
        · rw [at5 _ (by omega), e 4 (by omega)]; exact c4
        · rw [at5 _ (by omega), e 6 (by omega)]; exact (g1 a ha).2.1
        · rw [at5 _ (by omega), e 8 (by omega)]; exact (g1 a ha).2.2.1
        · rw [at5 _ (by omega), e 11 (by omega)]; exact (g1 a ha).2.2.2.1
        · rw [at5 _ (by omega), e 12 (by omega)]; exact (g1 a ha).2.2.2.2.1
        · rw [at5 _ (by omega), e 13 (by omega)]; exact (g1 a ha).2.2.2.2.2.1
        · rw [at5 _ (by omega), e 14 (by omega)]; exact (g1 a ha).2.2.2.2.2.2
        · rw [at5 _ (by omega), e 7 (by omega)]; rw [eu] at hu; exact g2 a ha hu
        · rw [at5 _ (by omega), e 9 (by omega)]; rw [ed] at hu; exact (g3 a ha hu).1
        · rw [at5 _ (by omega), e 10 (by omega)]; rw [ed] at hu; exact (g3 a ha hu).2
        · rw [at5 _ (by omega), e 15 (by omega)]; exact g4 a w ha hw
      have hi1 : stJ C (ctr C S) n np T := stJ_ctr hi
      have hd1 : ∀ a, a < 16 → ds (ctr C S) a = false := fun a ha => by
        have := hd a ha
        unfold ds at this ⊢
        rw [ctr_k (by omega)]; exact this
      have hc1 : cpM C M1 D n np := cpM_keep hc (e3 1 (by omega)) rfl
      have hcl : closed C S np = endT C (ctr C S) np := rfl
      rw [hcl]
      unfold endT
      have hex : (fd (fun p => !decide (bld C (ctr C S) (nI p) = 0)) 0 np).isSome = exn (blP C (ctr C S)) np := by
        rw [fd_exn]
        exact exn_cong (fun c _ => by rw [Nat.zero_add]; rfl)
      rw [hex]
      unfold qX10_endsTurn_91
      refine gx_loop np (fun i p z' => z' = z1 ∧ p = (m, b2i (exn (blP C (ctr C S)) i), nI i)) ?_ ?_ N 0 _ z1 (Nat.zero_le _) (by omega) ⟨rfl, rfl⟩
      · rintro ih2 p x z2 hp ⟨rfl, rfl⟩ k
        show gx (bX10_endsTurn_91 N ih2 m _ (nI p) G z2) _
        unfold bX10_endsTurn_91 qX10_endsTurn_117 qX10_endsTurn_122
        have hcn : cnU (M1 3) (-1) = cnU (M1 3) (-1) := rfl
        refine gx_gR h1.o (by decide) rfl (gx_aE (i := 1) h1.a1 rfl (by omega) (Nat.le_of_ble_eq_true rfl) (gx_itef (nI_nleE (a := np) (b := p) hc1.m1 rfl hp (by omega)) (gx_iteB (fun c1 => gx_gR h1.o (by decide) rfl (gx_recvE h1.o (by decide) (q_X10_buildsOf h1 h1.a3 m0 h16 (by rw [cnU_all hi1 ht1 h16]; exact nu12 hi1) (by omega)) ?_)) (fun c1 => ?_))))
        · rw [bl_eq hc1 hi1 ht1 (nI_m1 (by omega))]
          refine gx_ite (fun c2 => ?_) (fun c2 => ?_)
          · rw [nI_1]
            refine k _ _ ⟨rfl, ?_⟩
            show (m, (0 : Int32), nI (p + 1)) = (m, b2i (exn (blP C (ctr C S)) p || blP C (ctr C S) p), nI (p + 1))
            rw [c1]; unfold blP; rw [decide_eq_true c2]; rfl
          · rw [nI_1]
            refine k _ _ ⟨rfl, ?_⟩
            show (m, (1 : Int32), nI (p + 1)) = (m, b2i (exn (blP C (ctr C S)) p || blP C (ctr C S) p), nI (p + 1))
            rw [c1]; unfold blP; rw [decide_eq_false c2]; rfl
        · rw [nI_1]
          refine k _ _ ⟨rfl, ?_⟩
          show (m, (1 : Int32), nI (p + 1)) = (m, b2i (exn (blP C (ctr C S)) p || blP C (ctr C S) p), nI (p + 1))
          rw [c1]; rfl
      · rintro ih2 x z2 ⟨rfl, rfl⟩
        show gx (bX10_endsTurn_91 N ih2 m _ (nI np) G z2) _
        unfold bX10_endsTurn_91 qX10_endsTurn_147
        refine gx_gR h1.o (by decide) rfl (gx_aE (i := 1) h1.a1 rfl (by omega) (Nat.le_of_ble_eq_true rfl) (gx_itet (by rw [hc1.m1]; exact (nI_leI (by omega) (by omega)).mpr (Nat.le_refl _)) (gx_iteB (fun c1 => ?_) (fun c1 => ?_))))
        · rw [c1, if_neg (by decide)]
          exact gx_recvQ h1.o (by decide) (q_X10_goesOn h1 hA (by omega)) (fun _ z3 ⟨f3, h3⟩ => gx_ret ⟨f1.tr f3, _, h3, fun k hk => by rw [cset_ne hk]; exact e3 k hk, cpT_go ht1, stI_go hi1 hd1⟩)
        · rw [c1, if_pos rfl]
          exact gx_gR h1.o (by decide) rfl (h1.s3 (i := 0) rfl (by omega) hA (fun z3 f3 h3 => gx_ret ⟨f1.tr f3, _, h3, fun k hk => by rw [cset_ne hk]; exact e3 k hk, cpT_ph ht1, stI_T (stI_ph2 hi1 hd1) (by omega)⟩))
end
