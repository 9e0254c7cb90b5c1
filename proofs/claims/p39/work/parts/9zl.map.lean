/-! a map's drafts, coupled (by program) -/
/-- the draft of a map's state: f the reference's -/
def MS (B S : Nat → Nat → Int32) (f : Nat → Int32) (n np : Nat) : Prop := cpT S f ∧ (S 0 0 = 0 ∧ S 1 0 = 1 ∧ S 2 0 = 0 ∧ ∀ a, a < 16 → S 8 a = -1 ∧ S 9 a = -1 ∧ S 11 a = -1 ∧ S 12 a = 0 ∧ S 13 a = -1 ∧ S 14 a = -1) ∧ (∀ a, a < 16 → uu S a = true → a < n ∧ pw np (S 6 a) ∧ (S 7 a = 0 ∨ S 7 a = 1)) ∧ (∀ a, a < 16 → uu S a = false → S 7 a = -1) ∧ (∀ a, a < 16 → S 5 a = B 6 a) ∧ nu S ≤ 12
/-- the drafts of a map: g, d the reference's -/
def QM (B S : Nat → Nat → Int32) (g : Nat → Int32) (d : Nat → Int64) (f : Nat → Int32) (n np : Nat) : Prop := cpM B (fun _ => g) (fun _ => d) n np ∧ (∀ a, a < 16 → g (50 + a) = B 7 a ||| B 8 a) ∧ MS B S f n np
section
variable {B B' S S' : Nat → Nat → Int32} {g g' : Nat → Int32} {d d' : Nat → Int64} {f f' : Nat → Int32} {n np a : Nat} {v w kd : Int32} {o : Bool}
theorem pw_up (h : pw np v) : pw (np + 1) v := by
  obtain ⟨p, hp, e⟩ := h
  exact ⟨p, by omega, e⟩
theorem MS_stI (hm : cpM B (fun _ => g) (fun _ => d) n np) (h : MS B S f n np) : stI B S n np 1 := by
  obtain ⟨ht, ⟨s0, s1, s2, sr⟩, hu, h7, h5, hn⟩ := h
  have hds : ∀ a, a < 16 → ds S a = false := fun a ha => by unfold ds; rw [(sr a ha).1]; rfl
  refine ⟨⟨Or.inl s2, ⟨1, s1, Nat.le_refl 1, Nat.le_refl 1⟩, h7, hu, fun a ha q => ?_, fun a ha _ => ⟨(sr a ha).2.1, (sr a ha).2.2.1⟩, ?_, fun a ha q => ?_, fun a ha q => ?_⟩, Or.inl s0, fun a ha q => ?_, fun _ a ha _ => ?_⟩
  · rw [hds a ha] at q; cases q
  · rw [fb_ct_zero.mpr hds, ← nu_uu]; exact hn
  · rw [h5 a ha] at q ⊢
    have := hm.2.2.2.2.2.2 a ha q
    exact ⟨this.2.2, this.2.1⟩
  · exact absurd (sr a ha).2.2.1 q
  · rw [hds a ha] at q; cases q
  · obtain ⟨_, _, _, q1, q2, q3⟩ := sr a ha
    rw [q1, q2, q3]
    exact ⟨Or.inl rfl, fun _ => rfl, fun q => absurd rfl q, fun q => absurd q (by decide), fun _ => rfl, fun q => absurd q (by decide)⟩
theorem MS_mono (h : MS B S f n np) (e6 : ∀ a, a < 16 → B' 6 a = B 6 a) {n' np' : Nat} (hn : n ≤ n') (hp : np ≤ np') : MS B' S f n' np' := by
  obtain ⟨ht, hb, hu, h7, h5, hnu⟩ := h
  refine ⟨ht, hb, fun a ha q => ?_, h7, fun a ha => by rw [e6 a ha]; exact h5 a ha, hnu⟩
  obtain ⟨u1, ⟨p, u2, u3⟩, u4⟩ := hu a ha q
  exact ⟨by omega, ⟨p, by omega, u3⟩, u4⟩
theorem MS_home (h : MS B S f n np) (ha : a < 16) (e6 : ∀ j, B' 6 j = if j = a then v else B 6 j) : MS B' (cset S 5 (upd (S 5) a v)) (upd f (5 + a) v) n np := by
  obtain ⟨⟨⟨c0, c1, c2, c3, c4⟩, h1, h2, h3, h4⟩, hb, hu, h7, h5, hnu⟩ := h
  have no : ∀ j, ¬ j = 5 + a → upd f (5 + a) v j = f j := fun j hj => upd_ne hj
  have e5 : ∀ j, (cset S 5 (upd (S 5) a v)) 5 j = if j = a then v else S 5 j := fun _ => rfl
  refine ⟨⟨⟨?_, ?_, ?_, ?_, ?_⟩, fun j hj => ?_, fun j hj q => ?_, fun j hj q => ?_, fun j w2 hj hw => ?_⟩, hb, hu, h7, fun j hj => ?_, hnu⟩
  · rw [no _ (by omega)]; exact c0
  · rw [no _ (by omega)]; exact c1
  · rw [no _ (by omega)]; exact c2
  · rw [no _ (by omega)]; exact c3
  · rw [no _ (by omega)]; exact c4
  · obtain ⟨t1, t2, t3, t4, t5, t6, t7⟩ := h1 j hj
    rw [no (21 + j) (by omega), no (53 + j) (by omega), no (101 + j) (by omega), no (117 + j) (by omega), no (133 + j) (by omega), no (149 + j) (by omega), e5]
    refine ⟨?_, t2, t3, t4, t5, t6, t7⟩
    show (if 5 + j = 5 + a then v else f (5 + j)) = _
    by_cases e : j = a
    · rw [if_pos e, if_pos (by omega)]
    · rw [if_neg e, if_neg (by omega)]; exact t1
  · rw [no _ (by omega)]; exact h2 j hj q
  · rw [no _ (by omega), no _ (by omega)]; exact h3 j hj q
  · rw [no _ (by omega)]; exact h4 j w2 hj hw
  · rw [e5, e6]
    by_cases e : j = a
    · rw [if_pos e, if_pos e]
    · rw [if_neg e, if_neg e]; exact h5 j hj
theorem MS_unit (h : MS B S f n np) (ha : a < n) (h16 : n ≤ 16) (hp4 : np ≤ 4) (hp : pw np v) (hk : w = 0 ∨ w = 1) (hnu : nu S < 12) (hu0 : uu S a = false) : MS B (placed S a v w) (upd (upd f (21 + a) v) (37 + a) w) n np := by
  obtain ⟨ht, hb, hu, h7, h5, hnu2⟩ := h
  have e6 : ∀ j, placed S a v w 6 j = if j = a then v else S 6 j := fun _ => rfl
  have e7 : ∀ j, placed S a v w 7 j = if j = a then w else S 7 j := fun _ => rfl
  have eu : uu (placed S a v w) = fun j => if j = a then !decide (v = -1) else uu S j := by
    funext j
    show (!decide (placed S a v w 6 j = -1)) = _
    rw [e6]
    by_cases e : j = a
    · rw [if_pos e, if_pos e]
    · rw [if_neg e, if_neg e]; rfl
  have hv : (!decide (v = -1)) = true := by rw [decide_eq_false (pw_n1 hp4 hp)]; rfl
  refine ⟨cpT_place ht (by omega) (fun j h1 h2 => by rw [upd_ne h2, upd_ne h1]) (by rw [upd_ne (by omega), upd_eq]) (fun _ => upd_eq), hb, fun j hj q => ?_, fun j hj q => ?_, h5, ?_⟩
  · rw [eu] at q
    rw [e6, e7]
    by_cases e : j = a
    · rw [if_pos e, if_pos e]; exact ⟨by omega, hp, hk⟩
    · rw [if_neg e, if_neg e]
      simp only [if_neg e] at q
      exact hu j hj q
  · rw [eu] at q
    rw [e7]
    by_cases e : j = a
    · simp only [if_pos e] at q
      rw [hv] at q; cases q
    · rw [if_neg e]
      simp only [if_neg e] at q
      exact h7 j hj q
  · have h := fb_ct_upd (uu S) (!decide (v = -1)) (i := a) (n := 16) (by omega)
    rw [nu_uu, eu]
    rw [nu_uu] at hnu
    rw [hv] at h ⊢
    have e1 : (if true = true then 1 else 0) = 1 := rfl
    rw [e1] at h
    omega
theorem aA_b (h16 : n < 16) {j : Nat} (hj : j < 32) : bt (areaAdded B n v kd o 2 0) j = (bt (B 2 0) j || (decide (kd = 1) && decide (j = n))) ∧ bt (areaAdded B n v kd o 3 0) j = (bt (B 3 0) j || (decide (kd = 2) && decide (j = n))) ∧ bt (areaAdded B n v kd o 4 0) j = (bt (B 4 0) j || (o && decide (j = n))) := by
  have r2 : areaAdded B n v kd o 2 0 = if kd = 1 then B 2 0 ||| sg n else B 2 0 := by
    unfold areaAdded
    by_cases q1 : kd = 1 <;> by_cases q2 : kd = 2 <;> cases o <;> simp [q1, q2, cset]
  have r3 : areaAdded B n v kd o 3 0 = if kd = 2 then B 3 0 ||| sg n else B 3 0 := by
    unfold areaAdded
    by_cases q1 : kd = 1 <;> by_cases q2 : kd = 2 <;> cases o <;> simp [q1, q2, cset]
  have r4 : areaAdded B n v kd o 4 0 = if o = true then B 4 0 ||| sg n else B 4 0 := by
    unfold areaAdded
    by_cases q1 : kd = 1 <;> by_cases q2 : kd = 2 <;> cases o <;> simp [q1, q2, cset]
  rw [r2, r3, r4]
  refine ⟨?_, ?_, ?_⟩
  · by_cases q : kd = 1
    · rw [if_pos q, b_or, b_sg (by omega) hj, decide_eq_true q, Bool.true_and]
    · rw [if_neg q, decide_eq_false q, Bool.false_and, Bool.or_false]
  · by_cases q : kd = 2
    · rw [if_pos q, b_or, b_sg (by omega) hj, decide_eq_true q, Bool.true_and]
    · rw [if_neg q, decide_eq_false q, Bool.false_and, Bool.or_false]
  · cases o
    · rw [if_neg (by decide), Bool.false_and, Bool.or_false]
    · rw [if_pos rfl, b_or, b_sg (by omega) hj, Bool.true_and]
theorem aA_r {k : Nat} (hk : k = 1 ∨ k = 6 ∨ k = 7 ∨ k = 8 ∨ k = 9) : areaAdded B n v kd o k = B k := by
  unfold areaAdded
  rcases hk with rfl | rfl | rfl | rfl | rfl <;> by_cases q1 : kd = 1 <;> by_cases q2 : kd = 2 <;> cases o <;> simp [q1, q2, cset]
theorem aA_0 : areaAdded B n v kd o 0 0 = B 0 0 + (1 : Int32) := by
  unfold areaAdded
  by_cases q1 : kd = 1 <;> by_cases q2 : kd = 2 <;> cases o <;> simp [q1, q2, cset]
theorem aA_5 : areaAdded B n v kd o 5 = upd (B 5) n v := by
  unfold areaAdded
  by_cases q1 : kd = 1 <;> by_cases q2 : kd = 2 <;> cases o <;> simp [q1, q2, cset]
theorem cpM_area (h : cpM B (fun _ => g) (fun _ => d) n np) (h16 : n < 16) {u : Nat} (u0 : 0 < u) (u1 : u < 2 ^ 25) (hk : kd = 0 ∨ kd = 1 ∨ kd = 2) (ho : kd = 2 → o = false) (g0 : g' 0 = nI (n + 1)) (g2 : g' (2 + n) = kd) (g18 : g' (18 + n) = b2i o) (gr : ∀ j, ¬ j = 0 → ¬ j = 2 + n → ¬ j = 18 + n → g' j = g j) (dn : d' n = lN u) (dr : ∀ j, ¬ j = n → d' j = d j) : cpM (areaAdded B n (nI u) kd o) (fun _ => g') (fun _ => d') (n + 1) np := by
  obtain ⟨⟨a1, a2, a3, a4, a5, a6⟩, b1, b2, b3, b4, b5, b6⟩ := h
  have a6' : g 1 = nI np := a6
  have no2 : bt (B 2 0) n = false := by
    cases q : bt (B 2 0) n
    · rfl
    · have := (b4 n (by omega)).1 (Or.inl q); omega
  have no3 : bt (B 3 0) n = false := by
    cases q : bt (B 3 0) n
    · rfl
    · have := (b4 n (by omega)).1 (Or.inr (Or.inl q)); omega
  have no4 : bt (B 4 0) n = false := by
    cases q : bt (B 4 0) n
    · rfl
    · have := (b4 n (by omega)).1 (Or.inr (Or.inr q)); omega
  refine ⟨⟨by omega, a2, ?_, g0, ?_, ?_⟩, fun a ha => ?_, fun a ha => ?_, fun p hp => ?_, fun j hj => ?_, fun a c ha hc q => ?_, fun a ha q => ?_⟩
  · rw [aA_0, a3]; exact nI_sum (b := 1) rfl rfl
  · rw [aA_r (k := 1) (by omega)]; exact a5
  · show g' 1 = _
    rw [gr 1 (by omega) (by omega) (by omega)]; exact a6'
  · obtain ⟨t1, t2, t3, t4, t5⟩ := b1 a ha
    have t1' : g (66 + a) = B 7 a := t1
    have t2' : g (82 + a) = B 8 a := t2
    have t3' : g (34 + a) = B 6 a := t3
    have t4' : g (2 + a) = kdOf B a := t4
    have t5' : g (18 + a) = b2i (bt (B 4 0) a) := t5
    obtain ⟨r2, r3, r4⟩ := aA_b (B := B) (v := nI u) (kd := kd) (o := o) h16 (j := a) (by omega)
    rw [aA_r (k := 7) (by omega), aA_r (k := 8) (by omega), aA_r (k := 6) (by omega)]
    show g' (66 + a) = _ ∧ g' (82 + a) = _ ∧ g' (34 + a) = _ ∧ g' (2 + a) = _ ∧ g' (18 + a) = _
    rw [gr (66 + a) (by omega) (by omega) (by omega), gr (82 + a) (by omega) (by omega) (by omega), gr (34 + a) (by omega) (by omega) (by omega)]
    refine ⟨t1', t2', t3', ?_, ?_⟩
    · unfold kdOf
      rw [r2, r3]
      by_cases e : a = n
      · subst e
        rw [no2, no3, decide_eq_true (rfl : a = a), g2]
        rcases hk with rfl | rfl | rfl <;> rfl
      · rw [decide_eq_false e, Bool.and_false, Bool.and_false, Bool.or_false, Bool.or_false, gr (2 + a) (by omega) (by omega) (by omega)]
        exact t4'
    · rw [r4]
      by_cases e : a = n
      · subst e
        rw [no4, decide_eq_true (rfl : a = a), g18, Bool.false_or, Bool.and_true]
      · rw [decide_eq_false e, Bool.and_false, Bool.or_false, gr (18 + a) (by omega) (by omega) (by omega)]
        exact t5'
  · rw [aA_5]
    by_cases e : a = n
    · subst e
      exact ⟨u, u0, u1, upd_eq, dn⟩
    · obtain ⟨w, w0, w1, w2, w3⟩ := b2 a (by omega)
      exact ⟨w, w0, w1, by rw [upd_ne e]; exact w2, by show d' a = _; rw [dr a e]; exact w3⟩
  · obtain ⟨w, w0, w1, w2, w3⟩ := b3 p hp
    exact ⟨w, w0, w1, by rw [aA_r (k := 9) (by omega)]; exact w2, by show d' (16 + p) = _; rw [dr (16 + p) (by omega)]; exact w3⟩
  · obtain ⟨r2, r3, r4⟩ := aA_b (B := B) (v := nI u) (kd := kd) (o := o) h16 (j := j) hj
    rw [r2, r3, r4]
    obtain ⟨c1, c2⟩ := b4 j hj
    by_cases e : j = n
    · subst e
      refine ⟨fun _ => by omega, fun q => ?_⟩
      rw [no3, Bool.false_or, decide_eq_true (rfl : j = j), Bool.and_true]
      rw [no2, no4, Bool.false_or, Bool.false_or, decide_eq_true (rfl : j = j), Bool.and_true, Bool.and_true, decide_eq_true_eq] at q
      rcases q with q | q
      · rw [q]; rfl
      · refine decide_eq_false (fun q2 => ?_)
        rw [ho q2] at q; cases q
    · rw [decide_eq_false e, Bool.and_false, Bool.and_false, Bool.and_false, Bool.or_false, Bool.or_false, Bool.or_false]
      exact ⟨fun q => by have := c1 q; omega, c2⟩
  · rw [aA_r (k := 7) (by omega), aA_r (k := 8) (by omega)] at q
    obtain ⟨q1, q2, q3⟩ := b5 a c ha hc q
    exact ⟨by omega, by omega, q3⟩
  · rw [aA_r (k := 6) (by omega)] at q ⊢
    obtain ⟨q1, q2, q3⟩ := b6 a ha q
    obtain ⟨_, _, r4⟩ := aA_b (B := B) (v := nI u) (kd := kd) (o := o) h16 (j := a) (by omega)
    exact ⟨by omega, q2, by rw [r4, q3]; rfl⟩
theorem cpM_power (h : cpM B (fun _ => g) (fun _ => d) n np) (h4 : np < 4) {u : Nat} (u0 : 0 < u) (u1 : u < 2 ^ 25) (g1 : g' 1 = nI (np + 1)) (gr : ∀ j, ¬ j = 1 → g' j = g j) (dn : d' (16 + np) = lN u) (dr : ∀ j, ¬ j = 16 + np → d' j = d j) : cpM (cset (cset B 9 (upd (B 9) np (nI u))) 1 fun _ => B 1 0 + (1 : Int32)) (fun _ => g') (fun _ => d') n (np + 1) := by
  obtain ⟨⟨a1, a2, a3, a4, a5, a6⟩, b1, b2, b3, b4, b5, b6⟩ := h
  refine ⟨⟨a1, by omega, a3, ?_, ?_, g1⟩, fun a ha => ?_, fun a ha => ?_, fun p hp => ?_, b4, b5, fun a ha q => ?_⟩
  · show g' 0 = _
    rw [gr 0 (by omega)]; exact a4
  · show B 1 0 + (1 : Int32) = _
    rw [a5]; exact nI_sum (b := 1) rfl rfl
  · obtain ⟨t1, t2, t3, t4, t5⟩ := b1 a ha
    show g' (66 + a) = _ ∧ g' (82 + a) = _ ∧ g' (34 + a) = _ ∧ g' (2 + a) = _ ∧ g' (18 + a) = _
    rw [gr (66 + a) (by omega), gr (82 + a) (by omega), gr (34 + a) (by omega), gr (2 + a) (by omega), gr (18 + a) (by omega)]
    exact ⟨t1, t2, t3, t4, t5⟩
  · obtain ⟨w, w0, w1, w2, w3⟩ := b2 a ha
    exact ⟨w, w0, w1, w2, by show d' a = _; rw [dr a (by omega)]; exact w3⟩
  · by_cases e : p = np
    · subst e
      exact ⟨u, u0, u1, upd_eq, dn⟩
    · obtain ⟨w, w0, w1, w2, w3⟩ := b3 p (by omega)
      exact ⟨w, w0, w1, by show upd (B 9) np (nI u) p = _; rw [upd_ne e]; exact w2, by show d' (16 + p) = _; rw [dr (16 + p) (by omega)]; exact w3⟩
  · obtain ⟨q1, q2, q3⟩ := b6 a ha q
    exact ⟨q1, pw_up q2, q3⟩
theorem cpM_home (h : cpM B (fun _ => g) (fun _ => d) n np) (ha : a < n) (hp : pw np v) (hc : bt (B 4 0) a = true) (g34 : g' (34 + a) = v) (gr : ∀ j, ¬ j = 34 + a → g' j = g j) : cpM (cset B 6 (upd (B 6) a v)) (fun _ => g') (fun _ => d) n np := by
  obtain ⟨⟨a1, a2, a3, a4, a5, a6⟩, b1, b2, b3, b4, b5, b6⟩ := h
  have e6 : ∀ j, (cset B 6 (upd (B 6) a v)) 6 j = if j = a then v else B 6 j := fun _ => rfl
  refine ⟨⟨a1, a2, a3, ?_, a5, ?_⟩, fun c hc => ?_, b2, b3, b4, b5, fun c hc q => ?_⟩
  · show g' 0 = _
    rw [gr 0 (by omega)]; exact a4
  · show g' 1 = _
    rw [gr 1 (by omega)]; exact a6
  · obtain ⟨t1, t2, t3, t4, t5⟩ := b1 c hc
    show g' (66 + c) = _ ∧ g' (82 + c) = _ ∧ g' (34 + c) = _ ∧ g' (2 + c) = _ ∧ g' (18 + c) = _
    rw [gr (66 + c) (by omega), gr (82 + c) (by omega), gr (2 + c) (by omega), gr (18 + c) (by omega), e6]
    refine ⟨t1, t2, ?_, t4, t5⟩
    by_cases e : c = a
    · rw [if_pos e, e]; exact g34
    · rw [if_neg e, gr (34 + c) (by omega)]; exact t3
  · rw [e6] at q ⊢
    by_cases e : c = a
    · rw [if_pos e]
      subst e
      exact ⟨ha, hp, hc⟩
    · rw [if_neg e] at q ⊢
      exact b6 c hc q
def jx (i j c : Nat) : Int32 := if c = i then sg j else if c = j then sg i else 0
theorem joinR_at {F : Nat → Int32} {i j c : Nat} (hij : ¬ i = j) : joinR F i j c = F c ||| jx i j c := by
  unfold joinR jx
  by_cases e : c = j
  · subst e
    rw [upd_eq, upd_ne (fun q => hij q.symm), if_neg (fun q => hij q.symm), if_pos rfl]
  · rw [upd_ne e]
    by_cases e2 : c = i
    · subst e2
      rw [upd_eq, if_pos rfl]
    · rw [upd_ne e2, if_neg e2, if_neg e]
      refine b_ext (fun k hk => ?_)
      rw [b_or, b_0, Bool.or_false]
def jn (G : Nat → Int32) (r i j : Nat) : Nat → Int32 := upd (upd G (r + i) (G (r + i) ||| sg j)) (r + j) ((upd G (r + i) (G (r + i) ||| sg j)) (r + j) ||| sg i)
theorem jn_at {F : Nat → Int32} {r i j c : Nat} (hij : ¬ i = j) : jn F r i j (r + c) = F (r + c) ||| jx i j c := by
  unfold jn jx
  by_cases e : c = j
  · subst e
    rw [upd_eq, upd_ne (by omega), if_neg (fun q => hij q.symm), if_pos rfl]
  · rw [upd_ne (by omega)]
    by_cases e2 : c = i
    · subst e2
      rw [upd_eq, if_pos rfl]
    · rw [upd_ne (by omega), if_neg e2, if_neg e]
      refine b_ext (fun k hk => ?_)
      rw [b_or, b_0, Bool.or_false]
theorem jn_no {F : Nat → Int32} {r i j k : Nat} (h1 : ¬ k = r + i) (h2 : ¬ k = r + j) : jn F r i j k = F k := by
  unfold jn
  rw [upd_ne h2, upd_ne h1]
/-- what the reference's draft is, a border told -/
def jns (G : Nat → Int32) (i j : Nat) (ar fl : Bool) : Nat → Int32 := if fl = true then jn (if ar = true then jn (jn G 50 i j) 66 i j else jn G 50 i j) 82 i j else (if ar = true then jn (jn G 50 i j) 66 i j else jn G 50 i j)
theorem jns_at {F : Nat → Int32} {i j c : Nat} {ar fl : Bool} (hi : i < 16) (hj : j < 16) (hc : c < 16) (hij : ¬ i = j) : jns F i j ar fl (50 + c) = F (50 + c) ||| jx i j c ∧ jns F i j ar fl (66 + c) = (if ar = true then F (66 + c) ||| jx i j c else F (66 + c)) ∧ jns F i j ar fl (82 + c) = (if fl = true then F (82 + c) ||| jx i j c else F (82 + c)) := by
  unfold jns
  cases ar <;> cases fl
  · rw [if_neg (by decide), if_neg (by decide), if_neg (by decide), if_neg (by decide)]
    exact ⟨jn_at hij, jn_no (by omega) (by omega), jn_no (by omega) (by omega)⟩
  · rw [if_pos rfl, if_neg (by decide), if_neg (by decide), if_pos rfl]
    refine ⟨?_, ?_, ?_⟩
    · rw [jn_no (by omega) (by omega), jn_at hij]
    · rw [jn_no (by omega) (by omega), jn_no (by omega) (by omega)]
    · rw [jn_at hij, jn_no (by omega) (by omega)]
  · rw [if_neg (by decide), if_pos rfl, if_pos rfl, if_neg (by decide)]
    refine ⟨?_, ?_, ?_⟩
    · rw [jn_no (by omega) (by omega), jn_at hij]
    · rw [jn_at hij, jn_no (by omega) (by omega)]
    · rw [jn_no (by omega) (by omega), jn_no (by omega) (by omega)]
  · rw [if_pos rfl, if_pos rfl, if_pos rfl, if_pos rfl]
    refine ⟨?_, ?_, ?_⟩
    · rw [jn_no (by omega) (by omega), jn_no (by omega) (by omega), jn_at hij]
    · rw [jn_no (by omega) (by omega), jn_at hij, jn_no (by omega) (by omega)]
    · rw [jn_at hij, jn_no (by omega) (by omega), jn_no (by omega) (by omega)]
theorem jns_no {F : Nat → Int32} {i j k : Nat} {ar fl : Bool} (hi : i < 16) (hj : j < 16) (hk : k < 50) : jns F i j ar fl k = F k := by
  unfold jns
  cases ar <;> cases fl
  · rw [if_neg (by decide), if_neg (by decide), jn_no (by omega) (by omega)]
  · rw [if_pos rfl, if_neg (by decide), jn_no (by omega) (by omega), jn_no (by omega) (by omega)]
  · rw [if_neg (by decide), if_pos rfl, jn_no (by omega) (by omega), jn_no (by omega) (by omega)]
  · rw [if_pos rfl, if_pos rfl, jn_no (by omega) (by omega), jn_no (by omega) (by omega), jn_no (by omega) (by omega)]
theorem bo_7 {i j c : Nat} {ar fl : Bool} (hij : ¬ i = j) : bordered B i j ar fl 7 c = (if ar = true then B 7 c ||| jx i j c else B 7 c) ∧ bordered B i j ar fl 8 c = (if fl = true then B 8 c ||| jx i j c else B 8 c) := by
  unfold bordered
  cases ar <;> cases fl
  · exact ⟨rfl, rfl⟩
  · exact ⟨rfl, joinR_at hij⟩
  · exact ⟨joinR_at hij, rfl⟩
  · exact ⟨joinR_at hij, joinR_at hij⟩
theorem bo_r {i j k : Nat} {ar fl : Bool} (h7 : ¬ k = 7) (h8 : ¬ k = 8) : bordered B i j ar fl k = B k := by
  unfold bordered joinB
  cases ar <;> cases fl
  · rfl
  · rw [if_neg (by decide), if_pos rfl, cset_ne h8, cset_ne h8]
  · rw [if_pos rfl, if_neg (by decide), cset_ne h7, cset_ne h7]
  · rw [if_pos rfl, if_pos rfl, cset_ne h8, cset_ne h8, cset_ne h7, cset_ne h7]
theorem jx_b {i j c k : Nat} (hi : i < 16) (hj : j < 16) (hk : k < 32) (h : bt (jx i j c) k = true) : (c = i ∧ k = j) ∨ (c = j ∧ k = i) := by
  unfold jx at h
  by_cases e : c = i
  · rw [if_pos e, b_sg (by omega) hk] at h
    exact Or.inl ⟨e, of_decide_eq_true h⟩
  · rw [if_neg e] at h
    by_cases e2 : c = j
    · rw [if_pos e2, b_sg (by omega) hk] at h
      exact Or.inr ⟨e2, of_decide_eq_true h⟩
    · rw [if_neg e2, b_0] at h; cases h
theorem cpM_border (h : cpM B (fun _ => g) (fun _ => d) n np) (hb : ∀ a, a < 16 → g (50 + a) = B 7 a ||| B 8 a) {i j : Nat} {ar fl : Bool} (hi : i < n) (hj : j < n) (hij : ¬ i = j) (haf : ar = true ∨ fl = true) : cpM (bordered B i j ar fl) (fun _ => jns g i j ar fl) (fun _ => d) n np ∧ ∀ a, a < 16 → jns g i j ar fl (50 + a) = bordered B i j ar fl 7 a ||| bordered B i j ar fl 8 a := by
  have h16 := h.n16
  obtain ⟨⟨a1, a2, a3, a4, a5, a6⟩, b1, b2, b3, b4, b5, b6⟩ := h
  refine ⟨⟨⟨a1, a2, ?_, ?_, ?_, ?_⟩, fun c hc => ?_, fun c hc => ?_, fun p hp => ?_, fun k hk => ?_, fun c k hc hk q => ?_, fun c hc q => ?_⟩, fun c hc => ?_⟩
  · rw [bo_r (by omega) (by omega)]; exact a3
  · show jns g i j ar fl 0 = _
    rw [jns_no (by omega) (by omega) (by omega)]; exact a4
  · rw [bo_r (by omega) (by omega)]; exact a5
  · show jns g i j ar fl 1 = _
    rw [jns_no (by omega) (by omega) (by omega)]; exact a6
  · obtain ⟨t1, t2, t3, t4, t5⟩ := b1 c hc
    have t1' : g (66 + c) = B 7 c := t1
    have t2' : g (82 + c) = B 8 c := t2
    obtain ⟨_, j66, j82⟩ := jns_at (F := g) (ar := ar) (fl := fl) (i := i) (j := j) (by omega) (by omega) hc hij
    obtain ⟨o7, o8⟩ := bo_7 (B := B) (c := c) (ar := ar) (fl := fl) hij
    show jns g i j ar fl (66 + c) = _ ∧ jns g i j ar fl (82 + c) = _ ∧ jns g i j ar fl (34 + c) = _ ∧ jns g i j ar fl (2 + c) = _ ∧ jns g i j ar fl (18 + c) = _
    rw [j66, j82, o7, o8, t1', t2', jns_no (k := 34 + c) (by omega) (by omega) (by omega), jns_no (k := 2 + c) (by omega) (by omega) (by omega), jns_no (k := 18 + c) (by omega) (by omega) (by omega), bo_r (k := 6) (by omega) (by omega), bo_r (k := 4) (by omega) (by omega)]
    refine ⟨rfl, rfl, t3, ?_, t5⟩
    unfold kdOf
    rw [bo_r (k := 3) (by omega) (by omega), bo_r (k := 2) (by omega) (by omega)]
    exact t4
  · rw [bo_r (k := 5) (by omega) (by omega)]; exact b2 c hc
  · rw [bo_r (k := 9) (by omega) (by omega)]; exact b3 p hp
  · rw [bo_r (k := 2) (by omega) (by omega), bo_r (k := 3) (by omega) (by omega), bo_r (k := 4) (by omega) (by omega)]; exact b4 k hk
  · obtain ⟨o7, o8⟩ := bo_7 (B := B) (c := c) (ar := ar) (fl := fl) hij
    rw [o7, o8] at q
    have hq : bt (B 7 c) k = true ∨ bt (B 8 c) k = true ∨ bt (jx i j c) k = true := by
      rcases q with q | q
      · cases ar
        · exact Or.inl q
        · rw [if_pos rfl, b_or, Bool.or_eq_true] at q
          rcases q with q | q
          · exact Or.inl q
          · exact Or.inr (Or.inr q)
      · cases fl
        · exact Or.inr (Or.inl q)
        · rw [if_pos rfl, b_or, Bool.or_eq_true] at q
          rcases q with q | q
          · exact Or.inr (Or.inl q)
          · exact Or.inr (Or.inr q)
    rcases hq with q | q | q
    · exact b5 c k hc hk (Or.inl q)
    · exact b5 c k hc hk (Or.inr q)
    · rcases jx_b (by omega) (by omega) hk q with ⟨rfl, rfl⟩ | ⟨rfl, rfl⟩
      · exact ⟨hi, hj, hij⟩
      · exact ⟨hj, hi, fun e => hij e.symm⟩
  · rw [bo_r (k := 6) (by omega) (by omega)] at q ⊢
    rw [bo_r (k := 4) (by omega) (by omega)]; exact b6 c hc q
  · obtain ⟨j50, _, _⟩ := jns_at (F := g) (ar := ar) (fl := fl) (i := i) (j := j) (by omega) (by omega) hc hij
    obtain ⟨o7, o8⟩ := bo_7 (B := B) (c := c) (ar := ar) (fl := fl) hij
    rw [j50, o7, o8, hb c hc]
    refine b_ext (fun k hk => ?_)
    cases ar <;> cases fl
    · rcases haf with q | q <;> cases q
    · rw [if_neg (by decide), if_pos rfl, b_or, b_or, b_or, b_or, Bool.or_assoc]
    · rw [if_pos rfl, if_neg (by decide), b_or, b_or, b_or, b_or]
      cases bt (B 7 c) k <;> cases bt (B 8 c) k <;> cases bt (jx i j c) k <;> rfl
    · rw [if_pos rfl, if_pos rfl, b_or, b_or, b_or, b_or, b_or]
      cases bt (B 7 c) k <;> cases bt (B 8 c) k <;> cases bt (jx i j c) k <;> rfl
end
