/-! retreats and builds told, in both (by program) -/
section
variable {C U S : Nat → Nat → Int32} {n np T a : Nat} {f g : Nat → Int32} {v w : Int32}
theorem PT_rt (h : PT C U n np T S f) (ha : a < 16) (hd : ds S a = true) (hv : v = -1 ∨ ∃ d, d < n ∧ v = nI d) (h16 : n ≤ 16) : PT C U n np T (cset S 11 (upd (S 11) a v)) (upd f (101 + a) v) := by
  obtain ⟨ht, hi, e0, hs⟩ := h
  obtain ⟨⟨c0, c1, c2, c3, c4⟩, h1, h2, h3, h4⟩ := ht
  have no : ∀ j, ¬ j = 101 + a → upd f (101 + a) v j = f j := fun j hj => upd_ne hj
  have e11 : ∀ j, (cset S 11 (upd (S 11) a v)) 11 j = if j = a then v else S 11 j := fun _ => rfl
  refine ⟨⟨⟨?_, ?_, ?_, ?_, ?_⟩, fun j hj => ?_, fun j hj q => ?_, fun j hj q => ?_, fun j w2 hj hw => ?_⟩, ⟨?_, hi.ph, hi.d1, hi.o⟩, e0, hs⟩
  · rw [no _ (by omega)]; exact c0
  · rw [no _ (by omega)]; exact c1
  · rw [no _ (by omega)]; exact c2
  · rw [no _ (by omega)]; exact c3
  · rw [no _ (by omega)]; exact c4
  · obtain ⟨t1, t2, t3, t4, t5, t6, t7⟩ := h1 j hj
    rw [no (5 + j) (by omega), no (21 + j) (by omega), no (53 + j) (by omega), no (117 + j) (by omega), no (133 + j) (by omega), no (149 + j) (by omega), e11]
    refine ⟨t1, t2, t3, ?_, t5, t6, t7⟩
    show (if 101 + j = 101 + a then v else f (101 + j)) = _
    by_cases e : j = a
    · rw [if_pos e, if_pos (by omega)]
    · rw [if_neg e, if_neg (by omega)]; exact t4
  · rw [no _ (by omega)]; exact h2 j hj q
  · rw [no _ (by omega), no _ (by omega)]; exact h3 j hj q
  · rw [no _ (by omega)]; exact h4 j w2 hj hw
  · obtain ⟨i2, i3, i4, i5, i6, i7, i8, i9, i10⟩ := hi.j
    refine ⟨i2, i3, i4, i5, i6, fun j hj q => ?_, i8, i9, fun j hj q => ?_⟩
    · have q' : ds S j = false := q
      have hne : ¬ j = a := fun e => by rw [e, hd] at q'; cases q'
      refine ⟨(i7 j hj q').1, ?_⟩
      rw [e11, if_neg hne]; exact (i7 j hj q').2
    · rw [e11] at q ⊢
      by_cases e : j = a
      · rw [if_pos e] at q ⊢
        rcases hv with rfl | ⟨d, hd2, rfl⟩
        · exact absurd rfl q
        · have : tn (nI d) = d := nI_clamp (by omega)
          rw [this]; exact ⟨rfl, hd2⟩
      · rw [if_neg e] at q ⊢; exact i10 j hj q
theorem cpT_place (h : cpT S f) (ha : a < 16) (hg : ∀ j, ¬ j = 21 + a → ¬ j = 37 + a → g j = f j) (h21 : g (21 + a) = v) (h37 : ¬ v = -1 → g (37 + a) = w) : cpT (placed S a v w) g := by
  obtain ⟨⟨c0, c1, c2, c3, c4⟩, h1, h2, h3, h4⟩ := h
  have e6 : ∀ j, placed S a v w 6 j = if j = a then v else S 6 j := fun _ => rfl
  have e7 : ∀ j, placed S a v w 7 j = if j = a then w else S 7 j := fun _ => rfl
  refine ⟨⟨?_, ?_, ?_, ?_, ?_⟩, fun j hj => ?_, fun j hj q => ?_, fun j hj q => ?_, fun j w2 hj hw => ?_⟩
  · rw [hg _ (by omega) (by omega)]; exact c0
  · rw [hg _ (by omega) (by omega)]; exact c1
  · rw [hg _ (by omega) (by omega)]; exact c2
  · rw [hg _ (by omega) (by omega)]; exact c3
  · rw [hg _ (by omega) (by omega)]; exact c4
  · obtain ⟨t1, t2, t3, t4, t5, t6, t7⟩ := h1 j hj
    rw [hg (5 + j) (by omega) (by omega), hg (53 + j) (by omega) (by omega), hg (101 + j) (by omega) (by omega), hg (117 + j) (by omega) (by omega), hg (133 + j) (by omega) (by omega), hg (149 + j) (by omega) (by omega), e6]
    refine ⟨t1, ?_, t3, t4, t5, t6, t7⟩
    by_cases e : j = a
    · rw [if_pos e, e]; exact h21
    · rw [if_neg e, hg _ (by omega) (by omega)]; exact t2
  · have q' : (!decide (placed S a v w 6 j = -1)) = true := q
    rw [e6] at q'
    rw [e7]
    by_cases e : j = a
    · rw [if_pos e] at q' ⊢
      rw [e]
      exact h37 (fun c => by rw [c] at q'; exact absurd q' (by decide))
    · rw [if_neg e] at q' ⊢
      rw [hg _ (by omega) (by omega)]
      exact h2 j hj q'
  · rw [hg _ (by omega) (by omega), hg _ (by omega) (by omega)]; exact h3 j hj q
  · rw [hg _ (by omega) (by omega)]; exact h4 j w2 hj hw
theorem stI_place (hi : stI C S n np T) (h2 : S 0 0 = 2) (ha : a < 16) (h4 : np ≤ 4) (hc : (v = -1 ∧ w = -1) ∨ (pw np v ∧ (w = 0 ∨ w = 1) ∧ a < n ∧ nu S < 12)) : stI C (placed S a v w) n np T := by
  have e6 : ∀ j, placed S a v w 6 j = if j = a then v else S 6 j := fun _ => rfl
  have e7 : ∀ j, placed S a v w 7 j = if j = a then w else S 7 j := fun _ => rfl
  have eu : uu (placed S a v w) = fun j => if j = a then !decide (v = -1) else uu S j := by
    funext j
    show (!decide (placed S a v w 6 j = -1)) = _
    rw [e6]
    by_cases e : j = a
    · rw [if_pos e, if_pos e]
    · rw [if_neg e, if_neg e]; rfl
  have hds : ∀ j, j < 16 → ds S j = false := fun j hj => by
    cases q : ds S j
    · rfl
    · have := hi.d1 j hj q
      rw [h2] at this; exact absurd this (by decide)
  obtain ⟨i2, i3, i4, i5, i6, i7, i8, i9, i10⟩ := hi.j
  refine ⟨⟨i2, i3, fun j hj q => ?_, fun j hj q => ?_, i6, i7, ?_, i9, i10⟩, hi.ph, hi.d1, fun q => ?_⟩
  · rw [eu] at q
    rw [e7]
    by_cases e : j = a
    · rw [if_pos e]
      simp only [if_pos e] at q
      rcases hc with ⟨_, rfl⟩ | ⟨hp, _⟩
      · rfl
      · rw [decide_eq_false (pw_n1 h4 hp)] at q; cases q
    · rw [if_neg e]
      simp only [if_neg e] at q
      exact i4 j hj q
  · rw [eu] at q
    rw [e6, e7]
    by_cases e : j = a
    · rw [if_pos e, if_pos e]
      simp only [if_pos e] at q
      rcases hc with ⟨rfl, _⟩ | ⟨hp, hw, hn, _⟩
      · exact absurd q (by decide)
      · exact ⟨by omega, hp, hw⟩
    · rw [if_neg e, if_neg e]
      simp only [if_neg e] at q
      exact i5 j hj q
  · have z0 : fb_ct (ds S) 16 = 0 := fb_ct_zero.mpr hds
    show fb_ct (uu (placed S a v w)) 16 + fb_ct (ds S) 16 ≤ 12
    rw [eu, z0]
    have h := fb_ct_upd (uu S) (!decide (v = -1)) (i := a) (n := 16) ha
    rw [z0] at i8
    rcases hc with ⟨rfl, _⟩ | ⟨_, _, _, hnu⟩
    · have : (if (!decide ((-1 : Int32) = -1)) = true then 1 else 0) = 0 := rfl
      omega
    · rw [nu_uu] at hnu
      have : (if (!decide (v = -1)) = true then 1 else 0) ≤ 1 := by split <;> omega
      omega
  · have q' : S 0 0 = 0 := q
    rw [h2] at q'; exact absurd q' (by decide)
theorem PT_pl (h : PT C U n np T S f) (h2 : U 0 0 = 2) (ha : a < 16) (h4 : np ≤ 4) (hc : (v = -1 ∧ w = -1) ∨ (pw np v ∧ (w = 0 ∨ w = 1) ∧ a < n ∧ nu S < 12)) (hg : ∀ j, ¬ j = 21 + a → ¬ j = 37 + a → g j = f j) (h21 : g (21 + a) = v) (h37 : ¬ v = -1 → g (37 + a) = w) : PT C U n np T (placed S a v w) g := by
  obtain ⟨ht, hi, e0, hs⟩ := h
  exact ⟨cpT_place ht ha hg h21 h37, stI_place hi (e0.trans h2) ha h4 hc, e0, fun q => absurd h2 q⟩
theorem bld_nu (h : ¬ bld C S v ≤ 0) : nu S < 12 := by
  refine Nat.not_le.mp (fun q => h ?_)
  unfold bld
  by_cases c : ct (S 6) v < ct (S 5) v
  · rw [if_pos c, show 12 - nu S = 0 by omega, Nat.min_zero, Nat.min_zero]; decide
  · rw [if_neg c]
    have h3 := ct_le (S 5) v
    have h4 := ct_le (S 6) v
    exact (sbn _ (by omega) _ (by omega)).2.2.1.mpr (by omega)
end
section
variable {G : osG} {z : osS} {N x n np T L i i0 a : Nat} {ad : Nat → Nat} {W : Nat → Nat → Nat → Int32} {D D' : osS} {E : Nat → Nat → Int64} {b : Nat → Nat} {M0 M S C : Nat → Nat → Int32} {l : Int32}
theorem lc_y {v j : Nat} {w : Int64} (ew : w = lN (kwN j)) (q : v = kwN j) : lg_cmp (lN v) w = 0 := by rw [ew, q]; exact lcmp_0.mpr rfl
theorem lc_n {v j : Nat} {w : Int64} (ew : w = lN (kwN j)) (hv : v < 2 ^ 35) (hj : j < 15) (q : ¬ v = kwN j) : ¬ lg_cmp (lN v) w = 0 := fun c => q ((fb_lN_inj (by omega) (by have := (kw_pk j hj).2.2; omega)).mp ((lcmp_0.mp c).trans ew))
end
