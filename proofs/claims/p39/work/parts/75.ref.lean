/-! the reference's settling: laysMoves whole (by program) -/
section
variable {C S M : Nat → Nat → Int32} {n a q g : Nat}
theorem stLMr_k {k : Nat} (hk : k < 21 ∨ 27 ≤ k) : stLMr M a q g k = M k := by
  have h4 : ¬ k = 24 := by omega
  unfold stLMr
  split
  · exact cset_ne h4
  · split
    · unfold stLMa
      rw [cset_ne (by omega), cset_ne (by omega), cset_ne (by omega), cset_ne (by omega), cset_ne h4, cset_ne h4]
    · exact cset_ne h4
theorem mvI_step (h : cpS C S M n) (hi : mvI C S M a) (ha : a < 16) (hqg : mv S a = true → q = ix S a ∧ g = gof S a) : mvI C S (stLMr M a q g) (a + 1) := by
  obtain ⟨i1, i2, i3⟩ := hi
  have hs : ix S (a + 1) = ix S a + (if mv S a = true then 1 else 0) := rfl
  have hp := h.p ha
  have hk := h.k ha
  cases hm : mv S a
  · have e : stLMr M a q g = cset M 24 (upd (M 24) a (-1)) := by
      unfold stLMr
      by_cases c1 : M 3 (21 + a) = -1
      · rw [if_pos c1]
      · rw [if_neg c1, if_neg]
        intro c2
        have : mv S a = true := by
          unfold mv
          rw [← hp, ← hk]
          simp [c1, c2]
        rw [this] at hm; cases hm
    rw [e]
    refine ⟨?_, ?_, ?_⟩
    · show M 26 0 = nI (ix S (a + 1))
      rw [hs, hm]; exact i1
    · intro b hb
      show upd (M 24) a (-1) b = _
      unfold upd
      by_cases e : b = a
      · subst e; rw [if_pos rfl, hm]; rfl
      · rw [if_neg e]; exact i2 b (by omega)
    · intro b hb hmb
      have : b ≠ a := by rintro rfl; rw [hm] at hmb; cases hmb
      exact i3 b (by omega) hmb
  · obtain ⟨rfl, rfl⟩ := hqg hm
    have hu := mv_uu hm
    have hm2 := hm
    unfold mv at hm2
    simp at hm2
    have e : stLMr M a (ix S a) (gof S a) = stLMa M a (ix S a) (cg C S a (gof S a)) := by
      unfold stLMr
      rw [if_neg (by rw [hp]; exact hm2.1), if_pos (by rw [hk]; exact hm2.2), dir_eq h ha hu]
    rw [e]
    unfold stLMa
    have hg := mv_g h.o ha hm
    refine ⟨?_, ?_, ?_⟩
    · show M 26 0 + 1 = nI (ix S (a + 1))
      rw [hs, hm, i1, nI_1]; rfl
    · intro b hb
      show upd (upd (M 24) a (-1)) a (M 26 0) b = _
      unfold upd
      by_cases e : b = a
      · subst e; rw [if_pos rfl, hm, i1]; rfl
      · rw [if_neg e, if_neg e]; exact i2 b (by omega)
    · intro b hb hmb
      show upd (M 21) (ix S a) (nI a) (ix S b) = _ ∧ upd (M 22) (ix S a) (M 3 (133 + a)) (ix S b) = _ ∧ upd (M 25) (ix S a) (b2i (!cg C S a (gof S a))) (ix S b) = _
      unfold upd
      by_cases e : b = a
      · subst e
        rw [if_pos rfl, if_pos rfl, if_pos rfl, h.f ha]
        refine ⟨rfl, hg.1, ?_⟩
        unfold dm
        rw [hm]; rfl
      · have e2 : ¬ ix S b = ix S a := fun q => e ((ix_inj hmb hm).mp q)
        rw [if_neg e2, if_neg e2, if_neg e2]
        exact i3 b (by omega) hmb
theorem rOpp_eq (h : cpS C S M n) (hi : mvI C S M 16) (ha : a < 16) (hm : mv S a = true) {w : Nat} (hw : mv S (gof S a) = true → w = ix S (gof S a)) : rOpp M (ix S a) (gof S a) w = if opp C S a = true then nI (ix S (gof S a)) else -1 := by
  obtain ⟨_, i2, i3⟩ := hi
  have hg := (mv_g h.o ha hm).2
  obtain ⟨a1, a2, a3⟩ := i3 a ha hm
  unfold rOpp
  rw [i2 _ hg]
  cases hmg : mv S (gof S a)
  · have : opp C S a = false := by
      cases e : opp C S a
      · rfl
      · rw [dm_mv (opp_g e)] at hmg; cases hmg
    rw [this]; rfl
  · have hw := hw hmg
    subst hw
    obtain ⟨b1, b2, b3⟩ := i3 _ hg hmg
    have hgg := (mv_g h.o hg hmg).2
    have hix : ix S (gof S a) < 2 ^ 31 := by have := ix_le (S := S) (show gof S a ≤ 16 by omega); have := h.m12; omega
    rw [if_pos rfl, if_neg (nI_m1 hix), a1, a3, b2, b3]
    unfold opp
    by_cases e : gof S (gof S a) = a
    · rw [if_pos (by rw [e]), decide_eq_true e]
      cases dm C S a <;> cases dm C S (gof S a) <;> rfl
    · rw [if_neg (fun q => e ((nI_eq (by omega) (by omega)).mp q)), decide_eq_false e]
      cases dm C S a <;> cases dm C S (gof S a) <;> rfl
end
