/-! the reference's settling: what says says (by program) -/
theorem one_add (k : Nat) : (1 : Int32) + nI k = nI (1 + k) := nI_sum (a := 1) rfl rfl
theorem fb_ct_cut {q : Nat → Bool} {n : Nat} (hn : n ≤ 16) (h : ∀ i, n ≤ i → i < 16 → q i = false) : fb_ct q 16 = fb_ct q n := by
  obtain ⟨k, hk⟩ : ∃ k, 16 = n + k := ⟨16 - n, by omega⟩
  rw [hk, fb_ct_split]
  have : fb_ct (fun i => q (n + i)) k = 0 := fb_ct_zero.mpr (fun i hi => h (n + i) (by omega) (by omega))
  rw [this]; rfl
section
variable {C S M : Nat → Nat → Int32} {n : Nat} {X : Nat → Bool} {sea : Bool}
theorem sup_eq (hc : cpS C S M n) (h31 : ∀ j, j < 32 → bt (M 31 0) j = (decide (j < 16) && gvn C S sea X j)) {a : Nat} (ha : a < 16) (v : Int32) : fb_ct (rSp M a v) n = fb_ct (fun i => gvn C S sea X i && (decide (gof S i = a) && !decide (S 6 i = v))) 16 := by
  have h16 := hc.n16
  rw [fb_ct_cut h16 (fun i h1 h2 => by
    cases e : gvn C S sea X i
    · rfl
    · have := hc.lt h2 (blg_uu (gvn_blg e)); omega)]
  refine fb_ct_cong (fun i hi => ?_)
  unfold rSp
  rw [h31 i (by omega), decide_eq_true (show i < 16 by omega), Bool.true_and, hc.p (by omega), hc.f (by omega)]
  cases e : gvn C S sea X i
  · rfl
  · have hb := gvn_blg e
    have hg := uu_g hc.o (show i < 16 by omega) (blg_uu hb) (by
      unfold blg at hb
      simp at hb
      rcases hb.2 with q | q <;> rw [q.1] <;> decide)
    rw [hg.1, dec_nI (by omega) (by omega)]
theorem sup_str (hc : cpS C S M n) (h31 : ∀ j, j < 32 → bt (M 31 0) j = (decide (j < 16) && gvn C S sea X j)) {a : Nat} (ha : a < 16) : (1 : Int32) + nI (fb_ct (rSp M a (-1)) n) = nI (str C S sea X a) := by
  rw [sup_eq hc h31 ha, one_add]
  unfold str
  congr 2
  refine fb_ct_cong (fun i _ => ?_)
  cases e : gvn C S sea X i
  · rfl
  · have := blg_uu (gvn_blg e)
    unfold uu at this
    rw [this]; simp
theorem opp_mv {a : Nat} (h : opp C S a = true) : mv S a = true ∧ mv S (gof S a) = true := by
  refine ⟨?_, dm_mv (opp_g h)⟩
  unfold opp at h
  rw [Bool.and_eq_true] at h
  exact dm_mv h.1
theorem m23_h (hc : cpS C S M n) (ht : mvT C S M) {a : Nat} (ha : a < 16) (hm : mv S a = true) : ¬ M 23 (ix S a) = -1 → M 23 (ix S a) = nI (tn (M 23 (ix S a))) ∧ tn (M 23 (ix S a)) < 12 := by
  rw [ht.2 a ha hm]
  intro c
  cases ho : opp C S a
  · rw [ho] at c; exact absurd rfl c
  · have := ix_lt (mv_g hc.o ha hm).2 (opp_mv ho).2
    have := hc.m12
    rw [if_pos rfl, show tn (nI (ix S (gof S a))) = ix S (gof S a) from nI_clamp (by omega)]
    exact ⟨rfl, by omega⟩
theorem m23_1 (hc : cpS C S M n) (ht : mvT C S M) {a : Nat} (ha : a < 16) (hm : mv S a = true) : M 23 (ix S a) = -1 ↔ opp C S a = false := by
  rw [ht.2 a ha hm]
  cases ho : opp C S a
  · simp
  · have := ix_lt (mv_g hc.o ha hm).2 (opp_mv ho).2
    have := hc.m12
    rw [if_pos rfl]
    exact ⟨fun q => absurd q (nI_m1 (by omega)), fun q => by cases q⟩
theorem scs23 (hc : cpS C S M n) (ht : mvT C S M) {a : Nat} (ha : a < 16) (hm : mv S a = true) : scs M (M 23 (ix S a)) = (opp C S a && oX S (M 28 0) (gof S a)) := by
  rw [ht.2 a ha hm]
  cases ho : opp C S a
  · rfl
  · have h2 := (opp_mv ho).2
    have := ix_lt (mv_g hc.o ha hm).2 h2
    have := hc.m12
    rw [oX_in (mv_g hc.o ha hm).2]
    unfold scs
    rw [if_pos rfl, decide_eq_false (nI_m1 (by omega)), show tn (nI (ix S (gof S a))) = ix S (gof S a) from nI_clamp (by omega), h2]
    simp
end
section
variable {C S M : Nat → Nat → Int32} {n : Nat} {sea : Bool}
theorem rAt_eq (hc : cpS C S M n) (ht : mvT C S M) (h30 : ∀ a, a < 16 → mv S a = true → bt (M 30 0) (ix S a) = pth C S sea (oX S (M 28 0)) a) (h31 : ∀ j, j < 32 → bt (M 31 0) j = (decide (j < 16) && gvn C S sea (oX S (M 28 0)) j)) {a : Nat} (ha : a < 16) (hm : mv S a = true) (h32 : M 32 (ix S a) = nI (str C S sea (oX S (M 28 0)) a)) : rAt M n (ix S a) (gof S a) a = nI (att C S sea (oX S (M 28 0)) a) := by
  have hg := (mv_g hc.o ha hm).2
  unfold rAt att
  rw [h30 a ha hm, hc.p hg, hc.p ha, scs_eq hc ht hg, h32]
  cases hp : pth C S sea (oX S (M 28 0)) a
  · rfl
  · rw [if_pos rfl, if_pos rfl]
    by_cases hu : S 6 (gof S a) = -1
    · rw [if_pos hu, if_pos (by unfold uu; rw [decide_eq_true hu]; rfl)]
    · rw [if_neg hu]
      have hu2 : uu S (gof S a) = true := by unfold uu; rw [decide_eq_false hu]; rfl
      rw [hu2]
      have last : (if S 6 (gof S a) = S 6 a then (0 : Int32) else (1 : Int32) + nI (fb_ct (rSp M a (S 6 (gof S a))) n)) = nI (if S 6 (gof S a) = S 6 a then 0 else 1 + fb_ct (fun i => gvn C S sea (oX S (M 28 0)) i && (decide (gof S i = a) && !decide (S 6 i = S 6 (gof S a)))) 16) := by
        by_cases e : S 6 (gof S a) = S 6 a
        · rw [if_pos e, if_pos e]; rfl
        · rw [if_neg e, if_neg e, sup_eq hc h31 ha, one_add]
      cases hx : oX S (M 28 0) (gof S a)
      · simp only [Bool.false_eq_true, reduceIte, Bool.not_true, Bool.false_and, Bool.or_false]
        exact last
      · cases ho : opp C S a
        · rw [if_pos rfl, if_pos ((m23_1 hc ht ha hm).mpr ho)]; rfl
        · rw [if_pos rfl, if_neg (fun q => by rw [(m23_1 hc ht ha hm).mp q] at ho; cases ho)]
          exact last
theorem rPv_eq (hc : cpS C S M n) (ht : mvT C S M) (h30 : ∀ a, a < 16 → mv S a = true → bt (M 30 0) (ix S a) = pth C S sea (oX S (M 28 0)) a) {a : Nat} (ha : a < 16) (hm : mv S a = true) (h32 : M 32 (ix S a) = nI (str C S sea (oX S (M 28 0)) a)) : rPv M (ix S a) = nI (prv C S sea (oX S (M 28 0)) a) := by
  unfold rPv prv
  rw [h30 a ha hm, scs23 hc ht ha hm, h32]
  cases pth C S sea (oX S (M 28 0)) a <;> cases (opp C S a && oX S (M 28 0) (gof S a)) <;> rfl
theorem rHo_eq (hc : cpS C S M n) (ht : mvT C S M) (h31 : ∀ j, j < 32 → bt (M 31 0) j = (decide (j < 16) && gvn C S sea (oX S (M 28 0)) j)) {a : Nat} (ha : a < 16) : rHo M n a = nI (hld C S sea (oX S (M 28 0)) a) := by
  unfold rHo hld
  have hue : uu S a = !decide (S 6 a = -1) := rfl
  rw [hc.p ha, scs_eq hc ht ha, ht.1.2.1 a ha, sup_str hc h31 ha, hue]
  by_cases hu : S 6 a = -1
  · rw [if_pos hu, decide_eq_true hu]; rfl
  · rw [if_neg hu, decide_eq_false hu]
    cases hm : mv S a
    · rfl
    · have := ix_lt ha hm
      have := hc.m12
      have hne : ¬ nI (ix S a) = -1 := nI_m1 (by omega)
      simp only [reduceIte, hne, Bool.not_false]
      cases oX S (M 28 0) a <;> rfl
end
/-- what the reference says of an outcome -/
def saT (C S M : Nat → Nat → Int32) (n : Nat) (sea : Bool) : Prop :=
  (∀ j, j < 32 → bt (M 29 0) j = (decide (j < 16) && disl S (oX S (M 28 0)) j)) ∧
  (∀ a, a < 16 → mv S a = true → bt (M 30 0) (ix S a) = pth C S sea (oX S (M 28 0)) a) ∧
  (∀ j, j < 32 → bt (M 31 0) j = (decide (j < 16) && gvn C S sea (oX S (M 28 0)) j)) ∧
  (∀ a, a < 16 → mv S a = true → M 32 (ix S a) = nI (str C S sea (oX S (M 28 0)) a)) ∧
  (∀ a, a < 16 → mv S a = true → M 33 (ix S a) = nI (att C S sea (oX S (M 28 0)) a) ∧ M 34 (ix S a) = nI (prv C S sea (oX S (M 28 0)) a)) ∧
  ∀ a, a < n → M 35 a = nI (hld C S sea (oX S (M 28 0)) a)
