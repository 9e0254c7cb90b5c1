/-! the reference's settling: what says says (by program) -/
theorem one_add (k : Nat) : (1 : Int32) + nI k = nI (1 + k) := nI_sum (a := 1) rfl rfl
theorem fb_ct_cut {q : Nat → Bool} {n : Nat} (hn : n ≤ 16) (h : ∀ i, n ≤ i → i < 16 → q i = false) : fb_ct q 16 = fb_ct q n := by
  obtain ⟨k, hk⟩ : ∃ k, 16 = n + k := ⟨16 - n, by omega⟩
  rw [hk, fb_ct_split]
  have : fb_ct (fun i => q (n + i)) k = 0 := fb_ct_zero.mpr (fun i hi => h (n + i) (by omega) (by omega))
  rw [this]; rfl
section
variable {C S M : Nat → Nat → Int32} {n : Nat} {X : Nat → Bool} {sea : Bool}
theorem sup_eq (hc : cpS C S M n) (h31 : ∀ j, j < 32 → bt (M 31 0) j = (decide (j < 16) && gvn C S sea X j)) {a : Nat} (ha : a < 16) (v : Int32) : fb_ct (rSp M a v) n = fb_ct (fun i => gvn C S sea X i && (decide (gof S i = a) && !decide (S 6 i = v))) 16 := by
  have h16 := hc.n16
  rw [fb_ct_cut h16 (fun i h1 h2 => by
    cases e : gvn C S sea X i
    · rfl
    · have := hc.lt h2 (blg_uu (gvn_blg e)); omega)]
  refine fb_ct_cong (fun i hi => ?_)
  unfold rSp
  rw [h31 i (by omega), decide_eq_true (show i < 16 by omega), Bool.true_and, hc.p (by omega), hc.f (by omega)]
  cases e : gvn C S sea X i
  · rfl
  · have hb := gvn_blg e
    have hg := uu_g hc.o (show i < 16 by omega) (blg_uu hb) (by
      unfold blg at hb
      simp at hb
      rcases hb.2 with q | q <;> rw [q.1] <;> decide)
    rw [hg.1, dec_nI (by omega) (by omega)]
theorem sup_str (hc : cpS C S M n) (h31 : ∀ j, j < 32 → bt (M 31 0) j = (decide (j < 16) && gvn C S sea X j)) {a : Nat} (ha : a < 16) : (1 : Int32) + nI (fb_ct (rSp M a (-1)) n) = nI (str C S sea X a) := by
  rw [sup_eq hc h31 ha, one_add]
  unfold str
  congr 2
  refine fb_ct_cong (fun i _ => ?_)
  cases e : gvn C S sea X i
  · rfl
  · have := blg_uu (gvn_blg e)
    unfold uu at this
    rw [this]; simp
theorem opp_mv {a : Nat} (h : opp C S a = true) : mv S a = true ∧ mv S (gof S a) = true := by
  refine ⟨?_, dm_mv (opp_g h)⟩
  unfold opp at h
  rw [Bool.and_eq_true] at h
  exact dm_mv h.1
theorem m23_h (hc : cpS C S M n) (ht : mvT C S M) {a : Nat} (ha : a < 16) (hm : mv S a = true) : ¬ M 23 (ix S a) = -1 → M 23 (ix S a) = nI (tn (M 23 (ix S a))) ∧ tn (M 23 (ix S a)) < 12 := by
  rw [ht.2 a ha hm]
  intro c
  cases ho : opp C S a
  · rw [ho] at c; exact absurd rfl c
  · have := ix_lt (mv_g hc.o ha hm).2 (opp_mv ho).2
    have := hc.m12
    rw [if_pos rfl, show tn (nI (ix S (gof S a))) = ix S (gof S a) from nI_clamp (by omega)]
    exact ⟨rfl, by omega⟩
theorem m23_1 (hc : cpS C S M n) (ht : mvT C S M) {a : Nat} (ha : a < 16) (hm : mv S a = true) : M 23 (ix S a) = -1 ↔ opp C S a = false := by
  rw [ht.2 a ha hm]
  cases ho : opp C S a
  · simp
  · have := ix_lt (mv_g hc.o ha hm).2 (opp_mv ho).2
    have := hc.m12
    rw [if_pos rfl]
    exact ⟨fun q => absurd q (nI_m1 (by omega)), fun q => by cases q⟩
theorem scs23 (hc : cpS C S M n) (ht : mvT C S M) {a : Nat} (ha : a < 16) (hm : mv S a = true) : scs M (M 23 (ix S a)) = (opp C S a && oX S (M 28 0) (gof S a)) := by
  rw [ht.2 a ha hm]
  cases ho : opp C S a
  · rfl
  · have h2 := (opp_mv ho).2
    have := ix_lt (mv_g hc.o ha hm).2 h2
    have := hc.m12
    rw [oX_in (mv_g hc.o ha hm).2]
    unfold scs
    rw [if_pos rfl, decide_eq_false (nI_m1 (by omega)), show tn (nI (ix S (gof S a))) = ix S (gof S a) from nI_clamp (by omega), h2]
    simp
end
section
variable {C S M : Nat → Nat → Int32} {n : Nat} {sea : Bool}
theorem rAt_eq (hc : cpS C S M n) (ht : mvT C S M) (h30 : ∀ a, a < 16 → mv S a = true → bt (M 30 0) (ix S a) = pth C S sea (oX S (M 28 0)) a) (h31 : ∀ j, j < 32 → bt (M 31 0) j = (decide (j < 16) && gvn C S sea (oX S (M 28 0)) j)) {a : Nat} (ha : a < 16) (hm : mv S a = true) (h32 : M 32 (ix S a) = nI (str C S sea (oX S (M 28 0)) a)) : rAt M n (ix S a) (gof S a) a = nI (att C S sea (oX S (M 28 0)) a) := by
  have hg := (mv_g hc.o ha hm).2
  unfold rAt att
  rw [h30 a ha hm, hc.p hg, hc.p ha, scs_eq hc ht hg, h32]
  cases hp : pth C S sea (oX S (M 28 0)) a
  · rfl
  · rw [if_pos rfl, if_pos rfl]
    by_cases hu : S 6 (gof S a) = -1
    · rw [if_pos hu, if_pos (by unfold uu; rw [decide_eq_true hu]; rfl)]
    · rw [if_neg hu]
      have hu2 : uu S (gof S a) = true := by unfold uu; rw [decide_eq_false hu]; rfl
      rw [hu2]
      have last : (if S 6 (gof S a) = S 6 a then (0 : Int32) else (1 : Int32) + nI (fb_ct (rSp M a (S 6 (gof S a))) n)) = nI (if S 6 (gof S a) = S 6 a then 0 else 1 + fb_ct (fun i => gvn C S sea (oX S (M 28 0)) i && (decide (gof S i = a) && !decide (S 6 i = S 6 (gof S a)))) 16) := by
        by_cases e : S 6 (gof S a) = S 6 a
        · rw [if_pos e, if_pos e]; rfl
        · rw [if_neg e, if_neg e, sup_eq hc h31 ha, one_add]
      cases hx : oX S (M 28 0) (gof S a)
      · simp only [Bool.false_eq_true, reduceIte, Bool.not_true, Bool.false_and, Bool.or_false]
        exact last
      · cases ho : opp C S a
        · rw [if_pos rfl, if_pos ((m23_1 hc ht ha hm).mpr ho)]; rfl
        · rw [if_pos rfl, if_neg (fun q => by rw [(m23_1 hc ht ha hm).mp q] at ho; cases ho)]
          exact last
theorem rPv_eq (hc : cpS C S M n) (ht : mvT C S M) (h30 : ∀ a, a < 16 → mv S a = true → bt (M 30 0) (ix S a) = pth C S sea (oX S (M 28 0)) a) {a : Nat} (ha : a < 16) (hm : mv S a = true) (h32 : M 32 (ix S a) = nI (str C S sea (oX S (M 28 0)) a)) : rPv M (ix S a) = nI (prv C S sea (oX S (M 28 0)) a) := by
  unfold rPv prv
  rw [h30 a ha hm, scs23 hc ht ha hm, h32]
  cases pth C S sea (oX S (M 28 0)) a <;> cases (opp C S a && oX S (M 28 0) (gof S a)) <;> rfl
theorem rHo_eq (hc : cpS C S M n) (ht : mvT C S M) (h31 : ∀ j, j < 32 → bt (M 31 0) j = (decide (j < 16) && gvn C S sea (oX S (M 28 0)) j)) {a : Nat} (ha : a < 16) : rHo M n a = nI (hld C S sea (oX S (M 28 0)) a) := by
  unfold rHo hld
  have hue : uu S a = !decide (S 6 a = -1) := rfl
  rw [hc.p ha, scs_eq hc ht ha, ht.1.2.1 a ha, sup_str hc h31 ha, hue]
  by_cases hu : S 6 a = -1
  · rw [if_pos hu, decide_eq_true hu]; rfl
  · rw [if_neg hu, decide_eq_false hu]
    cases hm : mv S a
    · rfl
    · have := ix_lt ha hm
      have := hc.m12
      have hne : ¬ nI (ix S a) = -1 := nI_m1 (by omega)
      simp only [reduceIte, hne, Bool.not_false]
      cases oX S (M 28 0) a <;> rfl
end
/-- what the reference says of an outcome -/
def saT (C S M : Nat → Nat → Int32) (n : Nat) (sea : Bool) : Prop :=
  (∀ j, j < 32 → bt (M 29 0) j = (decide (j < 16) && disl S (oX S (M 28 0)) j)) ∧
  (∀ a, a < 16 → mv S a = true → bt (M 30 0) (ix S a) = pth C S sea (oX S (M 28 0)) a) ∧
  (∀ j, j < 32 → bt (M 31 0) j = (decide (j < 16) && gvn C S sea (oX S (M 28 0)) j)) ∧
  (∀ a, a < 16 → mv S a = true → M 32 (ix S a) = nI (str C S sea (oX S (M 28 0)) a)) ∧
  (∀ a, a < 16 → mv S a = true → M 33 (ix S a) = nI (att C S sea (oX S (M 28 0)) a) ∧ M 34 (ix S a) = nI (prv C S sea (oX S (M 28 0)) a)) ∧
  ∀ a, a < n → M 35 a = nI (hld C S sea (oX S (M 28 0)) a)
theorem q_X10_says {G : osG} {z : osS} {N m n : Nat} {C S M : Nat → Nat → Int32} {D : Nat → Nat → Int64} {sea : Bool} {o : Int32} (hm : rX10 z m M D) (hA : G.2.2.1 ≤ m) (hc : cpS C S M n) (ht : mvT C S M) (hs : M 27 0 = b2i (!sea)) (hN : 20 < N) : gx (qX10_says N m o G z) (fun _ z' => osFr m (m + 21) z z' ∧ ∃ M', rX10 z' m M' D ∧ (∀ k, k < 28 ∨ 36 ≤ k → M' k = M k) ∧ M' 28 0 = o ∧ saT C S M' n sea) := by
  have h12 := hc.m12
  have h16 := hc.n16
  unfold qX10_says
  refine hm.p28 (by decide) hA (fun z0 f0 h0 => ?_)
  have a0 : ∀ k, k < 28 ∨ 36 ≤ k → (cset M 28 fun _ => o) k = M k := fun k hk => cset_ne (by omega)
  generalize hM0 : (cset M 28 fun _ => o) = M0 at h0 a0
  have o0 : M0 28 0 = o := by rw [← hM0]; rfl
  have c0 : cpS C S M0 n := cpS_keep hc (a0 1 (by omega)) (a0 3 (by omega))
  have t0 : mvT C S M0 := mvT_keep ht (fun k h1 h2 => a0 k (by omega))
  refine gx_recvQ h0.o (by decide) (q_X10_laysDislodged h0 hA c0 t0 (by omega)) (fun _ z1 ⟨f1, M1, h1, e1, d1⟩ => ?_)
  have a1 : ∀ k, k < 28 ∨ 36 ≤ k → M1 k = M k := fun k hk => (e1 k (by omega)).trans (a0 k hk)
  have c1 : cpS C S M1 n := cpS_keep hc (a1 1 (by omega)) (a1 3 (by omega))
  have t1 : mvT C S M1 := mvT_keep ht (fun k h1 h2 => a1 k (by omega))
  have o1 : M1 28 0 = o := by rw [e1 28 (by omega)]; exact o0
  rw [o0] at d1
  refine gx_recvQ h1.o (by decide) (q_X10_laysPaths (X := oX S o) (sea := sea) h1 hA c1 t1 (by rw [a1 27 (by omega)]; exact hs) d1 hN) (fun _ z2 ⟨f2, M2, h2, e2, p2⟩ => ?_)
  have a2 : ∀ k, k < 28 ∨ 36 ≤ k → M2 k = M k := fun k hk => (e2 k (by omega)).trans (a1 k hk)
  have c2 : cpS C S M2 n := cpS_keep hc (a2 1 (by omega)) (a2 3 (by omega))
  have t2 : mvT C S M2 := mvT_keep ht (fun k h1 h2 => a2 k (by omega))
  have d2 : ∀ j, j < 32 → bt (M2 29 0) j = (decide (j < 16) && disl S (oX S o) j) := by rw [e2 29 (by omega)]; exact d1
  refine gx_recvQ h2.o (by decide) (q_X10_laysGiven (X := oX S o) (sea := sea) h2 hA c2 t2 d2 p2 (by omega)) (fun _ z3 ⟨f3, M3, h3, e3, g3⟩ => ?_)
  have a3 : ∀ k, k < 28 ∨ 36 ≤ k → M3 k = M k := fun k hk => (e3 k (by omega)).trans (a2 k hk)
  have o3 : M3 28 0 = o := by rw [e3 28 (by omega), e2 28 (by omega)]; exact o1
  have d3 : ∀ j, j < 32 → bt (M3 29 0) j = (decide (j < 16) && disl S (oX S o) j) := by rw [e3 29 (by omega)]; exact d2
  have p3 : ∀ a, a < 16 → mv S a = true → bt (M3 30 0) (ix S a) = pth C S sea (oX S o) a := by rw [e3 30 (by omega)]; exact p2
  have fr : osFr m (m + 21) z z3 := (((f0.wide (by omega) (by omega)).tr f1).tr f2).tr f3
  unfold qX10_says_19
  refine gx_rows (fun i M' => (∀ k, k < 32 ∨ 36 ≤ k → M' k = M3 k) ∧ ∀ a, a < 16 → mv S a = true → ix S a < i → M' 32 (ix S a) = nI (str C S sea (oX S o) a)) (fb_ct (mv S) 16) (fun i => (m, nI i)) h3 ⟨fun _ _ => rfl, fun a _ _ q => by omega⟩ ?_ ?_ N (by omega)
  · rintro ih i z4 M4 hi f4 h4 ⟨e4, i4⟩ k
    have a4 : ∀ k, k < 28 ∨ 36 ≤ k → M4 k = M k := fun k hk => (e4 k (by omega)).trans (a3 k hk)
    have c4 : cpS C S M4 n := cpS_keep hc (a4 1 (by omega)) (a4 3 (by omega))
    have t4 : mvT C S M4 := mvT_keep ht (fun k h1 h2 => a4 k (by omega))
    obtain ⟨a, ha, hma, rfl⟩ := ix_of hi
    show gx (bX10_says_19 N ih m (nI (ix S a)) G z4) _
    refine q_bX10_says_19 (b := a) (n := n) h4 hA t4.1.1 h12 hi (t4.1.2.2 a ha hma).1 ha c4.n0 h16 (by omega) (fun z5 f5 h5 => ?_)
    rw [nI_1]
    refine k z5 _ f5 h5 ⟨fun k hk => by rw [cset_ne (by omega)]; exact e4 k hk, fun b hb hmb hlt => ?_⟩
    show upd (M4 32) (ix S a) _ (ix S b) = _
    unfold upd
    by_cases e : b = a
    · subst e
      rw [if_pos rfl, sup_str (sea := sea) (X := oX S o) c4 (by rw [e4 31 (by omega)]; exact g3) ha]
    · rw [if_neg (fun q => e ((ix_inj hmb hma).mp q))]
      exact i4 b hb hmb (by have : ¬ ix S b = ix S a := fun q => e ((ix_inj hmb hma).mp q)
                            omega)
  · rintro ih z4 M4 f4 h4 ⟨e4, i4⟩
    have a4 : ∀ k, k < 28 ∨ 36 ≤ k → M4 k = M k := fun k hk => (e4 k (by omega)).trans (a3 k hk)
    show gx (bX10_says_19 N ih m (nI (fb_ct (mv S) 16)) G z4) _
    unfold bX10_says_19
    refine gx_gI h4.o (by decide) rfl (gx_itet (by rw [a4 26 (by omega), ht.1.1]; exact (nI_leI (by show fb_ct (mv S) 16 < _; omega) (by omega)).mpr (Nat.le_refl _)) ?_)
    unfold qX10_says_54
    refine gx_rows (fun i M' => (∀ k, k < 33 ∨ 36 ≤ k → M' k = M4 k) ∧ ∀ a, a < 16 → mv S a = true → ix S a < i → M' 33 (ix S a) = nI (att C S sea (oX S o) a) ∧ M' 34 (ix S a) = nI (prv C S sea (oX S o) a)) (fb_ct (mv S) 16) (fun i => (m, nI i)) h4 ⟨fun _ _ => rfl, fun a _ _ q => by omega⟩ ?_ ?_ N (by omega)
    · rintro ih i z5 M5 hi f5 h5 ⟨e5, i5⟩ k
      have a5 : ∀ k, k < 28 ∨ 36 ≤ k → M5 k = M k := fun k hk => (e5 k (by omega)).trans (a4 k hk)
      have b5 : ∀ k, k < 32 → M5 k = M3 k := fun k hk => (e5 k (by omega)).trans (e4 k (by omega))
      have c5 : cpS C S M5 n := cpS_keep hc (a5 1 (by omega)) (a5 3 (by omega))
      have t5 : mvT C S M5 := mvT_keep ht (fun k h1 h2 => a5 k (by omega))
      have o5 : M5 28 0 = o := by rw [b5 28 (by omega)]; exact o3
      obtain ⟨a, ha, hma, rfl⟩ := ix_of hi
      have r32 : M5 32 (ix S a) = nI (str C S sea (oX S (M5 28 0)) a) := by rw [o5, e5 32 (by omega)]; exact i4 a ha hma hi
      have r30 : ∀ a, a < 16 → mv S a = true → bt (M5 30 0) (ix S a) = pth C S sea (oX S (M5 28 0)) a := by rw [o5, b5 30 (by omega)]; exact p3
      have r31 : ∀ j, j < 32 → bt (M5 31 0) j = (decide (j < 16) && gvn C S sea (oX S (M5 28 0)) j) := by rw [o5, b5 31 (by omega)]; exact g3
      have hg := (mv_g hc.o ha hma).2
      show gx (bX10_says_54 N ih m (nI (ix S a)) G z5) _
      refine q_bX10_says_54 h5 hA t5.1.1 h12 hi (m23_h c5 t5 ha hma) (q_X10_attackOf0 (n := n) h5 (by omega) (t5.1.2.2 a ha hma).2.1 hg (t5.1.2.2 a ha hma).1 ha (scs_h c5 t5 hg) c5.n0 h16 (by omega)) (fun z6 f6 h6 => ?_)
      rw [nI_1]
      refine k z6 _ f6 h6 ⟨fun k hk => by rw [cset_ne (by omega), cset_ne (by omega)]; exact e5 k hk, fun b hb hmb hlt => ?_⟩
      show upd (M5 33) (ix S a) _ (ix S b) = _ ∧ upd (M5 34) (ix S a) _ (ix S b) = _
      unfold upd
      by_cases e : b = a
      · subst e
        rw [if_pos rfl, if_pos rfl, rAt_eq c5 t5 r30 r31 ha hma r32, rPv_eq c5 t5 r30 ha hma r32, o5]
        exact ⟨rfl, rfl⟩
      · have e9 : ¬ ix S b = ix S a := fun q => e ((ix_inj hmb hma).mp q)
        rw [if_neg e9, if_neg e9]
        exact i5 b hb hmb (by omega)
    · rintro ih z5 M5 f5 h5 ⟨e5, i5⟩
      have a5 : ∀ k, k < 28 ∨ 36 ≤ k → M5 k = M k := fun k hk => (e5 k (by omega)).trans (a4 k hk)
      have b5 : ∀ k, k < 32 → M5 k = M3 k := fun k hk => (e5 k (by omega)).trans (e4 k (by omega))
      show gx (bX10_says_54 N ih m (nI (fb_ct (mv S) 16)) G z5) _
      unfold bX10_says_54
      refine gx_gI h5.o (by decide) rfl (gx_itet (by rw [a5 26 (by omega), ht.1.1]; exact (nI_leI (by show fb_ct (mv S) 16 < _; omega) (by omega)).mpr (Nat.le_refl _)) ?_)
      unfold qX10_says_121
      refine gx_rows (fun i M' => (∀ k, k ≠ 35 → M' k = M5 k) ∧ ∀ a, a < i → M' 35 a = nI (hld C S sea (oX S o) a)) n (fun i => (m, nI i)) h5 ⟨fun _ _ => rfl, fun a q => by omega⟩ ?_ ?_ N (by omega)
      · rintro ih a z6 M6 ha f6 h6 ⟨e6, i6⟩ k
        have a6 : ∀ k, k < 28 ∨ 36 ≤ k → M6 k = M k := fun k hk => (e6 k (by omega)).trans (a5 k hk)
        have b6 : ∀ k, k < 32 → M6 k = M3 k := fun k hk => (e6 k (by omega)).trans (b5 k hk)
        have c6 : cpS C S M6 n := cpS_keep hc (a6 1 (by omega)) (a6 3 (by omega))
        have t6 : mvT C S M6 := mvT_keep ht (fun k h1 h2 => a6 k (by omega))
        have o6 : M6 28 0 = o := by rw [b6 28 (by omega)]; exact o3
        have r31 : ∀ j, j < 32 → bt (M6 31 0) j = (decide (j < 16) && gvn C S sea (oX S (M6 28 0)) j) := by rw [o6, b6 31 (by omega)]; exact g3
        show gx (bX10_says_121 N ih m (nI a) G z6) _
        refine q_bX10_says_121 h6 hA c6.n0 h16 ha (q_X10_holdOf0 (n := n) h6 (by omega) (scs_h c6 t6 (by omega)) c6.n0 h16 (by omega)) (fun z7 f7 h7 => ?_)
        rw [nI_1]
        refine k z7 _ f7 h7 ⟨fun k hk => by rw [cset_ne hk]; exact e6 k hk, fun b hb => ?_⟩
        show upd (M6 35) a _ b = _
        unfold upd
        by_cases e : b = a
        · subst e
          rw [if_pos rfl, rHo_eq c6 t6 r31 (by omega), o6]
        · rw [if_neg e]; exact i6 b (by omega)
      · rintro ih z6 M6 f6 h6 ⟨e6, i6⟩
        have a6 : ∀ k, k < 28 ∨ 36 ≤ k → M6 k = M k := fun k hk => (e6 k (by omega)).trans (a5 k hk)
        have b6 : ∀ k, k < 32 → M6 k = M3 k := fun k hk => (e6 k (by omega)).trans (b5 k hk)
        have o6 : M6 28 0 = o := by rw [b6 28 (by omega)]; exact o3
        show gx (bX10_says_121 N ih m (nI n) G z6) _
        unfold bX10_says_121
        refine gx_gR h6.o (by decide) rfl (gx_aE (i := 0) h6.a1 rfl (by omega) (Nat.le_of_ble_eq_true rfl) (gx_itet (by rw [a6 1 (by omega), hc.n0]; exact (nI_leI (by omega) (by omega)).mpr (Nat.le_refl _)) (gx_ret ⟨((fr.tr f4).tr f5).tr f6, M6, h6, a6, o6, ?_⟩)))
        unfold saT
        rw [o6]
        refine ⟨by rw [b6 29 (by omega)]; exact d3, by rw [b6 30 (by omega)]; exact p3, by rw [b6 31 (by omega)]; exact g3, fun a ha hma => ?_, fun a ha hma => ?_, i6⟩
        · rw [e6 32 (by omega), e5 32 (by omega)]
          exact i4 a ha hma (ix_lt ha hma)
        · rw [e6 33 (by omega), e6 34 (by omega)]
          exact i5 a ha hma (ix_lt ha hma)
