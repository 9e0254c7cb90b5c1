/-! the reference's settling: laysMoves whole (by program) -/
section
variable {C S M : Nat → Nat → Int32} {n a q g : Nat}
theorem stLMr_k {k : Nat} (hk : k < 21 ∨ 27 ≤ k) : stLMr M a q g k = M k := by
  have h4 : ¬ k = 24 := by omega
  unfold stLMr
  split
  · exact cset_ne h4
  · split
    · unfold stLMa
      rw [cset_ne (by omega), cset_ne (by omega), cset_ne (by omega), cset_ne (by omega), cset_ne h4, cset_ne h4]
    · exact cset_ne h4
theorem mvI_step (h : cpS C S M n) (hi : mvI C S M a) (ha : a < 16) (hqg : mv S a = true → q = ix S a ∧ g = gof S a) : mvI C S (stLMr M a q g) (a + 1) := by
  obtain ⟨i1, i2, i3⟩ := hi
  have hs : ix S (a + 1) = ix S a + (if mv S a = true then 1 else 0) := rfl
  have hp := h.p ha
  have hk := h.k ha
  cases hm : mv S a
  · have e : stLMr M a q g = cset M 24 (upd (M 24) a (-1)) := by
      unfold stLMr
      by_cases c1 : M 3 (21 + a) = -1
      · rw [if_pos c1]
      · rw [if_neg c1, if_neg]
        intro c2
        have : mv S a = true := by
          unfold mv
          rw [← hp, ← hk]
          simp [c1, c2]
        rw [this] at hm; cases hm
    rw [e]
    refine ⟨?_, ?_, ?_⟩
    · show M 26 0 = nI (ix S (a + 1))
      rw [hs, hm]; exact i1
    · intro b hb
      show upd (M 24) a (-1) b = _
      unfold upd
      by_cases e : b = a
      · subst e; rw [if_pos rfl, hm]; rfl
      · rw [if_neg e]; exact i2 b (by omega)
    · intro b hb hmb
      have : b ≠ a := by rintro rfl; rw [hm] at hmb; cases hmb
      exact i3 b (by omega) hmb
  · obtain ⟨rfl, rfl⟩ := hqg hm
    have hu := mv_uu hm
    have hm2 := hm
    unfold mv at hm2
    simp at hm2
    have e : stLMr M a (ix S a) (gof S a) = stLMa M a (ix S a) (cg C S a (gof S a)) := by
      unfold stLMr
      rw [if_neg (by rw [hp]; exact hm2.1), if_pos (by rw [hk]; exact hm2.2), dir_eq h ha hu]
    rw [e]
    unfold stLMa
    have hg := mv_g h.o ha hm
    refine ⟨?_, ?_, ?_⟩
    · show M 26 0 + 1 = nI (ix S (a + 1))
      rw [hs, hm, i1, nI_1]; rfl
    · intro b hb
      show upd (upd (M 24) a (-1)) a (M 26 0) b = _
      unfold upd
      by_cases e : b = a
      · subst e; rw [if_pos rfl, hm, i1]; rfl
      · rw [if_neg e, if_neg e]; exact i2 b (by omega)
    · intro b hb hmb
      show upd (M 21) (ix S a) (nI a) (ix S b) = _ ∧ upd (M 22) (ix S a) (M 3 (133 + a)) (ix S b) = _ ∧ upd (M 25) (ix S a) (b2i (!cg C S a (gof S a))) (ix S b) = _
      unfold upd
      by_cases e : b = a
      · subst e
        rw [if_pos rfl, if_pos rfl, if_pos rfl, h.f ha]
        refine ⟨rfl, hg.1, ?_⟩
        unfold dm
        rw [hm]; rfl
      · have e2 : ¬ ix S b = ix S a := fun q => e ((ix_inj hmb hm).mp q)
        rw [if_neg e2, if_neg e2, if_neg e2]
        exact i3 b (by omega) hmb
theorem rOpp_eq (h : cpS C S M n) (hi : mvI C S M 16) (ha : a < 16) (hm : mv S a = true) {w : Nat} (hw : mv S (gof S a) = true → w = ix S (gof S a)) : rOpp M (ix S a) (gof S a) w = if opp C S a = true then nI (ix S (gof S a)) else -1 := by
  obtain ⟨_, i2, i3⟩ := hi
  have hg := (mv_g h.o ha hm).2
  obtain ⟨a1, a2, a3⟩ := i3 a ha hm
  unfold rOpp
  rw [i2 _ hg]
  cases hmg : mv S (gof S a)
  · have : opp C S a = false := by
      cases e : opp C S a
      · rfl
      · rw [dm_mv (opp_g e)] at hmg; cases hmg
    rw [this]; rfl
  · have hw := hw hmg
    subst hw
    obtain ⟨b1, b2, b3⟩ := i3 _ hg hmg
    have hgg := (mv_g h.o hg hmg).2
    have hix : ix S (gof S a) < 2 ^ 31 := by have := ix_le (S := S) (show gof S a ≤ 16 by omega); have := h.m12; omega
    rw [if_pos rfl, if_neg (nI_m1 hix), a1, a3, b2, b3]
    unfold opp
    by_cases e : gof S (gof S a) = a
    · rw [if_pos (by rw [e]), decide_eq_true e]
      cases dm C S a <;> cases dm C S (gof S a) <;> rfl
    · rw [if_neg (fun q => e ((nI_eq (by omega) (by omega)).mp q)), decide_eq_false e]
      cases dm C S a <;> cases dm C S (gof S a) <;> rfl
end
theorem q_X10_laysMoves {G : osG} {z : osS} {N m n : Nat} {C S M : Nat → Nat → Int32} {D : Nat → Nat → Int64} (hm : rX10 z m M D) (hA : G.2.2.1 ≤ m) (hc : cpS C S M n) (hN : 16 < N) : gx (qX10_laysMoves N m G z) (fun _ z' => osFr m (m + 21) z z' ∧ ∃ M', rX10 z' m M' D ∧ (∀ k, k < 21 ∨ 27 ≤ k → M' k = M k) ∧ mvT C S M') := by
  unfold qX10_laysMoves
  refine hm.p26 (by decide) hA (fun z0 f0 h0 => ?_)
  unfold qX10_laysMoves_7
  refine gx_loop 16 (fun a p z' => p = (m, nI a) ∧ osFr m (m + 21) z z' ∧ ∃ M', rX10 z' m M' D ∧ (∀ k, k < 21 ∨ 27 ≤ k → M' k = M k) ∧ mvI C S M' a) ?_ ?_ N 0 _ z0 (Nat.zero_le _) (by omega) ⟨rfl, f0, _, h0, fun k hk => cset_ne (by omega), rfl, fun b hb => by omega, fun b hb => by omega⟩
  · rintro ih a p z' ha ⟨rfl, f1, M1, h1, e1, i1⟩ k
    have hc1 : cpS C S M1 n := cpS_keep hc (e1 1 (by omega)) (e1 3 (by omega))
    show gx (bX10_laysMoves_7 N ih m (nI a) G z') _
    have key : ∀ q g, q < 12 → g < 16 → (mv S a = true → q = ix S a ∧ g = gof S a) → gx (bX10_laysMoves_7 N ih m (nI a) G z') _ := fun q g hq hg hqg =>
      q_bX10_laysMoves_7 (q := q) (g := g) h1 hA ha (fun c1 c2 => by
        have hma : mv S a = true := by
          unfold mv
          rw [← hc1.p ha, ← hc1.k ha]
          simp [c1, c2]
        obtain ⟨rfl, rfl⟩ := hqg hma
        exact ⟨i1.1, by rw [hc1.f ha]; exact (mv_g hc.o ha hma).1⟩) hq hg (fun z2 f2 h2 => k _ _ ⟨by rw [nI_1], f1.tr f2, _, h2, fun k hk => by rw [stLMr_k hk]; exact e1 k hk, mvI_step hc1 i1 ha hqg⟩)
    cases hma : mv S a
    · exact key 0 0 (by omega) (by omega) (fun q => by rw [hma] at q; cases q)
    · exact key (ix S a) (gof S a) (by have := ix_lt ha hma; have := hc.m12; omega) (mv_g hc.o ha hma).2 (fun _ => ⟨rfl, rfl⟩)
  · rintro ih p z' ⟨rfl, f1, M1, h1, e1, i1⟩
    show gx (bX10_laysMoves_7 N ih m (nI 16) G z') _
    unfold bX10_laysMoves_7
    refine gx_itet le16 ?_
    unfold qX10_laysMoves_132
    have h12 := hc.m12
    refine gx_loop (fb_ct (mv S) 16) (fun i p z' => p = (m, nI i) ∧ osFr m (m + 21) z z' ∧ ∃ M', rX10 z' m M' D ∧ (∀ k, k < 21 ∨ 27 ≤ k → M' k = M k) ∧ mvI C S M' 16 ∧ ∀ b, b < 16 → mv S b = true → ix S b < i → M' 23 (ix S b) = if opp C S b = true then nI (ix S (gof S b)) else -1) ?_ ?_ N 0 _ z' (Nat.zero_le _) (by omega) ⟨rfl, f1, M1, h1, e1, i1, fun b _ _ hb => by omega⟩
    · rintro ih i p z' hi ⟨rfl, f1, M1, h1, e1, i1, j1⟩ k
      have hc1 : cpS C S M1 n := cpS_keep hc (e1 1 (by omega)) (e1 3 (by omega))
      obtain ⟨a, ha, hma, rfl⟩ := ix_of hi
      show gx (bX10_laysMoves_132 N ih m (nI (ix S a)) G z') _
      have key : ∀ w, w < 12 → (mv S (gof S a) = true → w = ix S (gof S a)) → gx (bX10_laysMoves_132 N ih m (nI (ix S a)) G z') _ := fun w hw hwg =>
        q_bX10_laysMoves_132 (w := w) (g := gof S a) h1 hA i1.1 h12 hi (i1.2.2 a ha hma).2.1 (mv_g hc.o ha hma).2 (fun c => by
          rw [i1.2.1 _ (mv_g hc.o ha hma).2] at c ⊢
          cases hg : mv S (gof S a)
          · rw [hg] at c; exact absurd rfl c
          · rw [hwg hg]; rfl) hw (fun z2 f2 h2 => k _ _ ⟨by rw [nI_1], f1.tr f2, _, h2, fun k hk => by rw [cset_ne (by omega)]; exact e1 k hk, mvI_keep i1 rfl rfl rfl rfl rfl, fun b hb hmb hlt => by
            show upd (M1 23) (ix S a) _ (ix S b) = _
            unfold upd
            by_cases e : b = a
            · subst e; rw [if_pos rfl, rOpp_eq hc1 i1 hb hma hwg]
            · have e2 : ¬ ix S b = ix S a := fun q => e ((ix_inj hmb hma).mp q)
              rw [if_neg e2]; exact j1 b hb hmb (by omega)⟩)
      cases hg : mv S (gof S a)
      · exact key 0 (by omega) (fun q => by rw [hg] at q; cases q)
      · exact key _ (by have := ix_lt (mv_g hc.o ha hma).2 hg; omega) (fun _ => rfl)
    · rintro ih p z' ⟨rfl, f1, M1, h1, e1, i1, j1⟩
      show gx (bX10_laysMoves_132 N ih m (nI (fb_ct (mv S) 16)) G z') _
      unfold bX10_laysMoves_132
      refine gx_gI h1.o (by decide) rfl (gx_itet ?_ (gx_ret ⟨f1, M1, h1, e1, i1, fun b hb hmb => j1 b hb hmb (ix_lt hb hmb)⟩))
      rw [i1.1]
      exact (nI_leI (by show fb_ct (mv S) 16 < _; omega) (by omega)).mpr (Nat.le_refl _)
