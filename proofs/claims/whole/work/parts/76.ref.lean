/-! the reference's settling: bits gathered; laysDislodged (by program) -/
def stBit (kk : Nat) (b : Bool) (i : Nat) (M : Nat → Nat → Int32) : Nat → Nat → Int32 := cset M kk (fun _ => if b = true then M kk 0 ||| sg i else M kk 0)
section
variable {β ρ : Type} {b : (β → osM ρ) → β → osM ρ} {G : osG} {z : osS} {m : Nat} {M : Nat → Nat → Int32} {D : Nat → Nat → Int64} {Q : ρ → osS → Prop}
/-- a loop that gathers bits in a field -/
theorem gx_bits (kk : Nat) (P : Nat → Bool) (n : Nat) (hn : n ≤ 16) (pk : Nat → β) (hm : rX10 z m M D) (h0 : M kk 0 = 0)
    (hs : ∀ (ih : β → osM ρ) (i : Nat) (z' : osS) (M' : Nat → Nat → Int32), i < n → osFr m (m + 21) z z' → rX10 z' m M' D → (∀ k, k ≠ kk → M' k = M k) → (∀ z1, osFr m (m + 21) z' z1 → rX10 z1 m (stBit kk (P i) i M') D → gx (ih (pk (i + 1)) G z1) Q) → gx (b ih (pk i) G z') Q)
    (he : ∀ (ih : β → osM ρ) (z' : osS) (M' : Nat → Nat → Int32), osFr m (m + 21) z z' → rX10 z' m M' D → (∀ k, k ≠ kk → M' k = M k) → (∀ j, j < 32 → bt (M' kk 0) j = (decide (j < n) && P j)) → gx (b ih (pk n) G z') Q) (N : Nat) (hN : n < N) : gx (osloop b N (pk 0) G z) Q := by
  refine gx_loop n (fun i p z' => p = pk i ∧ osFr m (m + 21) z z' ∧ ∃ M', rX10 z' m M' D ∧ (∀ k, k ≠ kk → M' k = M k) ∧ ∀ j, j < 32 → bt (M' kk 0) j = (decide (j < i) && P j)) ?_ ?_ N 0 _ z (Nat.zero_le _) (by omega) ⟨rfl, osFr.rf, M, hm, fun _ _ => rfl, fun j _ => by rw [h0, b_0]; simp⟩
  · rintro ih i p z' hi ⟨rfl, f1, M1, h1, e1, j1⟩ k
    refine hs ih i z' M1 hi f1 h1 e1 (fun z2 f2 h2 => k _ _ ⟨rfl, f1.tr f2, _, h2, fun k hk => by unfold stBit; rw [cset_ne hk]; exact e1 k hk, fun j hj => ?_⟩)
    unfold stBit
    rw [cset_eq]
    show bt (if P i = true then M1 kk 0 ||| sg i else M1 kk 0) j = _
    by_cases e : j = i
    · subst e
      cases hp : P j
      · rw [if_neg (by decide), j1 j hj]; simp [hp]
      · rw [if_pos rfl, b_or, b_sg (by omega) hj]; simp
    · have e2 : decide (j < i + 1) = decide (j < i) := by by_cases q : j < i <;> simp [q] <;> omega
      rw [e2, ← j1 j hj]
      cases hp : P i
      · rw [if_neg (by decide)]
      · rw [if_pos rfl, b_or, b_sg (by omega) hj, decide_eq_false e, Bool.or_false]
  · rintro ih p z' ⟨rfl, f1, M1, h1, e1, j1⟩
    exact he ih z' M1 f1 h1 e1 j1
/-- a loop that looks for something -/
theorem gx_any (P : Nat → Bool) (n : Nat) (pk : Nat → β) (hs : ∀ (ih : β → osM ρ) (i : Nat), i < n → (P i = false → gx (ih (pk (i + 1)) G z) Q) → (P i = true → exn P n = true) → gx (b ih (pk i) G z) Q) (he : ∀ (ih : β → osM ρ), exn P n = false → gx (b ih (pk n) G z) Q) (N : Nat) (hN : n < N) : gx (osloop b N (pk 0) G z) Q := by
  refine gx_loop n (fun i p z' => p = pk i ∧ z' = z ∧ ∀ j, j < i → P j = false) ?_ ?_ N 0 _ z (Nat.zero_le _) (by omega) ⟨rfl, rfl, fun j hj => by omega⟩
  · rintro ih i p z' hi ⟨rfl, rfl, j1⟩ k
    refine hs ih i hi (fun hp => k _ _ ⟨rfl, rfl, fun j hj => ?_⟩) (fun hp => exn_iff.mpr ⟨i, hi, hp⟩)
    by_cases e : j = i
    · subst e; exact hp
    · exact j1 j (by omega)
  · rintro ih p z' ⟨rfl, rfl, j1⟩
    exact he ih (exn_no.mpr j1)
end
/-- the moves of an outcome: its number read by areas -/
def oX (S : Nat → Nat → Int32) (o : Int32) (a : Nat) : Bool := decide (a < 16) && (mv S a && bt o (ix S a))
theorem oX_in {S : Nat → Nat → Int32} {o : Int32} {a : Nat} (ha : a < 16) : oX S o a = (mv S a && bt o (ix S a)) := by unfold oX; rw [decide_eq_true ha, Bool.true_and]
theorem goals_bt {C S M : Nat → Nat → Int32} {n b : Nat} (hc : cpS C S M n) (ht : mvT C S M) (hb : b < 32) : bt (osit (stGo M) 0 (fb_ct (mv S) 16) 0) b = exn (fun a => oX S (M 28 0) a && decide (gof S a = b)) 16 := by
  have e := bt_gath (P := fun i => bt (M 28 0) i) (f := fun i => osshl (1 : Int32) (M 22 i)) (g0 := 0) (i := b) (n := fb_ct (mv S) 16)
  rw [b_0, Bool.false_or] at e
  refine Eq.trans e ?_
  rw [exn_ix]
  refine exn_cong (fun a ha => ?_)
  rw [oX_in ha]
  cases hm : mv S a
  · rfl
  · have hg := (mv_g hc.o ha hm).2
    rw [(ht.1.2.2 a ha hm).2.1, Bool.true_and, Bool.true_and]
    show (bt (M 28 0) (ix S a) && bt (sg (gof S a)) b) = _
    rw [b_sg (by omega) hb]
    by_cases q : b = gof S a
    · rw [decide_eq_true q, decide_eq_true q.symm]
    · rw [decide_eq_false q, decide_eq_false (fun x => q x.symm)]
theorem scs_eq {C S M : Nat → Nat → Int32} {n a : Nat} (hc : cpS C S M n) (ht : mvT C S M) (ha : a < 16) : scs M (M 24 a) = oX S (M 28 0) a := by
  rw [oX_in ha]
  unfold scs
  rw [ht.1.2.1 a ha]
  have hix : ix S a < 2 ^ 31 := by have := ix_le (S := S) (show a ≤ 16 by omega); have := hc.m12; omega
  cases hm : mv S a
  · rfl
  · rw [if_pos rfl, show tn (nI (ix S a)) = ix S a from nI_clamp hix, decide_eq_false (nI_m1 hix)]; rfl
theorem scs_h {C S M : Nat → Nat → Int32} {n a : Nat} (hc : cpS C S M n) (ht : mvT C S M) (ha : a < 16) : ¬ M 24 a = -1 → M 24 a = nI (tn (M 24 a)) ∧ tn (M 24 a) < 12 := by
  rw [ht.1.2.1 a ha]
  intro c
  cases hm : mv S a
  · rw [hm] at c; exact absurd rfl c
  · have := ix_lt ha hm
    have := hc.m12
    rw [if_pos rfl, show tn (nI (ix S a)) = ix S a from nI_clamp (by omega)]
    exact ⟨rfl, by omega⟩
def rDi (M : Nat → Nat → Int32) (g : Int32) (a : Nat) : Bool := !decide (M 3 (21 + a) = -1) && (bt g a && !scs M (M 24 a))
theorem q_bX10_laysDislodged_12 {G : osG} {z : osS} {N : Nat} {g : Int32} {a : Nat} {m : Nat} {M : Nat → Nat → Int32} {D : Nat → Nat → Int64} {n : Nat} {Q : Unit → osS → Prop} {ih : Nat × Int32 × Int32 → osM Unit} (hm : rX10 z m M D) (hA : G.2.2.1 ≤ m) (hn : M 1 0 = nI n) (h16 : n ≤ 16) (h9 : a < n) (hv : ¬ M 24 a = -1 → M 24 a = nI (tn (M 24 a)) ∧ tn (M 24 a) < 12) (k : ∀ z1, osFr m (m + 21) z z1 → rX10 z1 m (stBit 29 (rDi M g a) a M) D → gx (ih (m, g, nI a + 1) G z1) Q) : gx (bX10_laysDislodged_12 N ih m g (nI a) G z) Q := by
  unfold bX10_laysDislodged_12
  (repeat (first | unfold qX10_laysDislodged_58 | unfold qX10_laysDislodged_59 | unfold qX10_laysDislodged_80))
  exact gx_gR hm.o (by decide) rfl (gx_aE (i := 0) hm.a1 (rfl) (by omega) (Nat.le_of_ble_eq_true rfl) (gx_itef (nI_nleE (a := n) (b := a) hn rfl h9 (by omega)) (gx_gR hm.o (by decide) rfl (gx_callE (q_X10_isUnit hm.a3 (by omega) rfl) (gx_iteDn (fun (c_1 : M 3 (21 + a) = -1) => gx_itet (by decide) (gx_gI hm.o (by decide) rfl (hm.p29 (by decide) (by omega) (fun z_2 f_2 hm_2 => k _ (f_2.wide (by omega) (by omega)) (by have e9 : rDi M g a = false := (by unfold rDi; simp [c_1]); unfold stBit; rw [e9]; exact hm_2))))) (fun (c_1 : ¬ (M 3 (21 + a) = -1)) => gx_callE (q_X10_has (by omega) rfl) (gx_iteB (fun (c_3 : (bt (g) a) = false) => gx_itet (by decide) (gx_gI hm.o (by decide) rfl (hm.p29 (by decide) (by omega) (fun z_4 f_4 hm_4 => k _ (f_4.wide (by omega) (by omega)) (by have e9 : rDi M g a = false := (by unfold rDi; simp [c_1, c_3]); unfold stBit; rw [e9]; exact hm_4))))) (fun (c_3 : (bt (g) a) = true) => gx_gR hm.o (by decide) rfl (gx_aE hm.a24 (rfl) (by omega) (Nat.le_of_ble_eq_true rfl) (gx_recvE hm.o (by decide) (q_X10_succeeds hm hv) (gx_iteB (fun (c_5 : (scs M ((M 24 a))) = false) => gx_itef (by decide) (gx_gI hm.o (by decide) rfl (hm.p29 (by decide) (by omega) (fun z_6 f_6 hm_6 => k _ (f_6.wide (by omega) (by omega)) (by have e9 : rDi M g a = true := (by unfold rDi; simp [c_1, c_3, c_5]); unfold stBit; rw [e9]; exact hm_6))))) (fun (c_5 : (scs M ((M 24 a))) = true) => gx_itet (by decide) (gx_gI hm.o (by decide) rfl (hm.p29 (by decide) (by omega) (fun z_7 f_7 hm_7 => k _ (f_7.wide (by omega) (by omega)) (by have e9 : rDi M g a = false := (by unfold rDi; simp [c_1, c_3, c_5]); unfold stBit; rw [e9]; exact hm_7))))))))))))))))
theorem q_X10_laysDislodged {G : osG} {z : osS} {N m n : Nat} {C S M : Nat → Nat → Int32} {D : Nat → Nat → Int64} (hm : rX10 z m M D) (hA : G.2.2.1 ≤ m) (hc : cpS C S M n) (ht : mvT C S M) (hN : 16 < N) : gx (qX10_laysDislodged N m G z) (fun _ z' => osFr m (m + 21) z z' ∧ ∃ M', rX10 z' m M' D ∧ (∀ k, k ≠ 29 → M' k = M k) ∧ ∀ j, j < 32 → bt (M' 29 0) j = (decide (j < 16) && disl S (oX S (M 28 0)) j)) := by
  have h12 := hc.m12
  unfold qX10_laysDislodged
  refine gx_recvE hm.o (by decide) (q_X10_goals (n := fb_ct (mv S) 16) hm ht.1.1 h12 hN) (hm.p29 (by decide) hA (fun z0 f0 h0 => ?_))
  generalize hgo : osit (stGo M) 0 (fb_ct (mv S) 16) 0 = g
  have hg : ∀ b, b < 32 → bt g b = exn (fun a => oX S (M 28 0) a && decide (gof S a = b)) 16 := fun b hb => by rw [← hgo]; exact goals_bt hc ht hb
  have hP : ∀ M', (∀ k, k ≠ 29 → M' k = M k) → ∀ a, a < 16 → rDi M' g a = disl S (oX S (M 28 0)) a := fun M' e a ha => by
    have h28 : M' 28 = M 28 := e 28 (by omega)
    have hc' : cpS C S M' n := cpS_keep hc (e 1 (by omega)) (e 3 (by omega))
    have ht' : mvT C S M' := mvT_keep ht (fun k h1 h2 => e k (by omega))
    unfold rDi disl
    rw [scs_eq hc' ht' ha, hc'.un ha, hg a (by omega), h28]
    cases uu S a <;> cases oX S (M 28 0) a <;> simp
  unfold qX10_laysDislodged_12
  have e0 : ∀ k, k ≠ 29 → (cset M 29 fun _ => (0 : Int32)) k = M k := fun k hk => cset_ne hk
  refine gx_bits 29 (disl S (oX S (M 28 0))) n hc.n16 (fun i => (m, g, nI i)) h0 rfl ?_ ?_ N (by have := hc.n16; omega)
  · intro ih a z1 M1 ha f1 h1 e1 k
    have e2 : ∀ k, k ≠ 29 → M1 k = M k := fun k hk => (e1 k hk).trans (e0 k hk)
    have hc1 : cpS C S M1 n := cpS_keep hc (e2 1 (by omega)) (e2 3 (by omega))
    have ht1 : mvT C S M1 := mvT_keep ht (fun k h1 h2 => e2 k (by omega))
    have ha16 : a < 16 := by have := hc.n16; omega
    show gx (bX10_laysDislodged_12 N ih m g (nI a) G z1) _
    refine q_bX10_laysDislodged_12 h1 hA hc1.n0 hc1.n16 ha (scs_h hc1 ht1 ha16) (fun z2 f2 h2 => ?_)
    rw [nI_1]
    rw [hP M1 e2 a ha16] at h2
    exact k z2 f2 h2
  · intro ih z1 M1 f1 h1 e1 j1
    have e2 : ∀ k, k ≠ 29 → M1 k = M k := fun k hk => (e1 k hk).trans (e0 k hk)
    show gx (bX10_laysDislodged_12 N ih m g (nI n) G z1) _
    unfold bX10_laysDislodged_12
    refine gx_gR h1.o (by decide) rfl (gx_aE (i := 0) h1.a1 rfl (by omega) (Nat.le_of_ble_eq_true rfl) (gx_itet ?_ (gx_ret ⟨f0.tr f1, M1, h1, e2, fun j hj => ?_⟩)))
    · rw [e2 1 (by omega), hc.n0]
      exact (nI_leI (by have := hc.n16; omega) (by have := hc.n16; omega)).mpr (Nat.le_refl _)
    · rw [j1 j hj]
      by_cases q : j < n
      · have := hc.n16
        rw [decide_eq_true q, decide_eq_true (show j < 16 by omega)]
      · rw [decide_eq_false q, Bool.false_and]
        by_cases q2 : j < 16
        · have : uu S j = false := by
            cases e : uu S j
            · rfl
            · exact absurd (hc.lt q2 e) q
          unfold disl
          rw [this]; simp
        · rw [decide_eq_false q2]; rfl
