/-! what a settling leaves in the class' state (by program) -/
/-- what carryOut leaves: T of S, the moves X that succeed -/
def coT (C S T : Nat → Nat → Int32) (sea : Bool) (X : Nat → Bool) (v : Int32) : Prop :=
  (∀ k, k = 0 ∨ k = 1 ∨ k = 5 ∨ k = 12 ∨ k = 13 ∨ k = 14 → T k = S k) ∧ T 2 0 = 1 ∧ T 3 0 = v ∧ nwR S X 6 (T 6) ∧ nwR S X 7 (T 7) ∧
  (∀ b, b < 16 → T 8 b = (if disl S X b = true then S 6 b else -1) ∧ T 9 b = (if disl S X b = true then S 7 b else -1) ∧ T 11 b = -1) ∧
  (∀ b, b < 16 → disl S X b = true → ∀ a, a < 16 → X a = true → gof S a = b → T 10 b = if dm C S a = true then nI a else -1) ∧
  (∀ b, b < 16 → disl S X b = false → T 10 b = -1) ∧
  (∀ j, j < 32 → bt (T 4 0) j = (decide (j < 16) && (exn (fun a => mv S a && (pth C S sea X a && (!X a && decide (gof S a = j)))) 16 && decide (T 6 j = -1)))) ∧
  ∀ a w, a < 16 → w < 6 → T 15 (6 * a + w) = exW C S sea X a w
section
variable {C S L J U : Nat → Nat → Int32} {sea : Bool} {o : Int32}
def clr (S : Nat → Nat → Int32) : Nat → Nat → Int32 := osit (fun a W => stCD a W) 0 16 (osit (fun a W => stCU a W) 0 16 S)
theorem clr_k {k : Nat} (h : k < 6 ∨ 12 ≤ k) : clr S k = S k := by
  unfold clr
  rw [cf_CU, cf_CD, cset_ne (by omega), cset_ne (by omega), cset_ne (by omega), cset_ne (by omega), cset_ne (by omega), cset_ne (by omega)]
theorem clr_m {k b : Nat} (h : 6 ≤ k) (h2 : k < 12) (hb : b < 16) : clr S k b = -1 := by
  unfold clr
  rw [cf_CU, cf_CD]
  rcases (show k = 6 ∨ k = 7 ∨ k = 8 ∨ k = 9 ∨ k = 10 ∨ k = 11 by omega) with e | e | e | e | e | e <;> subst e <;> simp [cset_ap, fl, hb]
def spI (S : Nat → Nat → Int32) (X : Nat → Bool) (r i : Nat) (f : Nat → Int32) : Prop := (∀ a, a < i → X a = true → f (gof S a) = S r a) ∧ (∀ b, b < i → sty S X b = true → f b = S r b) ∧ ∀ b, b < 16 → (∀ a, a < i → X a = true → ¬ gof S a = b) → ¬ (b < i ∧ sty S X b = true) → f b = -1
theorem spI_16 {X : Nat → Bool} {r : Nat} {f : Nat → Int32} (h : spI S X r 16 f) : nwR S X r f := ⟨h.1, h.2.1, fun b hb h1 h2 => h.2.2 b hb h1 (fun q => by rw [q.2] at h2; cases h2)⟩
theorem spI_mv {X : Nat → Bool} {r a : Nat} {f : Nat → Int32} (h : spI S X r a f) (ha : a < 16) (hx : X a = true) (hu : ∀ a c, X a = true → X c = true → gof S a = gof S c → a = c) : spI S X r (a + 1) (upd f (gof S a) (S r a)) := by
  refine ⟨fun c hc hxc => ?_, fun b hb hs => ?_, fun b hb h1 h2 => ?_⟩
  · by_cases e : c = a
    · subst e; exact upd_eq
    · rw [upd_ne (fun q => e (hu c a hxc hx q))]
      exact h.1 c (by omega) hxc
  · have hne : ¬ b = a := fun q => by
      subst q
      unfold sty at hs
      rw [hx] at hs; simp at hs
    rw [upd_ne (fun q => sty_no hs ha hx q.symm)]
    exact h.2.1 b (by omega) hs
  · rw [upd_ne (fun q => h1 a (by omega) hx q.symm)]
    exact h.2.2 b hb (fun c hc => h1 c (by omega)) (fun q => h2 ⟨by omega, q.2⟩)
theorem spI_st {X : Nat → Bool} {r a : Nat} {f : Nat → Int32} (h : spI S X r a f) (ha : a < 16) (hs : sty S X a = true) : spI S X r (a + 1) (upd f a (S r a)) := by
  have hx : X a = false := by
    unfold sty at hs
    simp at hs
    exact hs.2.1
  refine ⟨fun c hc hxc => ?_, fun b hb hsb => ?_, fun b hb h1 h2 => ?_⟩
  · have hne : ¬ c = a := fun q => by subst q; rw [hx] at hxc; cases hxc
    rw [upd_ne (sty_no hs (show c < 16 by omega) hxc)]
    exact h.1 c (by omega) hxc
  · by_cases e : b = a
    · subst e; exact upd_eq
    · rw [upd_ne e]; exact h.2.1 b (by omega) hsb
  · have hne : ¬ b = a := fun q => h2 ⟨by omega, by rw [q]; exact hs⟩
    rw [upd_ne hne]
    exact h.2.2 b hb (fun c hc => h1 c (by omega)) (fun q => h2 ⟨by omega, q.2⟩)
theorem spI_no {X : Nat → Bool} {r a : Nat} {f : Nat → Int32} (h : spI S X r a f) (hx : X a = false) (hs : sty S X a = false) : spI S X r (a + 1) f := by
  refine ⟨fun c hc hxc => ?_, fun b hb hsb => ?_, fun b hb h1 h2 => ?_⟩
  · have hne : ¬ c = a := fun q => by subst q; rw [hx] at hxc; cases hxc
    exact h.1 c (by omega) hxc
  · have hne : ¬ b = a := fun q => by subst q; rw [hs] at hsb; cases hsb
    exact h.2.1 b (by omega) hsb
  · exact h.2.2 b hb (fun c hc => h1 c (by omega)) (fun q => h2 ⟨by omega, q.2⟩)
def coI (C S L J W0 : Nat → Nat → Int32) (X : Nat → Bool) (i : Nat) (W : Nat → Nat → Int32) : Prop :=
  (∀ k, k < 6 ∨ 11 ≤ k → W k = W0 k) ∧ spI S X 6 i (W 6) ∧ spI S X 7 i (W 7) ∧ ∀ b, b < 16 → ((b < i ∧ disl S X b = true) → W 8 b = S 6 b ∧ W 9 b = S 7 b ∧ W 10 b = oi (fd (jAtP L J b) 0 16)) ∧ (¬ (b < i ∧ disl S X b = true) → W 8 b = -1 ∧ W 9 b = -1 ∧ W 10 b = -1)
theorem coI_step (hU : ∀ k, 5 ≤ k → k < 15 → ∀ a, a < 16 → U k a = S k a) {W W0 : Nat → Nat → Int32} {a : Nat} (ha : a < 16) (h5 : J 5 0 = o) (h6 : bt (J 6 0) a = disl S (bt o) a) (hu : ∀ a c, bt o a = true → bt o c = true → gof S a = gof S c → a = c) (h : coI C S L J W0 (bt o) a W) : coI C S L J W0 (bt o) (a + 1) (stCO U J L a W) := by
  obtain ⟨r0, r6, r7, rd⟩ := h
  have hg : gof U a = gof S a := by unfold gof; rw [hU 13 (by omega) (by omega) a ha]
  have keep8 : disl S (bt o) a = false → ∀ b, b < 16 → ((b < a + 1 ∧ disl S (bt o) b = true) → W 8 b = S 6 b ∧ W 9 b = S 7 b ∧ W 10 b = oi (fd (jAtP L J b) 0 16)) ∧ (¬ (b < a + 1 ∧ disl S (bt o) b = true) → W 8 b = -1 ∧ W 9 b = -1 ∧ W 10 b = -1) := fun hd b hb => by
    refine ⟨fun q => (rd b hb).1 ⟨?_, q.2⟩, fun q => (rd b hb).2 (fun x => q ⟨by omega, x.2⟩)⟩
    have : ¬ b = a := fun e => by rw [e, hd] at q; exact absurd q.2 (by decide)
    omega
  unfold stCO
  rw [h5, h6, hU 6 (by omega) (by omega) a ha, hU 7 (by omega) (by omega) a ha, hg]
  cases hx : bt o a
  · rw [if_neg (by decide)]
    cases hd : disl S (bt o) a
    · rw [if_neg (by decide)]
      by_cases hp : S 6 a = -1
      · rw [if_pos hp]
        have hs : sty S (bt o) a = false := by unfold sty uu; rw [decide_eq_true hp]; rfl
        exact ⟨r0, spI_no r6 hx hs, spI_no r7 hx hs, keep8 hd⟩
      · rw [if_neg hp]
        have hs : sty S (bt o) a = true := by unfold sty uu; rw [decide_eq_false hp, hx, hd]; rfl
        refine ⟨fun k hk => ?_, spI_st r6 ha hs, spI_st r7 ha hs, keep8 hd⟩
        unfold placed
        rw [cset_ne (by omega), cset_ne (by omega)]; exact r0 k hk
    · rw [if_pos rfl]
      have hs : sty S (bt o) a = false := by unfold sty; rw [hd]; simp
      refine ⟨fun k hk => ?_, spI_no r6 hx hs, spI_no r7 hx hs, fun b hb => ?_⟩
      · rw [cset_ne (by omega), cset_ne (by omega), cset_ne (by omega)]; exact r0 k hk
      · show ((b < a + 1 ∧ disl S (bt o) b = true) → upd (W 8) a (S 6 a) b = S 6 b ∧ upd (W 9) a (S 7 a) b = S 7 b ∧ upd (W 10) a _ b = _) ∧ (¬ (b < a + 1 ∧ disl S (bt o) b = true) → upd (W 8) a (S 6 a) b = -1 ∧ upd (W 9) a (S 7 a) b = -1 ∧ upd (W 10) a _ b = -1)
        by_cases e : b = a
        · subst e
          rw [upd_eq, upd_eq, upd_eq]
          exact ⟨fun _ => ⟨rfl, rfl, rfl⟩, fun q => absurd ⟨by omega, hd⟩ q⟩
        · rw [upd_ne e, upd_ne e, upd_ne e]
          exact ⟨fun q => (rd b hb).1 ⟨by omega, q.2⟩, fun q => (rd b hb).2 (fun x => q ⟨by omega, x.2⟩)⟩
  · rw [if_pos rfl]
    have hd : disl S (bt o) a = false := by unfold disl; rw [hx]; simp
    refine ⟨fun k hk => ?_, spI_mv r6 ha hx hu, spI_mv r7 ha hx hu, keep8 hd⟩
    unfold placed
    rw [cset_ne (by omega), cset_ne (by omega)]; exact r0 k hk
theorem coI_all (hU : ∀ k, 5 ≤ k → k < 15 → ∀ a, a < 16 → U k a = S k a) (w : WJ C S sea o J) (hu : ∀ a c, bt o a = true → bt o c = true → gof S a = gof S c → a = c) : coI C S L J (clr S) (bt o) 16 (cOut1 U J L S) := by
  unfold cOut1
  have h := osit_inv (f := fun a W => stCO U J L a W) (fun i W => coI C S L J (clr S) (bt o) i W) (k := 16) (i := 0) (a := clr S) ⟨fun _ _ => rfl, ⟨fun a h => by omega, fun b h => by omega, fun b hb _ _ => clr_m (by omega) (by omega) hb⟩, ⟨fun a h => by omega, fun b h => by omega, fun b hb _ _ => clr_m (by omega) (by omega) hb⟩, fun b hb => ⟨fun q => by omega, fun _ => ⟨clr_m (by omega) (by omega) hb, clr_m (by omega) (by omega) hb, clr_m (by omega) (by omega) hb⟩⟩⟩ (fun a W _ ha h => coI_step hU (by omega) w.1 (by rw [w.2.2.2 a (by omega)]; simp; omega) hu h)
  exact h
theorem jFail_bt (hk : LK C S L) (ho : okO S) (w : WJ C S sea o J) {j : Nat} (hj : j < 32) : bt (jFail L J) j = exn (fun a => mv S a && (pth C S sea (bt o) a && (!bt o a && decide (gof S a = j)))) 16 := by
  have e := bt_gath (P := fun c => bt (J 2 0 &&& (J 5 0 ^^^ (-1 : Int32))) c) (f := L 6) (g0 := 0) (i := j) (n := 16)
  rw [b_0, Bool.false_or] at e
  refine Eq.trans e (exn_cong (fun a ha => ?_))
  rw [b_and, b_not (by omega), w.2.1 a (by omega), w.1, decide_eq_true ha, Bool.true_and, hk.goal ha]
  cases hm : mv S a
  · have hp : pth C S sea (bt o) a = false := by unfold pth dm; rw [hm]; simp
    rw [hp]; rfl
  · have hg := (mv_g ho ha hm).2
    rw [if_pos rfl, b_sg (by omega) hj]
    by_cases q : j = gof S a
    · rw [decide_eq_true q, decide_eq_true q.symm]
      cases pth C S sea (bt o) a <;> cases bt o a <;> rfl
    · rw [decide_eq_false q, decide_eq_false (fun x => q x.symm)]
      cases pth C S sea (bt o) a <;> cases bt o a <;> rfl
theorem cnI (F : Int32) (V : Nat → Nat → Int32) (h4 : V 4 0 = 0) : ∀ i, i ≤ 16 → (∀ k, k ≠ 4 → osit (fun a W => stCN F a W) 0 i V k = V k) ∧ ∀ j, j < 32 → bt (osit (fun a W => stCN F a W) 0 i V 4 0) j = (decide (j < i) && (bt F j && decide (V 6 j = -1)))
  | 0, _ => ⟨fun _ _ => rfl, fun j _ => by rw [osit_zero, h4, b_0]; rfl⟩
  | i + 1, hi => by
    obtain ⟨a1, a2⟩ := cnI F V h4 i (by omega)
    rw [osit_last, Nat.zero_add]
    generalize osit (fun a W => stCN F a W) 0 i V = W at a1 a2 ⊢
    have dlt : ∀ j, ¬ j = i → decide (j < i + 1) = decide (j < i) := fun j e => by
      by_cases q : j < i
      · rw [decide_eq_true q, decide_eq_true (by omega)]
      · rw [decide_eq_false q, decide_eq_false (by omega)]
    unfold stCN
    rw [a1 6 (by omega)]
    cases hF : bt F i
    · rw [if_neg (by decide)]
      refine ⟨a1, fun j hj => ?_⟩
      by_cases e : j = i
      · subst e
        rw [a2 j hj, hF]; simp
      · rw [a2 j hj, dlt j e]
    · rw [if_pos rfl]
      by_cases hp : V 6 i = -1
      · rw [if_pos hp]
        refine ⟨fun k hk => by rw [cset_ne hk]; exact a1 k hk, fun j hj => ?_⟩
        rw [cset_eq, b_or, a2 j hj, b_sg (by omega) hj]
        by_cases e : j = i
        · subst e
          rw [hF, decide_eq_true hp]; simp
        · rw [dlt j e, decide_eq_false e, Bool.or_false]
      · rw [if_neg hp]
        refine ⟨a1, fun j hj => ?_⟩
        by_cases e : j = i
        · subst e
          rw [a2 j hj, decide_eq_false hp]; simp
        · rw [a2 j hj, dlt j e]
theorem cOut_T (hk : LK C S L) (ho : okO S) (hU : ∀ k, 5 ≤ k → k < 15 → ∀ a, a < 16 → U k a = S k a) (w : WJ C S sea o J) (hX : ∀ a, bt o a = true → a < 16 ∧ mv S a = true) (hu : ∀ a c, bt o a = true → bt o c = true → gof S a = gof S c → a = c) : coT C S (cOut U J L S) sea (bt o) (J 7 0) := by
  have hI := coI_all (L := L) (J := J) hU w hu
  obtain ⟨r0, r6, r7, rd⟩ := hI
  have hV4 : (cset (cOut1 U J L S) 4 fun _ => (0 : Int32)) 4 0 = 0 := rfl
  obtain ⟨c1, c2⟩ := cnI (jFail L J) (cset (cOut1 U J L S) 4 fun _ => (0 : Int32)) hV4 16 (Nat.le_refl _)
  have kk : ∀ k, k ≠ 2 → k ≠ 3 → k ≠ 4 → k ≠ 15 → cOut U J L S k = cOut1 U J L S k := fun k h2 h3 h4 h15 => by
    unfold cOut cOut4 cOut3 cOut2
    rw [cset_ne h15, cset_ne h3, cset_ne h2, c1 k h4, cset_ne h4]
  have ks : ∀ k, k = 0 ∨ k = 1 ∨ k = 5 ∨ k = 12 ∨ k = 13 ∨ k = 14 → cOut U J L S k = S k := fun k hk => by
    rw [kk k (by omega) (by omega) (by omega) (by omega), r0 k (by omega)]
    exact clr_k (by omega)
  have e6 : cOut U J L S 6 = cOut1 U J L S 6 := kk 6 (by omega) (by omega) (by omega) (by omega)
  have e7 : cOut U J L S 7 = cOut1 U J L S 7 := kk 7 (by omega) (by omega) (by omega) (by omega)
  have e8 : cOut U J L S 8 = cOut1 U J L S 8 := kk 8 (by omega) (by omega) (by omega) (by omega)
  have e9 : cOut U J L S 9 = cOut1 U J L S 9 := kk 9 (by omega) (by omega) (by omega) (by omega)
  have e10 : cOut U J L S 10 = cOut1 U J L S 10 := kk 10 (by omega) (by omega) (by omega) (by omega)
  have e11 : cOut U J L S 11 = cOut1 U J L S 11 := kk 11 (by omega) (by omega) (by omega) (by omega)
  refine ⟨ks, rfl, rfl, by rw [e6]; exact spI_16 r6, by rw [e7]; exact spI_16 r7, fun b hb => ?_, fun b hb hd a ha hxa hg => ?_, fun b hb hd => ?_, fun j hj => ?_, fun a v ha hv => ?_⟩
  · rw [e8, e9, e11, r0 11 (by omega), clr_m (by omega) (by omega) hb]
    cases hd : disl S (bt o) b
    · have := (rd b hb).2 (fun x => by rw [hd] at x; exact absurd x.2 (by decide))
      rw [this.1, this.2.1]; exact ⟨rfl, rfl, rfl⟩
    · have := (rd b hb).1 ⟨hb, hd⟩
      rw [this.1, this.2.1]; exact ⟨rfl, rfl, rfl⟩
  · rw [e10, ((rd b hb).1 ⟨hb, hd⟩).2.2]
    have hP : ∀ c, c < 16 → jAtP L J b c = (bt o c && dm C S c && decide (gof S c = b)) := fun c hc => by
      unfold jAtP
      rw [b_and, w.1, hk.d (by omega), decide_eq_true hc, Bool.true_and, hk.goal hc]
      cases hx : bt o c
      · rfl
      · have hm := (hX c hx).2
        have hgc := (mv_g ho hc hm).2
        rw [if_pos hm]
        have : decide (sg (gof S c) = sg b) = decide (gof S c = b) := dec_iff (sg_inj (by omega) (by omega))
        rw [this]
    cases hf : fd (jAtP L J b) 0 16 with
    | none =>
      have := fd_none hf a (by omega) (by omega)
      rw [hP a ha, hxa, decide_eq_true hg] at this
      simp at this
      rw [this]; rfl
    | some c =>
      obtain ⟨h1, h2, h3⟩ := fd_some hf
      rw [hP c (by omega)] at h3
      simp at h3
      have : c = a := hu c a h3.1.1 hxa (by rw [h3.2, hg])
      subst this
      rw [h3.1.2]; rfl
  · rw [e10]
    exact ((rd b hb).2 (fun x => by rw [hd] at x; exact absurd x.2 (by decide))).2.2
  · have e4 : cOut U J L S 4 = osit (fun a W => stCN (jFail L J) a W) 0 16 (cset (cOut1 U J L S) 4 fun _ => (0 : Int32)) 4 := by
      unfold cOut cOut4 cOut3 cOut2
      rw [cset_ne (by omega), cset_ne (by omega), cset_ne (by omega)]
    rw [e4, c2 j hj, jFail_bt hk ho w hj, cset_ne (by omega), e6]
  · have : cOut U J L S 15 (6 * a + v) = exV L J ((6 * a + v) / 6) ((6 * a + v) % 6) := by
      unfold cOut cOut4
      rw [cset_eq, fl_in (by omega)]
    rw [this, show (6 * a + v) / 6 = a by omega, show (6 * a + v) % 6 = v by omega]
    exact exV_eq hk ho w ha hv
end
