/-! the law's own steps (17): retreats -/
theorem endS_ph {C T : Nat → Nat → Int32} {np t : Nat} : ¬ endS C T np t false 0 0 = 1 := by
  unfold endS
  rw [if_neg (by decide)]
  split
  · show ¬ endT C (ctr C T) np 0 0 = 1
    unfold endT
    split
    · show ¬ (2 : Int32) = 1
      decide
    · rw [begun_0]; decide
  · rw [begun_0]; decide
def aln (S : Nat → Nat → Int32) (n a : Nat) : Bool := !decide (S 11 a = -1) && !exn (alP S a) n
def lst (S : Nat → Nat → Int32) (n a : Nat) : Bool := ds S a && !aln S n a
section
variable {C S : Nat → Nat → Int32} {n np T : Nat}
theorem crW_2 (hj : stJ C S n np T) (h16 : n ≤ 16) : ∀ i, i ≤ 16 → (crW S i).2 = nI (fb_ct (lst S n) i)
  | 0, _ => rfl
  | i + 1, hi => by
    have ih := crW_2 hj h16 i (by omega)
    rw [crW_succ, fb_ct_succ]
    unfold stCR
    by_cases c1 : S 8 i = -1
    · have : lst S n i = false := by unfold lst ds; rw [decide_eq_true c1]; rfl
      rw [if_pos c1, this, ih]; rfl
    · have hd : ds S i = true := by unfold ds; rw [decide_eq_false c1]; rfl
      rw [if_neg c1]
      by_cases c2 : S 11 i = -1
      · have : lst S n i = true := by unfold lst aln; rw [hd, decide_eq_true c2]; rfl
        rw [if_pos c2, this, ih]; exact nI_sum (b := 1) rfl rfl
      · rw [if_neg c2]
        have ha := al_ct hj h16 (show i < 16 by omega) c2
        by_cases c3 : nI (ct (S 11) (S 11 i)) = 1
        · rw [decide_eq_true c3] at ha
          have : lst S n i = false := by unfold lst aln; rw [hd, decide_eq_false c2, ← ha]; rfl
          rw [if_pos c3, this, ih]; rfl
        · rw [decide_eq_false c3] at ha
          have : lst S n i = true := by unfold lst aln; rw [hd, decide_eq_false c2, ← ha]; rfl
          rw [if_neg c3, this, ih]; exact nI_sum (b := 1) rfl rfl
theorem crW_uu : ∀ i, i ≤ 16 → ∀ b, uu (crW S i).1 b = true → uu S b = true ∨ ∃ a, a < i ∧ ds S a = true ∧ ¬ S 11 a = -1 ∧ tn (S 11 a) = b
  | 0, _, b, h => Or.inl h
  | i + 1, hi, b, h => by
    have ih := crW_uu i (by omega) b
    have up : uu (crW S i).1 b = true → uu S b = true ∨ ∃ a, a < i + 1 ∧ ds S a = true ∧ ¬ S 11 a = -1 ∧ tn (S 11 a) = b := fun q => by
      rcases ih q with q | ⟨a, h1, h2⟩
      · exact Or.inl q
      · exact Or.inr ⟨a, by omega, h2⟩
    rw [crW_succ] at h
    unfold stCR at h
    by_cases c1 : S 8 i = -1
    · rw [if_pos c1] at h; exact up h
    · rw [if_neg c1] at h
      by_cases c2 : S 11 i = -1
      · rw [if_pos c2] at h; exact up h
      · rw [if_neg c2] at h
        by_cases c3 : nI (ct (S 11) (S 11 i)) = 1
        · rw [if_pos c3] at h
          have h : uu (placed (crW S i).1 (tn (S 11 i)) (S 8 i) (S 9 i)) b = true := h
          rw [uu_placed] at h
          by_cases e : b = tn (S 11 i)
          · exact Or.inr ⟨i, by omega, by unfold ds; rw [decide_eq_false c1]; rfl, c2, e.symm⟩
          · rw [if_neg e] at h; exact up h
        · rw [if_neg c3] at h; exact up h
theorem crW_ct (hj : stJ C S n np T) (h16 : n ≤ 16) (hf : ∀ a, a < 16 → ds S a = true → ¬ S 11 a = -1 → uu S (tn (S 11 a)) = false) : ∀ i, i ≤ 16 → fb_ct (uu (crW S i).1) 16 + fb_ct (lst S n) i = fb_ct (uu S) 16 + fb_ct (ds S) i
  | 0, _ => rfl
  | i + 1, hi => by
    have ih := crW_ct hj h16 hf i (by omega)
    rw [crW_succ, fb_ct_succ (lst S n) i, fb_ct_succ (ds S) i]
    unfold stCR
    by_cases c1 : S 8 i = -1
    · have hd : ds S i = false := by unfold ds; rw [decide_eq_true c1]; rfl
      have : lst S n i = false := by unfold lst; rw [hd]; rfl
      rw [if_pos c1, this, hd]; exact ih
    · have hd : ds S i = true := by unfold ds; rw [decide_eq_false c1]; rfl
      rw [if_neg c1]
      by_cases c2 : S 11 i = -1
      · have : lst S n i = true := by unfold lst aln; rw [hd, decide_eq_true c2]; rfl
        rw [if_pos c2, this, hd, if_pos rfl]
        show fb_ct (uu (crW S i).1) 16 + _ = _
        omega
      · rw [if_neg c2]
        have ha := al_ct hj h16 (show i < 16 by omega) c2
        by_cases c3 : nI (ct (S 11) (S 11 i)) = 1
        · rw [decide_eq_true c3] at ha
          have : lst S n i = false := by unfold lst aln; rw [hd, decide_eq_false c2, ← ha]; rfl
          rw [if_pos c3, this, hd, if_pos rfl]
          have ht := hj.rt i (by omega) c2
          have nu : uu (crW S i).1 (tn (S 11 i)) = false := by
            cases q : uu (crW S i).1 (tn (S 11 i))
            · rfl
            · rcases crW_uu i (by omega) _ q with r | ⟨a, a1, a2, a3, a4⟩
              · rw [hf i (by omega) hd c2] at r; cases r
              · have e : S 11 a = S 11 i := by rw [(hj.rt a (by omega) a3).1, a4, ← ht.1]
                have han : a < n := (hj.d a (by omega) a2).1
                have : exn (alP S i) n = true := exn_iff.mpr ⟨a, han, by unfold alP; rw [decide_eq_false (show ¬ a = i by omega), a2, decide_eq_true e]; rfl⟩
                rw [this] at ha; cases ha
          have hp : (!decide (S 8 i = -1)) = true := by rw [decide_eq_false c1]; rfl
          have e2 := fb_ct_upd (uu (crW S i).1) (!decide (S 8 i = -1)) (i := tn (S 11 i)) (n := 16) (by omega)
          rw [hp, nu, if_neg (by decide), if_pos rfl, Nat.add_zero] at e2
          have e1 : fb_ct (uu (placed (crW S i).1 (tn (S 11 i)) (S 8 i) (S 9 i))) 16 = fb_ct (fun k => if k = tn (S 11 i) then true else uu (crW S i).1 k) 16 := fb_ct_cong (fun k _ => by rw [uu_placed, hp])
          show fb_ct (uu (placed (crW S i).1 (tn (S 11 i)) (S 8 i) (S 9 i))) 16 + (fb_ct (lst S n) i + 0) = _
          rw [e1, e2]
          omega
        · rw [decide_eq_false c3] at ha
          have : lst S n i = true := by unfold lst aln; rw [hd, decide_eq_false c2, ← ha]; rfl
          rw [if_neg c3, this, hd, if_pos rfl]
          show fb_ct (uu (crW S i).1) 16 + _ = _
          omega
/-- as the law asks whether it goes alone -/
theorem aln_eq (hj : stJ C S n np T) (h16 : n ≤ 16) {a : Nat} : aln S n a = (!decide (S 11 a = -1) && !exn (fun c => !decide (c = a) && decide (S 11 c = S 11 a)) n) := by
  unfold aln
  by_cases c : S 11 a = -1
  · rw [decide_eq_true c]; rfl
  · rw [decide_eq_false c]
    congr 2
    refine exn_cong (fun b hb => ?_)
    unfold alP
    by_cases e : S 11 b = S 11 a
    · have : ds S b = true := by
        cases q : ds S b
        · have := (hj.nd b (by omega) q).2
          rw [e] at this; exact absurd this c
        · rfl
      rw [this, Bool.true_and]
    · rw [decide_eq_false e, Bool.and_false]
end
section
variable {G : osG} {z : osS} {N x k n np T i b : Nat} {ad : Nat → Nat} {W : Nat → Nat → Nat → Int32} {Q : Int32 → osS → Prop} {to : Nat → Int32} {c15 : Nat × Nat × Int32 × Nat × Int32 × Int32 → osM Int32}
theorem r_117 (h : LW z x ad W n np T) (ph : W 3 0 0 = 1) (hn : ∀ k, k < n → W 1 5 k = nI (k + 1)) (hi : i < n) (hb : b < n) (hd : ds (W 3) i = true) (hk : x + 130 ≤ k) (hs : ∃ q, z.2 = some q ∧ k < q) (hz : z.1 k = some (.inl (0, (n, .inl to)))) (hI : osInj G) (hA : G.2.2.1 ≤ x) (hN : 5000 < N)
    (kk : ∀ z' ad' W' v, LW z' x ad' W' n np T → W' 1 = W 1 → (∃ q, z'.2 = some q ∧ k < q) → z'.1 k = some (.inl (0, (n, .inl (upd to i v)))) → ((v = -1 ∧ W' 3 = W 3) ∨ (aRt (W 1) (W 3) i b = true ∧ v = nI b ∧ ∃ U, sE (W 3) U ∧ W' 3 = cset U 11 (upd (U 11) i (nI b)))) → gx (c15 (x, x + 129, nI n, k, (1 : Int32), nI (i + 1)) G z') Q) :
    gx (qL_retreats_117 N c15 x (x + 129) (nI n) k (nI i) (nI b) (b2i (aRt (W 1) (W 3) i b)) G z) Q := by
  have h16 := h.n16
  obtain ⟨q0, hq0, hkq⟩ := hs
  have wr : ∀ {z' ad' W' v}, LW z' x ad' W' n np T → W' 1 = W 1 → fL x z z' → ((v = -1 ∧ W' 3 = W 3) ∨ (aRt (W 1) (W 3) i b = true ∧ v = nI b ∧ ∃ U, sE (W 3) U ∧ W' 3 = cset U 11 (upd (U 11) i (nI b)))) → gx (qL_retreats_206 N c15 x (x + 129) (nI n) k (1 : Int32) (nI i) v (nI i) k G z') Q := fun {z' ad' W' v} h' e1 f hv => by
    obtain ⟨f1, k1, k2, e2, e3, l⟩ := f
    rw [hq0] at e2
    cases e2
    unfold qL_retreats_206 qL_retreats_207
    refine gx_sN (i := i) ((f1 k q0 hq0 hkq (Or.inr hk)).trans hz) hi (by omega) (by omega) ?_
    rw [nI_1]
    exact kk _ ad' W' v (h'.far (fun c c1 c2 => osup_ne (by omega) rfl) h'.sz) e1 ⟨k2, e3, by omega⟩ osup_eq hv
  unfold qL_retreats_117 qL_retreats_122
  refine gx_itef (by decide) (t_to h hA hI (by omega) (by omega) rfl rfl (fun z2 s lo h2 f2 hlo hs => gx_bind ?_))
  refine q_L_tell (F := aRt (W 1) (W 3) i b = false) (R := fun r S' => r = 1 ∧ aRt (W 1) (W 3) i b = true ∧ ∃ U, sE (W 3) U ∧ S' = cset U 11 (upd (U 11) i (nI b))) h2 hs hlo hI hA hN (fun b' W1 z3 D U C E hb' e1 cx h3 t3 hsE => ?_) (fun v S' q => ?_) (fun z3 W1 hF f3 h3 ky e3 => ?_) (fun z3 ad3 W3 v f3 h3 ky q => ?_)
  · have eA : aRt (W1 1) U i b = aRt (W 1) (W 3) i b := by rw [e1]; exact sE_aRt hsE (by omega) (by omega)
    refine gx_mono (x_retreat (a := i) (c := b) cx h3 t3 (fun k hk => by rw [Nat.zero_add]; exact hb' k hk) (by rw [e1]; exact hn) hi hb (by rw [hsE.1 0 (by omega)]; exact ph) (by rw [sE_ds hsE (by omega)]; exact hd)) (fun r z4 ⟨S', C', E', q1, q2⟩ => ⟨S', C', E', q1, ?_⟩)
    rcases q2 with ⟨q, q3⟩ | ⟨q, q3, q4, q5⟩
    · exact Or.inl ⟨q, by rw [← eA]; exact q3⟩
    · exact Or.inr ⟨q, q3, by rw [← eA]; exact q4, U, hsE, q5⟩
  · obtain ⟨_, _, U, hsE, rfl⟩ := q
    exact stI_rt (stI_sE hsE h16 h.i.i) (by rw [sE_ds hsE (by omega)]; exact hd) (Or.inr ⟨b, hb, rfl⟩) h16
  · refine gx_itef (by decide) ?_
    unfold qL_retreats_180 qL_retreats_190
    rw [hF]
    exact gx_itet rfl (gx_itet rfl (wr h3 ky.1 (f2.tr f3) (Or.inl ⟨rfl, e3⟩)))
  · obtain ⟨q1, q2, q3⟩ := q
    refine gx_itet q1 ?_
    unfold qL_retreats_180 qL_retreats_190
    rw [q2]
    exact gx_itet rfl (gx_itef (by decide) (wr h3 ky.1 (f2.tr f3) (Or.inr ⟨q2, rfl, q3⟩)))
/-- all that a retreat told leaves as it was -/
def rtE (S S' : Nat → Nat → Int32) : Prop := (∀ k, k < 5 → S' k 0 = S k 0) ∧ ∀ k, 5 ≤ k → k < 15 → ¬ k = 11 → ∀ a, a < 16 → S' k a = S k a
theorem r_219 (h : LW z x ad W n np T) (ph : W 3 0 0 = 1) (h12 : n ≤ 12) (hT : T < 4500) (hz : z.1 k = some (.inl (0, (n, .inl to)))) (ht : ∀ a, a < n → to a = W 3 11 a) (hf : ∀ a, a < 16 → ds (W 3) a = true → ¬ W 3 11 a = -1 → uu (W 3) (tn (W 3 11 a)) = false) (hA : G.2.2.1 ≤ x) (hN : 5000 < N)
    (kk : ∀ z' ad' W', LW z' x ad' W' n np (T + 1) → W' 1 = W 1 → ¬ W' 3 0 0 = 1 → Q 1 z') : gx (qL_retreats_213 N x (nI n) k (1 : Int32) G z) Q := by
  have h16 := h.n16
  have hj := h.i.i.j
  unfold qL_retreats_213 qL_retreats_219
  refine gx_loop n (fun a p z' => p = (x, nI n, k, (1 : Int32), nI (fb_ct (lst (W 3) n) a), nI a) ∧ z' = z) ?_ ?_ 13 0 _ z (Nat.zero_le _) (by omega) ⟨rfl, rfl⟩
  · rintro ih a p z' ha ⟨rfl, rfl⟩ kc
    show gx (bL_retreats_219 N ih x (nI n) k (1 : Int32) (nI (fb_ct (lst (W 3) n) a)) (nI a) G z') _
    unfold bL_retreats_219 qL_retreats_238 qL_retreats_243
    have inner : ∀ v0 : Int32, v0 = b2i (!decide (W 3 11 a = -1)) → gx (osloop (fun ih2 p => bL_retreats_243 N ih ih2 p.1 p.2.1 p.2.2.1 p.2.2.2.1 p.2.2.2.2.1 p.2.2.2.2.2.1 p.2.2.2.2.2.2.1 p.2.2.2.2.2.2.2) 13 (x, nI n, k, (1 : Int32), nI (fb_ct (lst (W 3) n) a), nI a, v0, (0 : Int32)) G z') Q := fun v0 hv0 => by
      refine gx_loop n (fun c p z2 => p = (x, nI n, k, (1 : Int32), nI (fb_ct (lst (W 3) n) a), nI a, b2i (!decide (W 3 11 a = -1) && !exn (fun c => !decide (c = a) && decide (W 3 11 c = W 3 11 a)) c), nI c) ∧ z2 = z') ?_ ?_ 13 0 _ z' (Nat.zero_le _) (by omega) ⟨by rw [hv0, show exn (fun c => !decide (c = a) && decide (W 3 11 c = W 3 11 a)) 0 = false from rfl, Bool.not_false, Bool.and_true]; rfl, rfl⟩
      · rintro ih2 c p z2 hc ⟨rfl, rfl⟩ k2
        show gx (bL_retreats_243 N ih ih2 x (nI n) k (1 : Int32) (nI (fb_ct (lst (W 3) n) a)) (nI a) (b2i (!decide (W 3 11 a = -1) && !exn (fun c => !decide (c = a) && decide (W 3 11 c = W 3 11 a)) c)) (nI c) G z2) _
        unfold bL_retreats_243 qL_retreats_272 qL_retreats_276 qL_retreats_277
        have nx : exn (fun c => !decide (c = a) && decide (W 3 11 c = W 3 11 a)) (c + 1) = (exn (fun c => !decide (c = a) && decide (W 3 11 c = W 3 11 a)) c || (!decide (c = a) && decide (W 3 11 c = W 3 11 a))) := rfl
        refine gx_itef (nI_nleE (a := n) (b := c) rfl rfl hc (by omega)) (gx_iteB (fun e => k2 _ _ ⟨?_, rfl⟩) (fun e => gx_ite (fun e2 => k2 _ _ ⟨?_, rfl⟩) (fun e2 => gx_aN (i := a) hz ha (by omega) (gx_aN (i := c) hz hc (by omega) (gx_ite (fun e3 => k2 _ _ ⟨?_, rfl⟩) (fun e3 => k2 _ _ ⟨?_, rfl⟩))))))
        · rw [nI_1, nx, Bool.not_or, ← Bool.and_assoc, e]; rfl
        · have : c = a := ((nI_eq (by omega) (by omega)).mp e2).symm
          rw [nI_1, nx, Bool.not_or, ← Bool.and_assoc, e, decide_eq_true this]; rfl
        · rw [ht a ha, ht c hc] at e3
          have hne : ¬ c = a := fun q => e2 (by rw [q])
          rw [nI_1, nx, Bool.not_or, ← Bool.and_assoc, e, decide_eq_false hne, decide_eq_true e3.symm]; rfl
        · rw [ht a ha, ht c hc] at e3
          rw [nI_1, nx, Bool.not_or, ← Bool.and_assoc, e, decide_eq_false (show ¬ W 3 11 c = W 3 11 a from fun q => e3 q.symm), Bool.and_false]; rfl
      · rintro ih2 p z2 ⟨rfl, rfl⟩
        show gx (bL_retreats_243 N ih ih2 x (nI n) k (1 : Int32) (nI (fb_ct (lst (W 3) n) a)) (nI a) (b2i (!decide (W 3 11 a = -1) && !exn (fun c => !decide (c = a) && decide (W 3 11 c = W 3 11 a)) n)) (nI n) G z2) _
        rw [← aln_eq hj h16]
        unfold bL_retreats_243 qL_retreats_308 qL_retreats_309
        have nx : fb_ct (lst (W 3) n) (a + 1) = fb_ct (lst (W 3) n) a + (if lst (W 3) n a = true then 1 else 0) := fb_ct_succ _ _
        refine gx_itet ((nI_leI (by omega) (by omega)).mpr (Nat.le_refl _)) (l_area (a := a) (c := 6) h.w h.c0 h16 ha (by omega) (by omega) rfl rfl (gx_ite (fun e => kc _ _ ⟨?_, rfl⟩) (fun e => gx_iteB (fun e2 => kc _ _ ⟨?_, rfl⟩) (fun e2 => kc _ _ ⟨?_, rfl⟩))))
        · have : lst (W 3) n a = false := by unfold lst ds; rw [decide_eq_true (show W 3 8 a = -1 from e)]; rfl
          rw [nI_1, nx, this, show nI (fb_ct (lst (W 3) n) a) + (0 : Int32) = nI (fb_ct (lst (W 3) n) a + 0) from nI_sum (b := 0) rfl rfl]; rfl
        · have : lst (W 3) n a = true := by unfold lst ds; rw [decide_eq_false (show ¬ W 3 8 a = -1 from e), e2]; rfl
          rw [nI_1, nI_1, nx, this]; rfl
        · have : lst (W 3) n a = false := by unfold lst; rw [e2, Bool.not_true, Bool.and_false]
          rw [nI_1, nx, this, show nI (fb_ct (lst (W 3) n) a) + (0 : Int32) = nI (fb_ct (lst (W 3) n) a + 0) from nI_sum (b := 0) rfl rfl]; rfl
    refine gx_itef (nI_nleE (a := n) (b := a) rfl rfl ha (by omega)) (gx_aN (i := a) hz ha (by omega) (gx_ite (fun e => inner 0 ?_) (fun e => inner 1 ?_)))
    · rw [ht a ha] at e; rw [decide_eq_true e]; rfl
    · rw [ht a ha] at e; rw [decide_eq_false e]; rfl
  · rintro ih p z' ⟨rfl, rfl⟩
    show gx (bL_retreats_219 N ih x (nI n) k (1 : Int32) (nI (fb_ct (lst (W 3) n) n)) (nI n) G z') _
    unfold bL_retreats_219 qL_retreats_371
    have hl : fb_ct (lst (W 3) n) 16 = fb_ct (lst (W 3) n) n := fb_cutN 16 h16 (fun j j1 j2 => by
      unfold lst
      cases q : ds (W 3) j
      · rfl
      · have := (hj.d j j2 q).1
        omega)
    have hD : fb_ct (ds (W 3)) 16 = fb_ct (ds (W 3)) n := fb_cutN 16 h16 (fun j j1 j2 => by
      cases q : ds (W 3) j
      · rfl
      · have := (hj.d j j2 q).1
        omega)
    have hU : fb_ct (uu (W 3)) 16 = fb_ct (uu (W 3)) n := fb_cutN 16 h16 (fun j j1 j2 => by
      cases q : uu (W 3) j
      · rfl
      · have := (hj.u j j2 q).1
        omega)
    refine gx_itet ((nI_leI (by omega) (by omega)).mpr (Nat.le_refl _)) (gx_callE (q_L_units h.w h.c0 h12) (gx_callE (q_L_aside h.w h.c0 h12) (gx_itef (by decide) (l_endRetreats h ph (by omega) hA hN (fun z2 ad2 W2 t f2 h2 e1 e3 => ?_)))))
    have e3' : W2 3 = endS (W 1) (retS (W 3)) np t false := by rw [e3]; rfl
    have k6 : W2 3 6 = (crW (W 3) 16).1 6 := by rw [e3', endS_k (by omega) (by omega) (by omega) (by omega) (by omega) (by omega)]; exact ret_k (by omega)
    have hct := crW_ct hj h16 hf 16 (Nat.le_refl _)
    have hU2 : fb_ct (uu (W2 3)) 16 = fb_ct (uu (W2 3)) n := fb_cutN 16 h16 (fun j j1 j2 => by
      cases q : uu (W2 3) j
      · rfl
      · have := (h2.i.i.j.u j j2 q).1
        omega)
    have hUe : fb_ct (uu (W2 3)) 16 = fb_ct (uu (crW (W 3) 16).1) 16 := fb_ct_cong (fun j _ => by unfold uu; rw [k6])
    have hz0 : fb_ct (ds (W2 3)) n = 0 := fb_ct_zero.mpr (fun j hj => by
      unfold ds
      rw [e3', endS_k (by omega) (by omega) (by omega) (by omega) (by omega) (by omega), (ret_m (show j < 16 by omega)).1]; rfl)
    refine gx_itet (by rw [crW_2 hj h16 16 (Nat.le_refl _), hl]) (gx_callE (q_L_aside h2.w h2.c0 h12) (gx_itet (by rw [hz0]; rfl) (gx_callE (q_L_units h2.w h2.c0 h12) (gx_itet ?_ (gx_retZ (Or.inr rfl) (kk z2 ad2 W2 h2 e1 (by rw [e3']; exact endS_ph)))))))
    rw [nI_add, nI_sub (by omega)]
    congr 1
    omega
/-- the law's retreats -/
theorem q_L_retreats (h : LW z x ad W n np T) (ph : W 3 0 0 = 1) (hn : ∀ k, k < n → W 1 5 k = nI (k + 1)) (h12 : n ≤ 12) (hT : T < 4500) (h2s : ¬ W 3 2 0 = 0) (h11 : ∀ a, a < 16 → W 3 11 a = -1) (hI : osInj G) (hA : G.2.2.1 ≤ x) (hN : 5000 < N)
    (kk : ∀ z' ad' W', LW z' x ad' W' n np (T + 1) → W' 1 = W 1 → ¬ W' 3 0 0 = 1 → Q 1 z') : gx (qL_retreats N x (x + 129) G z) Q := by
  have h16 := h.n16
  obtain ⟨k, hk, hkx⟩ := h.sz
  unfold qL_retreats
  refine l_areas h.w h.c0 (gx_newIn hk (by omega) (by omega) (by omega) (fun z1 d1 n1 f1 => ?_))
  have L1 : LW z1 x ad W n np T := h.far (fun c c1 c2 => n1 c (by omega)) ⟨_, f1, by omega⟩
  unfold qL_retreats_15
  refine gx_loop n (fun i p z' => p = (x, x + 129, nI n, k, (1 : Int32), nI i) ∧ ∃ ad' W' to, LW z' x ad' W' n np T ∧ W' 1 = W 1 ∧ rtE (W 3) (W' 3) ∧ (∃ q, z'.2 = some q ∧ k < q) ∧ z'.1 k = some (.inl (0, (n, .inl to))) ∧ (∀ a, a < i → to a = W' 3 11 a) ∧ (∀ a, i ≤ a → a < 16 → W' 3 11 a = -1) ∧ ∀ a, a < 16 → ds (W' 3) a = true → ¬ W' 3 11 a = -1 → uu (W' 3) (tn (W' 3 11 a)) = false) ?_ ?_ 13 0 _ z1 (Nat.zero_le _) (by omega) ⟨rfl, ad, W, fun _ => 0, L1, rfl, ⟨fun _ _ => rfl, fun _ _ _ _ _ _ => rfl⟩, ⟨_, f1, by omega⟩, d1, fun a q => by omega, fun a _ ha => h11 a ha, fun a ha _ q => absurd (h11 a ha) q⟩
  · rintro ih i p z' hi ⟨rfl, ad', W', to, h', e1, er, ⟨q, hq, hq2⟩, hz, t1, t2, t3⟩ kc
    show gx (bL_retreats_15 N ih x (x + 129) (nI n) k (1 : Int32) (nI i) G z') _
    have p1 : W' 3 0 0 = 1 := (er.1 0 (by omega)).trans ph
    have p2 : ¬ W' 3 2 0 = 0 := by rw [er.1 2 (by omega)]; exact h2s
    unfold bL_retreats_15
    refine gx_itef (nI_nleE (a := n) (b := i) rfl rfl hi (by omega)) (gx_itef (by decide) (gx_sN (i := i) hz hi (by omega) (by omega) ?_))
    have L2 : LW (osup z' k (.inl (0, (n, .inl (upd to i (-1)))))) x ad' W' n np T := h'.far (fun c c1 c2 => osup_ne (by omega) rfl) h'.sz
    have to1 : ∀ a, a < i + 1 → upd to i (-1) a = W' 3 11 a := fun a ha => by
      by_cases e : a = i
      · subst e; rw [upd_eq]; exact (t2 a (Nat.le_refl _) (by omega)).symm
      · rw [upd_ne e]; exact t1 a (by omega)
    refine l_area (a := i) (c := 6) L2.w L2.c0 h16 hi (by omega) (by omega) rfl rfl (gx_ite (fun c => ?_) (fun c => ?_))
    · unfold qL_retreats_207
      rw [nI_1]
      exact kc _ _ ⟨rfl, ad', W', _, L2, e1, er, ⟨q, hq, hq2⟩, osup_eq, to1, fun a ha h => t2 a (by omega) h, t3⟩
    · have hd : ds (W' 3) i = true := by unfold ds; rw [decide_eq_false (show ¬ W' 3 8 i = -1 from c)]; rfl
      refine l_next L2 hA (fun z3 m hm h3 f3 => gx_guard (fun q => by have := (nI_00 (by omega)).mp q; omega) ?_)
      rw [nI_rem (by omega) (by omega) (by omega)]
      have hb : m % n < n := Nat.mod_lt _ (by omega)
      generalize m % n = b at hb
      obtain ⟨g1, q1, q2, g2, g3, g4⟩ := f3
      have g2' : z'.2 = some q1 := g2
      rw [hq] at g2'
      cases g2'
      have hz3 : z3.1 k = some (.inl (0, (n, .inl (upd to i (-1))))) := (g1 k q g2 hq2 (Or.inr hkx)).trans osup_eq
      have r117 : gx (qL_retreats_117 N ih x (x + 129) (nI n) k (nI i) (nI b) (b2i (aRt (W' 1) (W' 3) i b)) G z3) Q := by
        refine r_117 h3 p1 (by rw [e1]; exact hn) hi hb hd hkx ⟨q2, g3, by omega⟩ hz3 hI hA hN (fun z4 ad4 W4 v h4 e4 s4 hz4 hv => kc _ _ ⟨rfl, ad4, W4, _, h4, e4.trans e1, ?_, s4, hz4, fun a ha => ?_, fun a a1 a2 => ?_, fun a a1 a2 a3 => ?_⟩)
        · rcases hv with ⟨_, e⟩ | ⟨_, _, U, hsE, e⟩
          · rw [e]; exact er
          · rw [e]
            exact ⟨fun r hr => by rw [cset_ne (by omega), hsE.1 r hr]; exact er.1 r hr, fun r r1 r2 r3 a ha => by rw [cset_ne r3, hsE.2.1 r r1 r2 a ha]; exact er.2 r r1 r2 r3 a ha⟩
        · rcases hv with ⟨ev, e⟩ | ⟨_, ev, U, hsE, e⟩
          · rw [e, ev]
            by_cases q : a = i
            · subst q; rw [upd_eq]; exact (t2 a (Nat.le_refl _) (by omega)).symm
            · rw [upd_ne q]; exact to1 a ha
          · rw [e, ev]
            show _ = upd (U 11) i (nI b) a
            by_cases q : a = i
            · subst q; rw [upd_eq, upd_eq]
            · rw [upd_ne q, upd_ne q, upd_ne q, hsE.2.1 11 (by omega) (by omega) a (by omega)]; exact t1 a (by omega)
        · rcases hv with ⟨_, e⟩ | ⟨_, _, U, hsE, e⟩
          · rw [e]; exact t2 a (by omega) a2
          · rw [e]
            show upd (U 11) i (nI b) a = _
            rw [upd_ne (by omega), hsE.2.1 11 (by omega) (by omega) a a2]; exact t2 a (by omega) a2
        · rcases hv with ⟨_, e⟩ | ⟨hR, _, U, hsE, e⟩
          · rw [e] at a2 a3 ⊢; exact t3 a a1 a2 a3
          · rw [e] at a2 a3 ⊢
            have a2' : ds U a = true := a2
            rw [sE_ds hsE a1] at a2'
            have a3' : ¬ upd (U 11) i (nI b) a = -1 := a3
            show (!decide (U 6 (tn (upd (U 11) i (nI b) a)) = -1)) = false
            by_cases q : a = i
            · subst q
              rw [upd_eq, show tn (nI b) = b from nI_clamp (by omega), hsE.2.1 6 (by omega) (by omega) b (by omega)]
              unfold aRt at hR
              simp only [Bool.and_eq_true] at hR
              rw [hR.2.2.1]; rfl
            · rw [upd_ne q, hsE.2.1 11 (by omega) (by omega) a a1] at a3' ⊢
              have := (h'.i.i.j.rt a a1 a3').2
              rw [hsE.2.1 6 (by omega) (by omega) _ (by omega)]
              exact t3 a a1 a2' a3'
      refine gx_bind (q_L_may h3.w h3.c0 h16 hi hb hd rfl rfl ?_)
      refine gx_iteB (fun _ => r117) (fun hR => ?_)
      have hR2 := hR
      unfold aRt at hR2
      simp only [Bool.and_eq_true] at hR2
      obtain ⟨_, R2, R3, R4, _⟩ := hR2
      refine l_area (a := b) (c := 4) h3.w h3.c0 h16 hb (by omega) (by omega) rfl rfl (gx_itet (show W' 3 6 b = -1 from of_decide_eq_true R3) (l_isContested (a := b) h3.w h3.c0 h16 hb p2 rfl ?_))
      have R4' : bt (W' 3 4 0) b = false := by simpa using R4
      rw [R4']
      refine gx_itet rfl (l_area (a := i) (c := 7) h3.w h3.c0 h16 hi (by omega) (by omega) rfl rfl ?_)
      have h9 := (h'.i.i.j.d i (by omega) hd).2.2
      refine gx_ite (fun c9 => ?_) (fun c9 => ?_)
      · unfold qL_retreats_111
        have c9 : W' 3 9 i = 1 := c9
        rw [c9] at R2
        refine l_passes (a := i) (b := b) h3.w h3.c0 h16 hi hb (Or.inr rfl) rfl rfl ?_
        rw [R2]
        exact gx_itef (by decide) r117
      · unfold qL_retreats_111
        have c9' : W' 3 9 i = 0 := by
          rcases h9 with q | q
          · exact q
          · exact absurd q c9
        rw [c9'] at R2
        refine l_passes (a := i) (b := b) h3.w h3.c0 h16 hi hb (Or.inl rfl) rfl rfl ?_
        rw [R2]
        exact gx_itef (by decide) r117
  · rintro ih p z' ⟨rfl, ad', W', to, h', e1, er, s, hz, t1, t2, t3⟩
    show gx (bL_retreats_15 N ih x (x + 129) (nI n) k (1 : Int32) (nI n) G z') _
    unfold bL_retreats_15
    refine gx_itet ((nI_leI (by omega) (by omega)).mpr (Nat.le_refl _)) ?_
    exact r_219 h' ((er.1 0 (by omega)).trans ph) h12 hT hz t1 t3 hA hN (fun z2 ad2 W2 h2 q q2 => kk z2 ad2 W2 h2 (q.trans e1) q2)
end
