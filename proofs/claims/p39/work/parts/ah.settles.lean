/-! the law's own steps (15): a settling watched: the whole -/
section
variable {C S T T' : Nat → Nat → Int32} {n np t : Nat} {d : Bool} {v : Int32} {sea : Bool} {X : Nat → Bool}
theorem endS_k {k : Nat} (h0 : ¬ k = 0) (h1 : ¬ k = 1) (h5 : ¬ k = 5) (h12 : ¬ k = 12) (h13 : ¬ k = 13) (h14 : ¬ k = 14) : endS C T np t d k = T k := by
  unfold endS
  split
  · exact cset_ne h0
  · split
    · show endT C (ctr C T) np k = _
      unfold endT
      split
      · rw [cset_ne h0]; exact ctr_k h5
      · rw [begun_k h0 h1 h12 h13 h14]; exact ctr_k h5
    · exact begun_k h0 h1 h12 h13 h14
theorem bld_cong {p : Int32} (h5 : ∀ a, a < 16 → T 5 a = T' 5 a) (h6 : ∀ a, a < 16 → T 6 a = T' 6 a) : bld C T p = bld C T' p := by
  have e1 : ct (T 6) p = ct (T' 6) p := ct_cong h6 p
  have e2 : ct (T 5) p = ct (T' 5) p := ct_cong h5 p
  have e3 : fb_ct (fhP C T p) 16 = fb_ct (fhP C T' p) 16 := fb_ct_cong (fun i hi => by unfold fhP; rw [h5 i hi, h6 i hi])
  have e4 : nu T = nu T' := by unfold nu; rw [ct_cong h6]
  unfold bld
  rw [e1, e2, e3, e4]
/-- the rows that the law sums -/
def eqR (T T' : Nat → Nat → Int32) : Prop := T 0 0 = T' 0 0 ∧ T 1 0 = T' 1 0 ∧ ∀ k, 5 ≤ k → k ≤ 9 → ∀ a, a < 16 → T k a = T' k a
theorem begun_R (h : eqR T T') : eqR (begun T) (begun T') := ⟨by rw [begun_0, begun_0], by rw [begun_1, begun_1, h.2.1], fun k h5 h9 a ha => by
  rw [begun_k (by omega) (by omega) (by omega) (by omega) (by omega), begun_k (by omega) (by omega) (by omega) (by omega) (by omega)]; exact h.2.2 k h5 h9 a ha⟩
theorem ctr_R (h : eqR T T') : eqR (ctr C T) (ctr C T') := ⟨by rw [ctr_k (by omega), ctr_k (by omega)]; exact h.1, by rw [ctr_k (by omega), ctr_k (by omega)]; exact h.2.1, fun k h5 h9 a ha => by
  by_cases e : k = 5
  · subst e
    rw [ctr_5 ha, ctr_5 ha, h.2.2 6 (by omega) (by omega) a ha, h.2.2 5 (by omega) (by omega) a ha]
  · rw [ctr_k e, ctr_k e]; exact h.2.2 k h5 h9 a ha⟩
theorem set0_R {p : Int32} (h : eqR T T') : eqR (cset T 0 fun _ => p) (cset T' 0 fun _ => p) := ⟨rfl, h.2.1, fun k h5 h9 a ha => by rw [cset_ne (by omega), cset_ne (by omega)]; exact h.2.2 k h5 h9 a ha⟩
theorem endS_R (h : eqR T T') : eqR (endS C T np t d) (endS C T' np t d) := by
  unfold endS
  split
  · exact set0_R h
  · split
    · show eqR (endT C (ctr C T) np) (endT C (ctr C T') np)
      have hc := ctr_R (C := C) h
      have e : (fun p => !decide (bld C (ctr C T) (nI p) = 0)) = (fun p => !decide (bld C (ctr C T') (nI p) = 0)) := funext fun p => by
        rw [bld_cong (hc.2.2 5 (by omega) (by omega)) (hc.2.2 6 (by omega) (by omega))]
      unfold endT
      rw [e]
      split
      · exact set0_R hc
      · exact begun_R hc
    · exact begun_R h
theorem coT_R (h : coT C S T sea X v) (h' : coT C S T' sea X v) : eqR T T' := by
  refine ⟨?_, ?_, fun k h5 h9 a ha => ?_⟩
  · rw [h.1 0 (by omega), h'.1 0 (by omega)]
  · rw [h.1 1 (by omega), h'.1 1 (by omega)]
  · rcases (show k = 5 ∨ k = 6 ∨ k = 7 ∨ k = 8 ∨ k = 9 by omega) with e | e | e | e | e <;> subst e
    · rw [h.1 5 (by omega), h'.1 5 (by omega)]
    · exact nwR_same h.2.2.2.1 h'.2.2.2.1 ha
    · exact nwR_same h.2.2.2.2.1 h'.2.2.2.2.1 ha
    · rw [(h.2.2.2.2.2.1 a ha).1, (h'.2.2.2.2.2.1 a ha).1]
    · rw [(h.2.2.2.2.2.1 a ha).2.1, (h'.2.2.2.2.2.1 a ha).2.1]
end
section
variable {G : osG} {z : osS} {N x k n np T : Nat} {ad : Nat → Nat} {W : Nat → Nat → Nat → Int32} {C S : Nat → Nat → Int32} {Q : Int32 → osS → Prop} {l5 l6 l8 : Int32}
theorem smV_R {W' : Nat → Nat → Nat → Int32} {m : Nat} (h16 : m ≤ 16) (e1 : W' 1 = W 1) (h : eqR (W' 3) (W 3)) : smV W' m = smV W m := smV_cong h.1 h.2.1 (fun a c ha hc hc8 => by
  unfold arV
  by_cases q : c = 2
  · rw [if_pos q, if_pos q, e1]
  · rw [if_neg q, if_neg q]; exact h.2.2 (c + 2) (by omega) (by omega) a (by omega))
theorem g_176 (h : SX x k n np T z ad W C S) (kk : gx (qL_settles_593 N x l5 l6 l8 (nI (fb_ct (xF C S) n)) (nI (fb_ct (disl S (xF C S)) n)) (1 : Int32) G z) Q) : gx (qL_settles_176 N (x, nI n, k, k + 1, k + 2, l5, l6, l8, (0 : Int32), (0 : Int32), (1 : Int32), (0 : Int32)) G z) Q := by
  have h12 := h.h12
  unfold qL_settles_176
  refine gx_loop n (fun i p z' => p = (x, nI n, k, k + 1, k + 2, l5, l6, l8, nI (fb_ct (xF C S) i), nI (fb_ct (disl S (xF C S)) i), (1 : Int32), nI i) ∧ z' = z) ?_ ?_ 13 0 _ z (Nat.zero_le _) (by omega) ⟨rfl, rfl⟩
  · rintro ih i p z' hi ⟨rfl, rfl⟩ kc
    show gx (bL_settles_176 N ih x (nI n) k (k + 1) (k + 2) l5 l6 l8 (nI (fb_ct (xF C S) i)) (nI (fb_ct (disl S (xF C S)) i)) (1 : Int32) (nI i) G z') _
    unfold bL_settles_176
    refine gx_itef (nI_nleE (a := n) (b := i) rfl rfl hi (by omega)) (gx_itef (by decide) (gx_guard (by decide) (gx_retb ?_)))
    rw [show nI i - nI i / (3 : Int32) * (3 : Int32) = nI (i % 3) from nI_rem (b := 3) (by omega) (by omega) (by omega)]
    exact g_193 h hi (kc _ _ ⟨rfl, rfl⟩)
  · rintro ih p z' ⟨rfl, rfl⟩
    show gx (bL_settles_176 N ih x (nI n) k (k + 1) (k + 2) l5 l6 l8 (nI (fb_ct (xF C S) n)) (nI (fb_ct (disl S (xF C S)) n)) (1 : Int32) (nI n) G z') _
    unfold bL_settles_176
    exact gx_itet ((nI_leI (by omega) (by omega)).mpr (Nat.le_refl _)) kk
/-- a settling, an undo, a settling -/
theorem g_593 {z2 : osS} {ad2 : Nat → Nat} {W2 : Nat → Nat → Nat → Int32} {t : Nat} (h1 : LW z x ad W n np T) (ph : W 3 0 0 = 0) (h12 : n ≤ 12) (hT : T < 4000) (h2 : LW z2 x ad2 W2 n np (T + 1)) (et : W 3 1 0 = nI t) (ht : t < 5000) (sc : setC W W2 np t) (e1 : W2 1 = W 1) (tl : tlS (W 3) (W2 3)) (hA : G.2.2.1 ≤ x) (hN : 5000 < N)
    (kk : ∀ z' ad' W', LW z' x ad' W' n np (T + 2) → W' 1 = W 1 → ¬ W' 3 2 0 = 0 → (∀ a, a < 16 → W' 3 11 a = -1) → Q 1 z') :
    gx (qL_settles_593 N x (smV W n) (nI (fb_ct (uu (W 3)) n)) (nI (cnt (srs (W 1) (W 3) (seaF (W 1) (W 3))).1)) (nI (fb_ct (xF (W 1) (W 3)) n)) (nI (fb_ct (disl (W 3) (xF (W 1) (W 3))) n)) (1 : Int32) G z2) Q := by
  obtain ⟨Wr, s, v, T', rc, e9, hv, hs, hco, e3, hk⟩ := sc
  have h16 := h1.n16
  have ho := okO_of (h1.i.i.o ph) h16
  have hin : ∀ a, a < 16 → uu (W 3) a = true → a < n := fun a ha hu => (h1.i.i.j.u a ha hu).1
  have hX : ∀ a, xF (W 1) (W 3) a = true → a < n := fun a q => hin a (xF_in q).1 (mv_uu (xF_in q).2)
  have hD : ∀ a, a < 16 → disl (W 3) (xF (W 1) (W 3)) a = true → a < n := fun a ha q => hin a ha (by unfold disl at q; rw [Bool.and_eq_true] at q; exact q.1)
  have cX : cnt (srs (W 1) (W 3) (seaF (W 1) (W 3))).1 = fb_ct (xF (W 1) (W 3)) n := fb_cutN 16 h16 (fun i a1 _ => by
    cases q : xF (W 1) (W 3) i
    · exact q
    · have := hX i q
      omega)
  have cD : fb_ct (disl (W 3) (xF (W 1) (W 3))) 16 = fb_ct (disl (W 3) (xF (W 1) (W 3))) n := fb_cutN 16 h16 (fun i a1 a2 => by
    cases q : disl (W 3) (xF (W 1) (W 3)) i
    · rfl
    · have := hD i a2 q
      omega)
  have cU : fb_ct (uu (W 3)) 16 = fb_ct (uu (W 3)) n := fb_cutN 16 h16 (fun i a1 a2 => by
    cases q : uu (W 3) i
    · rfl
    · have := hin i a2 q
      omega)
  have k6 : W2 3 6 = T' 6 := by rw [e3]; exact endS_k (by omega) (by omega) (by omega) (by omega) (by omega) (by omega)
  have k8 : W2 3 8 = T' 8 := by rw [e3]; exact endS_k (by omega) (by omega) (by omega) (by omega) (by omega) (by omega)
  have cU2 : fb_ct (uu (W2 3)) 16 = fb_ct (uu (W2 3)) n := fb_cutN 16 h16 (fun i a1 a2 => by
    cases q : uu (W2 3) i
    · rfl
    · have := (h2.i.i.j.u i a2 q).1
      omega)
  have cN : fb_ct (uu (W2 3)) n + fb_ct (disl (W 3) (xF (W 1) (W 3))) n = fb_ct (uu (W 3)) n := by
    rw [← cU2, ← cD, ← cU, ← coT_ct hco ho]
    congr 1
    exact fb_ct_cong (fun a ha => by unfold uu; rw [k6])
  have cA : fb_ct (ds (W2 3)) n = fb_ct (disl (W 3) (xF (W 1) (W 3))) n := fb_ct_cong (fun a ha => by
    rw [← coT_ds hco (show a < 16 by omega)]
    unfold ds; rw [k8])
  have l1 := fb_ct_le (uu (W 3)) n
  have l2 := fb_ct_le (disl (W 3) (xF (W 1) (W 3))) n
  have n9 : W2 0 9 0 = nI (v + 1) := by rw [hk 0 (by omega)]; exact rc.1
  have h8 : sE (W 3) (W2 (8 + v)) := by rw [hk (8 + v) (by omega)]; exact rc.2.2.1
  have f643 : gx (qL_settles_644 N x (smV W n) (nI (cnt (srs (W 1) (W 3) (seaF (W 1) (W 3))).1)) (1 : Int32) G z2) Q := by
    unfold qL_settles_644 qL_settles_696
    refine gx_callE (q_L_sum h2.w h2.c0 h12) (gx_itef (by decide) (gx_bind (q_L_undoneT h2 (by omega) n9 h8 tl (by rw [e1]; exact stI_T h1.i.i (Nat.le_succ T)) hA hN (fun z3 W3 f3 h3 e31 e33 => gx_itef (nI_pos (by omega)) ?_))))
    have sm3 : smV W3 n = smV W n := smV_R h16 (e31.trans e1) (by rw [e33]; exact ⟨rfl, rfl, fun _ _ _ _ _ => rfl⟩)
    refine gx_callE (q_L_sum h3.w h3.c0 h12) (gx_itet sm3 (l_settleT h3 (by rw [e33]; exact ph) (by omega) hA hN (fun z4 ad4 W4 t4 f4 h4 et4 ht4 sc4 e41 tl4 => ?_)))
    rw [e31, e1, e33]
    obtain ⟨Wr4, s4, v4, T4, rc4, e94, hv4, hs4, hco4, e43, hk4⟩ := sc4
    rw [e31, e1, e33] at hco4
    rw [e31, e1, e33] at e43
    have ett : t4 = t := by
      have q := et4
      rw [e33, et] at q
      exact ((nI_eq (by omega) (by omega)).mp q).symm
    have sm4 : smV W4 n = smV W2 n := smV_R h16 (by rw [e41, e31]) (by rw [e43, e3, ett]; exact endS_R (coT_R hco4 hco))
    refine gx_itet rfl (gx_callE (q_L_sum h4.w h4.c0 h12) (gx_itet sm4 (gx_retZ (Or.inr rfl) (kk z4 ad4 W4 h4 (by rw [e41, e31, e1]) ?_ (fun a ha => ?_)))))
    · rw [e43, endS_k (by omega) (by omega) (by omega) (by omega) (by omega) (by omega), hco4.2.1]; decide
    · rw [e43, endS_k (by omega) (by omega) (by omega) (by omega) (by omega) (by omega)]; exact (hco4.2.2.2.2.2.1 a ha).2.2
  have f627 : gx (qL_settles_627 N x (smV W n) (nI (fb_ct (uu (W 3)) n)) (nI (cnt (srs (W 1) (W 3) (seaF (W 1) (W 3))).1)) (nI (fb_ct (disl (W 3) (xF (W 1) (W 3))) n)) G z2) Q := by
    unfold qL_settles_627
    refine gx_callE (q_L_units h2.w h2.c0 h12) (gx_itet ?_ f643)
    rw [nI_sub (by omega)]
    congr 1
    omega
  unfold qL_settles_593
  refine gx_itef (by decide) (gx_itet (by rw [cX]) (gx_callE (q_L_aside h2.w h2.c0 h12) (gx_itet (by rw [cA]) (gx_ite (fun _ => f627) (fun c => l_phase h2.w (gx_itet ?_ f627))))))
  have hd : exn (disl (W 3) (xF (W 1) (W 3))) 16 = true := by
    cases q : exn (disl (W 3) (xF (W 1) (W 3))) 16
    · have z0 : fb_ct (disl (W 3) (xF (W 1) (W 3))) n = 0 := fb_ct_zero.mpr (fun i hi => exn_no.mp q i (by omega))
      rw [z0] at c
      exact absurd rfl c
    · rfl
  rw [e3, hd]
  rfl
end
