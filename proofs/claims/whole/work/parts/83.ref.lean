/-! the reference's settling: goesThrough, decides (by program) -/
theorem srn_0 {C S : Nat → Nat → Int32} {sea : Bool} {m : Int32} : ∀ n, (srn C S sea m n).2.1 = 0 → (srn C S sea m n).1 = 0
  | 0, _ => rfl
  | n + 1, h => by
    have ih := srn_0 (C := C) (S := S) (sea := sea) (m := m) n
    unfold srn at ih h ⊢
    rw [osit_last, Nat.zero_add] at h ⊢
    generalize osit (fun i q => stQ C S sea (sub m i) q) 0 n (0, 0, 0, 0) = q at ih h ⊢
    unfold stQ at h ⊢
    by_cases c1 : cns C S sea (bt (sub m n)) = true
    · rw [if_pos c1] at h
      exfalso
      by_cases c2 : (q.2.1 = 0 ∨ q.2.2.1 < cnt (sub m n) ∨ (cnt (sub m n) = q.2.2.1 ∧ q.2.2.2 ≤ ng C S sea (sub m n)))
      · rw [if_pos c2] at h
        exact absurd h (Nat.succ_ne_zero _)
      · rw [if_neg c2] at h
        exact absurd h (Nat.succ_ne_zero _)
    · rw [if_neg c1] at h ⊢
      exact ih h
def goR (C S M : Nat → Nat → Int32) (sea : Bool) (i : Nat) : Prop := M 37 0 = nI (srn C S sea (mset S) i).2.1 ∧ (((srn C S sea (mset S) i).2.1 = 0 ∧ M 36 0 = -1) ∨ (0 < (srn C S sea (mset S) i).2.1 ∧ ∃ j, j < 2 ^ fb_ct (mv S) 16 ∧ M 36 0 = nI j ∧ (srn C S sea (mset S) i).1 = sub (mset S) j))
def goM (C S : Nat → Nat → Int32) (sea : Bool) (i : Nat) (most : Int32) : Prop := ((srn C S sea (mset S) i).2.1 = 0 ∧ most = -1) ∨ (0 < (srn C S sea (mset S) i).2.1 ∧ most = nI (32 * (srn C S sea (mset S) i).2.2.1 + (srn C S sea (mset S) i).2.2.2))
theorem lt_m1 {a : Nat} (h : a < 2 ^ 31) : ¬ nI a < -1 := fun q => by
  have h1 := nI_pos' h
  have : nI a < 0 := by
    have h2 := Int32.lt_iff_toInt_lt.mp q
    rw [nI_toInt h] at h2
    have : (-1 : Int32).toInt = -1 := by decide
    omega
  exact nI_pos h this
theorem q_X10_goesThrough {G : osG} {z : osS} {N m n : Nat} {C S M : Nat → Nat → Int32} {D : Nat → Nat → Int64} {sea : Bool} (hm : rX10 z m M D) (hA : G.2.2.1 ≤ m) (hc : cpS C S M n) (ht : mvT C S M) (hs : M 27 0 = b2i (!sea)) (hN : 4200 < N) : gx (qX10_goesThrough N m G z) (fun _ z' => osFr m (m + 21) z z' ∧ ∃ M', rX10 z' m M' D ∧ (∀ k, k < 28 ∨ 38 ≤ k → M' k = M k) ∧ goR C S M' sea (2 ^ fb_ct (mv S) 16)) := by
  have h12 := hc.m12
  have h64 : 2 ^ fb_ct (mv S) 16 ≤ 4096 := Nat.le_trans (Nat.pow_le_pow_right (by omega) h12) (by decide)
  unfold qX10_goesThrough
  refine hm.p36 (by decide) hA (fun z0 f0 h0 => h0.p37 (by decide) hA (fun z1 f1 h1 => ?_))
  have fr := f0.tr f1
  have e1 : ∀ k, k < 28 ∨ 38 ≤ k → (cset (cset M 36 fun _ => (-1 : Int32)) 37 fun _ => (0 : Int32)) k = M k := fun k hk => by rw [cset_ne (by omega), cset_ne (by omega)]
  have g1 : goR C S (cset (cset M 36 fun _ => (-1 : Int32)) 37 fun _ => (0 : Int32)) sea 0 := ⟨rfl, Or.inl ⟨rfl, rfl⟩⟩
  generalize (cset (cset M 36 fun _ => (-1 : Int32)) 37 fun _ => (0 : Int32)) = M1 at h1 e1 g1
  unfold qX10_goesThrough_14
  refine gx_loop (2 ^ fb_ct (mv S) 16) (fun i p z' => osFr m (m + 21) z1 z' ∧ ∃ most M', p = (m, most, nI i) ∧ goM C S sea i most ∧ rX10 z' m M' D ∧ (∀ k, k < 28 ∨ 38 ≤ k → M' k = M k) ∧ goR C S M' sea i) ?_ ?_ N 0 _ z1 (Nat.zero_le _) (by omega) ⟨osFr.rf, -1, M1, rfl, Or.inl ⟨rfl, rfl⟩, h1, e1, g1⟩
  · rintro ih i p z2 hi ⟨f2, most, M2, rfl, gm, h2, e2, g2⟩ k
    have c2 : cpS C S M2 n := cpS_keep hc (e2 1 (by omega)) (e2 3 (by omega))
    have t2 : mvT C S M2 := mvT_keep ht (fun k h1 h2 => e2 k (by omega))
    have esr : srn C S sea (mset S) (i + 1) = stQ C S sea (sub (mset S) i) (srn C S sea (mset S) i) := by unfold srn; rw [osit_last, Nat.zero_add]
    have hb := srn_b (C := C) (S := S) (sea := sea) (m := mset S) i
    have hX := sub_X (h12 := h12) hi
    have hcn := cnt_oX (h12 := h12) hi
    show gx (bX10_goesThrough_14 N ih m most (nI i) G z2) _
    unfold bX10_goesThrough_14 qX10_goesThrough_77
    have e26 : osshl (1 : Int32) (M2 26 0) = nI (2 ^ fb_ct (mv S) 16) := by
      rw [show M2 26 0 = nI (fb_ct (mv S) 16) from t2.1.1]; exact sg_nI _ h12
    refine gx_gI h2.o (by decide) rfl (gx_itef (by rw [e26]; exact fun q => by have := (nI_leI (by omega) (by omega)).mp q; omega) (gx_recvQ h2.o (by decide) (q_X10_says (sea := sea) (o := nI i) h2 hA c2 t2 (by rw [e2 27 (by omega)]; exact hs) (by omega)) (fun _ z3 ⟨f3, M3, h3, e3, o3, s3⟩ => ?_)))
    have a3 : ∀ k, k < 28 ∨ 38 ≤ k → M3 k = M k := fun k hk => (e3 k (by omega)).trans (e2 k hk)
    have c3 : cpS C S M3 n := cpS_keep hc (a3 1 (by omega)) (a3 3 (by omega))
    have t3 : mvT C S M3 := mvT_keep ht (fun k h1 h2 => a3 k (by omega))
    have r36 : M3 36 = M2 36 := e3 36 (by omega)
    have r37 : M3 37 = M2 37 := e3 37 (by omega)
    refine gx_recvE h3.o (by decide) (q_X10_isConsistent h3 c3 t3 s3 (by omega)) ?_
    rw [o3]
    refine gx_iteB (fun c => ?_) (fun c => ?_)
    · have es : srn C S sea (mset S) (i + 1) = srn C S sea (mset S) i := by
        rw [esr]
        unfold stQ
        rw [hX, if_neg (by rw [c]; decide)]
      rw [nI_1]
      refine k _ _ ⟨f2.tr f3, most, M3, rfl, ?_, h3, a3, ?_⟩
      · unfold goM; rw [es]; exact gm
      · unfold goR; rw [es, r36, r37]; exact g2
    · have hg31 : cnt (M3 31 0) = ng C S sea (sub (mset S) i) := by
        rw [cnt_of s3.2.2.1, o3]
        unfold ng
        rw [hX]
      have hi31 : hi0 (M3 31 0) := hi0_of s3.2.2.1
      have hi28 : hi0 (nI i) := fun j h1 h2 => by
        rw [bt_nI (by omega)]
        exact Nat.testBit_lt_two_pow (Nat.lt_of_lt_of_le hi (Nat.pow_le_pow_right (by omega) (by omega)))
      refine gx_gI h3.o (by decide) rfl (h3.p37 (by decide) hA (fun z4 f4 h4 => gx_callE (q_X10_ones hi28 (by omega)) (gx_gI h4.o (by decide) rfl (gx_callE (q_X10_ones (x := M3 31 0) hi31 (by omega)) (gx_retb ?_)))))
      rw [hg31, ← hcn]
      generalize hq : srn C S sea (mset S) i = q at gm g2 esr hb
      unfold goM at gm
      unfold goR at g2
      rw [hq] at gm g2
      have hng : ng C S sea (sub (mset S) i) ≤ 16 := fb_ct_le _ 16
      have hcl := cnt_le (sub (mset S) i)
      have ex : (32 : Int32) * nI (cnt (sub (mset S) i)) + nI (ng C S sea (sub (mset S) i)) = nI (32 * cnt (sub (mset S) i) + ng C S sea (sub (mset S) i)) := nI_sum (nI_prod (a := 32) rfl rfl) rfl
      rw [ex]
      have hiff : (nI (32 * cnt (sub (mset S) i) + ng C S sea (sub (mset S) i)) < most) ↔ ¬ (q.2.1 = 0 ∨ q.2.2.1 < cnt (sub (mset S) i) ∨ (cnt (sub (mset S) i) = q.2.2.1 ∧ q.2.2.2 ≤ ng C S sea (sub (mset S) i))) := by
        rcases gm with ⟨g0, rfl⟩ | ⟨g0, rfl⟩
        · exact ⟨fun x => absurd x (lt_m1 (by omega)), fun x => absurd (Or.inl g0) x⟩
        · rw [nI_ltI (by omega) (by omega)]
          omega
      have hcs : cns C S sea (bt (sub (mset S) i)) = true := by rw [hX]; exact c
      refine gx_ite (fun c5 => ?_) (fun c5 => ?_)
      · have hno := hiff.mp c5
        have es : srn C S sea (mset S) (i + 1) = (q.1, q.2.1 + 1, q.2.2.1, q.2.2.2) := by
          rw [esr]
          unfold stQ
          rw [if_pos hcs, if_neg hno]
        have hq0 : ¬ q.2.1 = 0 := fun x => hno (Or.inl x)
        rw [nI_1]
        refine k _ _ ⟨(f2.tr f3).tr f4, most, _, rfl, ?_, h4, fun k hk => by rw [cset_ne (by omega)]; exact a3 k hk, ?_⟩
        · unfold goM
          rw [es]
          rcases gm with ⟨g0, _⟩ | ⟨g0, g1⟩
          · exact absurd g0 hq0
          · exact Or.inr ⟨by show 0 < q.2.1 + 1; omega, g1⟩
        · unfold goR
          rw [es]
          refine ⟨by show M3 37 0 + 1 = nI (q.2.1 + 1); rw [r37, g2.1, nI_1], Or.inr ⟨by show 0 < q.2.1 + 1; omega, ?_⟩⟩
          rcases g2.2 with ⟨g0, _⟩ | ⟨g0, j, j1, j2, j3⟩
          · exact absurd g0 hq0
          · exact ⟨j, j1, by show M3 36 0 = nI j; rw [r36]; exact j2, j3⟩
      · have hyes : (q.2.1 = 0 ∨ q.2.2.1 < cnt (sub (mset S) i) ∨ (cnt (sub (mset S) i) = q.2.2.1 ∧ q.2.2.2 ≤ ng C S sea (sub (mset S) i))) := by
          apply Classical.byContradiction
          intro x
          exact c5 (hiff.mpr x)
        have es : srn C S sea (mset S) (i + 1) = (sub (mset S) i, q.2.1 + 1, cnt (sub (mset S) i), ng C S sea (sub (mset S) i)) := by
          rw [esr]
          unfold stQ
          rw [if_pos hcs, if_pos hyes]
        refine h4.p36 (by decide) hA (fun z5 f5 h5 => ?_)
        rw [nI_1]
        refine k _ _ ⟨((f2.tr f3).tr f4).tr f5, _, _, rfl, ?_, h5, fun k hk => by rw [cset_ne (by omega), cset_ne (by omega)]; exact a3 k hk, ?_⟩
        · unfold goM
          rw [es]
          exact Or.inr ⟨by show 0 < q.2.1 + 1; omega, rfl⟩
        · unfold goR
          rw [es]
          exact ⟨by show M3 37 0 + 1 = nI (q.2.1 + 1); rw [r37, g2.1, nI_1], Or.inr ⟨by show 0 < q.2.1 + 1; omega, i, hi, rfl, rfl⟩⟩
  · rintro ih p z2 ⟨f2, most, M2, rfl, gm, h2, e2, g2⟩
    have e26 : osshl (1 : Int32) (M2 26 0) = nI (2 ^ fb_ct (mv S) 16) := by
      rw [show M2 26 0 = nI (fb_ct (mv S) 16) by rw [e2 26 (by omega)]; exact ht.1.1]; exact sg_nI _ h12
    show gx (bX10_goesThrough_14 N ih m most (nI (2 ^ fb_ct (mv S) 16)) G z2) _
    unfold bX10_goesThrough_14
    refine gx_gI h2.o (by decide) rfl (gx_itet (by rw [e26]; exact (nI_leI (by omega) (by omega)).mpr (Nat.le_refl _)) (gx_ret ⟨fr.tr f2, M2, h2, e2, g2⟩))
/-- what stands when the reference has decided -/
def dcT (C S M : Nat → Nat → Int32) (n : Nat) : Prop := mvT C S M ∧ saT C S M n (seaF C S) ∧ oX S (M 28 0) = bt (srs C S (seaF C S)).1 ∧ M 38 0 = nI (srs C S true).2.1 ∧ ∃ j, j < 2 ^ fb_ct (mv S) 16 ∧ M 28 0 = nI j
theorem q_X10_decides_38 {G : osG} {z : osS} {N m n : Nat} {C S M : Nat → Nat → Int32} {D : Nat → Nat → Int64} {sea : Bool} (hm : rX10 z m M D) (hA : G.2.2.1 ≤ m) (hc : cpS C S M n) (ht : mvT C S M) (hs : M 27 0 = b2i (!sea)) (hg : goR C S M sea (2 ^ fb_ct (mv S) 16)) (hN : 4200 < N) : gx (qX10_decides_38 N m G z) (fun _ z' => osFr m (m + 21) z z' ∧ ∃ M', rX10 z' m M' D ∧ (∀ k, k < 28 ∨ 36 ≤ k → M' k = M k) ∧ saT C S M' n sea ∧ oX S (M' 28 0) = bt (srn C S sea (mset S) (2 ^ fb_ct (mv S) 16)).1 ∧ ∃ j, j < 2 ^ fb_ct (mv S) 16 ∧ M' 28 0 = nI j) := by
  have h12 := hc.m12
  have h64 : 2 ^ fb_ct (mv S) 16 ≤ 4096 := Nat.le_trans (Nat.pow_le_pow_right (by omega) h12) (by decide)
  have hpos : 0 < 2 ^ fb_ct (mv S) 16 := Nat.two_pow_pos _
  have fin : ∀ j, j < 2 ^ fb_ct (mv S) 16 → (srn C S sea (mset S) (2 ^ fb_ct (mv S) 16)).1 = sub (mset S) j → gx (qX10_decides_55 N (nI j) m G z) (fun _ z' => osFr m (m + 21) z z' ∧ ∃ M', rX10 z' m M' D ∧ (∀ k, k < 28 ∨ 36 ≤ k → M' k = M k) ∧ saT C S M' n sea ∧ oX S (M' 28 0) = bt (srn C S sea (mset S) (2 ^ fb_ct (mv S) 16)).1 ∧ ∃ j, j < 2 ^ fb_ct (mv S) 16 ∧ M' 28 0 = nI j) := fun j hj e => by
    unfold qX10_decides_55
    refine gx_recvQ hm.o (by decide) (q_X10_says (sea := sea) hm hA hc ht hs (by omega)) (fun _ z2 ⟨f2, M2, h2, e2, o2, s2⟩ => gx_ret ⟨f2, M2, h2, e2, s2, ?_, j, hj, o2⟩)
    rw [o2, e]
    exact (sub_X (h12 := h12) hj).symm
  unfold qX10_decides_38
  refine gx_gI hm.o (by decide) rfl (gx_ite (fun c => ?_) (fun c => gx_gI hm.o (by decide) rfl ?_))
  · refine fin 0 hpos ?_
    rcases hg.2 with ⟨g0, _⟩ | ⟨g0, j, j1, j2, j3⟩
    · exact srn_0 _ g0
    · have : M 36 0 = -1 := c
      rw [j2] at this
      exact absurd this (nI_m1 (by omega))
  · rcases hg.2 with ⟨g0, g1⟩ | ⟨g0, j, j1, j2, j3⟩
    · exact absurd g1 c
    · rw [j2]; exact fin j j1 j3
theorem q_X10_decides {G : osG} {z : osS} {N m n : Nat} {C S M : Nat → Nat → Int32} {D : Nat → Nat → Int64} (hm : rX10 z m M D) (hA : G.2.2.1 ≤ m) (hc : cpS C S M n) (hN : 4200 < N) : gx (qX10_decides N m G z) (fun _ z' => osFr m (m + 21) z z' ∧ ∃ M', rX10 z' m M' D ∧ (∀ k, k < 21 ∨ 39 ≤ k → M' k = M k) ∧ dcT C S M' n) := by
  have h12 := hc.m12
  have hmk : mk S = fb_ct (mv S) 16 := by unfold mk; omega
  have esr : ∀ sea, srs C S sea = srn C S sea (mset S) (2 ^ fb_ct (mv S) 16) := fun sea => by unfold srs; rw [hmk]
  have h64 : 2 ^ fb_ct (mv S) 16 ≤ 4096 := Nat.le_trans (Nat.pow_le_pow_right (by omega) h12) (by decide)
  unfold qX10_decides
  refine gx_recvQ hm.o (by decide) (q_X10_laysMoves hm hA hc (by omega)) (fun _ z1 ⟨f1, M1, h1, e1, t1⟩ => gx_guard (Or.inl rfl) (h1.p27 (by decide) hA (fun z2 f2 h2 => ?_)))
  have a2 : ∀ k, k < 21 ∨ 28 ≤ k → (cset M1 27 fun _ => (0 : Int32)) k = M k := fun k hk => by rw [cset_ne (by omega)]; exact e1 k (by omega)
  have t2 : mvT C S (cset M1 27 fun _ => (0 : Int32)) := mvT_keep t1 (fun k h1 h2 => cset_ne (by omega))
  have s2 : (cset M1 27 fun _ => (0 : Int32)) 27 0 = b2i (!true) := rfl
  generalize (cset M1 27 fun _ => (0 : Int32)) = M2 at h2 a2 t2 s2
  have c2 : cpS C S M2 n := cpS_keep hc (a2 1 (by omega)) (a2 3 (by omega))
  refine gx_recvQ h2.o (by decide) (q_X10_goesThrough (sea := true) h2 hA c2 t2 s2 hN) (fun _ z3 ⟨f3, M3, h3, e3, g3⟩ => gx_gI h3.o (by decide) rfl (h3.p38 (by decide) hA (fun z4 f4 h4 => ?_)))
  have r38 : M3 37 0 = nI (srs C S true).2.1 := by rw [esr]; exact g3.1
  have a4 : ∀ k, k < 21 ∨ 39 ≤ k → (cset M3 38 fun _ => M3 37 0) k = M k := fun k hk => by rw [cset_ne (by omega), e3 k (by omega)]; exact a2 k (by omega)
  have b4 : ∀ k, k < 28 → (cset M3 38 fun _ => M3 37 0) k = M2 k := fun k hk => by rw [cset_ne (by omega)]; exact e3 k (by omega)
  have k4 : (cset M3 38 fun _ => M3 37 0) 38 0 = nI (srs C S true).2.1 := r38
  have g4 : goR C S (cset M3 38 fun _ => M3 37 0) true (2 ^ fb_ct (mv S) 16) := g3
  have j4 : (cset M3 38 fun _ => M3 37 0) 36 0 = M3 36 0 := rfl
  generalize (cset M3 38 fun _ => M3 37 0) = M4 at h4 a4 b4 k4 g4 j4
  have c4 : cpS C S M4 n := cpS_keep hc (a4 1 (by omega)) (a4 3 (by omega))
  have t4 : mvT C S M4 := mvT_keep t2 (fun k h1 h2 => b4 k (by omega))
  have fr : osFr m (m + 21) z z4 := ((f1.tr (f2.wide (by omega) (by omega))).tr f3).tr f4
  have key : ∀ z5 M5 (sea : Bool), osFr m (m + 21) z z5 → rX10 z5 m M5 D → (∀ k, k < 21 ∨ 39 ≤ k → M5 k = M k) → cpS C S M5 n → mvT C S M5 → M5 27 0 = b2i (!sea) → goR C S M5 sea (2 ^ fb_ct (mv S) 16) → M5 38 0 = nI (srs C S true).2.1 → sea = seaF C S → gx (qX10_decides_38 N m G z5) (fun _ z' => osFr m (m + 21) z z' ∧ ∃ M', rX10 z' m M' D ∧ (∀ k, k < 21 ∨ 39 ≤ k → M' k = M k) ∧ dcT C S M' n) := fun z5 M5 sea fr5 h5 a5 c5 t5 s5 g5 k5 es => by
    subst es
    refine gx_mono (q_X10_decides_38 h5 hA c5 t5 s5 g5 hN) (fun _ z6 ⟨f6, M6, h6, e6, s6, o6, j6⟩ => ⟨fr5.tr f6, M6, h6, fun k hk => (e6 k (by omega)).trans (a5 k hk), mvT_keep t5 (fun k h1 h2 => e6 k (by omega)), s6, ?_, ?_, j6⟩)
    · rw [o6, esr]
    · rw [e6 38 (by omega)]; exact k5
  have hle : (srs C S true).2.1 ≤ 2 ^ fb_ct (mv S) 16 := by rw [esr]; exact (srn_b (C := C) (S := S) (sea := true) (m := mset S) _).1
  refine gx_gI h4.o (by decide) rfl (gx_ite (fun c => ?_) (fun c => ?_))
  · have hf : seaF C S = false := by
      unfold seaF
      rcases g4.2 with ⟨g0, _⟩ | ⟨g0, j, j1, j2, j3⟩
      · rw [esr, g0]; rfl
      · have : M4 36 0 = -1 := c
        rw [j2] at this
        exact absurd this (nI_m1 (by omega))
    refine gx_guard (Or.inr rfl) (h4.p27 (by decide) hA (fun z5 f5 h5 => ?_))
    have a5 : ∀ k, k ≠ 27 → (cset M4 27 fun _ => (1 : Int32)) k = M4 k := fun k hk => cset_ne hk
    have s5 : (cset M4 27 fun _ => (1 : Int32)) 27 0 = b2i (!false) := rfl
    generalize (cset M4 27 fun _ => (1 : Int32)) = M5 at h5 a5 s5
    have c5 : cpS C S M5 n := cpS_keep c4 (a5 1 (by omega)) (a5 3 (by omega))
    have t5 : mvT C S M5 := mvT_keep t4 (fun k h1 h2 => a5 k (by omega))
    refine gx_recvQ h5.o (by decide) (q_X10_goesThrough (sea := false) h5 hA c5 t5 s5 hN) (fun _ z6 ⟨f6, M6, h6, e6, g6⟩ => ?_)
    refine key z6 M6 false ((fr.tr f5).tr f6) h6 (fun k hk => by rw [e6 k (by omega), a5 k (by omega)]; exact a4 k hk) (cpS_keep c5 (e6 1 (by omega)) (e6 3 (by omega))) (mvT_keep t5 (fun k h1 h2 => e6 k (by omega))) (by rw [e6 27 (by omega)]; exact s5) g6 (by rw [e6 38 (by omega), a5 38 (by omega)]; exact k4) hf.symm
  · have hf : seaF C S = true := by
      unfold seaF
      rcases g4.2 with ⟨_, g1⟩ | ⟨g0, j, j1, j2, j3⟩
      · exact absurd g1 c
      · rw [esr, decide_eq_false (by omega)]; rfl
    exact key z4 M4 true fr h4 a4 c4 t4 (by rw [b4 27 (by omega)]; exact s2) g4 k4 hf.symm
