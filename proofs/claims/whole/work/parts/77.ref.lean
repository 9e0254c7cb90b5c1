/-! the reference's settling: isConvoyed, laysPaths (by program) -/
theorem fb_lt {p q : Nat → Bool} {k : Nat} : ∀ {n : Nat}, (∀ i, i < n → p i = true → q i = true) → k < n → q k = true → p k = false → fb_ct p n < fb_ct q n
  | 0, _, h, _, _ => by omega
  | n + 1, hs, hk, h1, h2 => by
    have hle := fb_ct_sub (p := p) (q := q) (n := n) (fun i hi => hs i (by omega))
    rw [fb_ct_succ, fb_ct_succ]
    by_cases e : k = n
    · subst e
      rw [h1, h2]; simp; omega
    · have := fb_lt (n := n) (fun i hi => hs i (by omega)) (show k < n by omega) h1 h2
      have h3 : (if p n = true then 1 else 0) ≤ (if q n = true then 1 else 0) := by
        cases hp : p n
        · simp
        · rw [hs n (by omega) hp]; simp
      omega
theorem cnt_lt {x y : Int32} (hx : hi0 x) (hy : hi0 y) (hs : ∀ i, i < 16 → bt x i = true → bt y i = true) (hne : ¬ y = x) : cnt x < cnt y := by
  have : exn (fun i => bt y i && !bt x i) 16 = true := by
    cases e : exn (fun i => bt y i && !bt x i) 16
    · exact absurd (b_ext (fun i hi => by
        by_cases h16 : i < 16
        · have h1 := exn_no.mp e i h16
          cases h2 : bt x i
          · rw [h2] at h1; simpa using h1
          · exact hs i h16 h2
        · rw [hx i (by omega) hi, hy i (by omega) hi])) hne
    · rfl
  obtain ⟨k, h1, h2⟩ := exn_iff.mp this
  rw [Bool.and_eq_true] at h2
  exact fb_lt hs h1 h2.1 (by simpa using h2.2)
theorem cnt_0 {x : Int32} (h : ¬ x = 0) (hi : hi0 x) : 1 ≤ cnt x := by
  have := i0_ex hi
  rw [decide_eq_false h] at this
  have h2 : exn (bt x) 16 = true := by cases e : exn (bt x) 16; rw [e] at this; cases this; rfl
  obtain ⟨k, h1, h3⟩ := exn_iff.mp h2
  exact fb_ct_pos.mpr ⟨k, h1, h3⟩
theorem cnt_le (x : Int32) : cnt x ≤ 16 := fb_ct_le _ 16
theorem bt_grC {C : Nat → Nat → Int32} {F s : Int32} {i : Nat} : bt (grC C F s) i = (bt s i || exn (fun c => bt s c && (bt (bd C c 1) i && bt F i)) 16) := by
  unfold grC
  rw [bt_gath]
  congr 1
  exact exn_cong (fun c _ => by rw [b_and])
def rFl (M : Nat → Nat → Int32) (f t : Nat) (a : Nat) : Bool := !decide (M 3 (21 + a) = -1) && (decide (M 3 (117 + a) = 4) && (decide (M 3 (133 + a) = nI f) && (decide (M 3 (149 + a) = nI t) && !bt (M 29 0) a)))
theorem q_bX10_isConvoyed_5 {G : osG} {z : osS} {N m f t a n : Nat} {g : Int32} {M : Nat → Nat → Int32} {D : Nat → Nat → Int64} {Q : Int32 → osS → Prop} {ih : Nat × Int32 × Int32 × Int32 × Int32 → osM Int32} (hm : rX10 z m M D) (hn : M 1 0 = nI n) (h16 : n ≤ 16) (h9 : a < n) (hf : f < 16) (ht : t < 16) (k : ∀ g1, g1 = (if rFl M f t a = true then g ||| osshl (1 : Int32) (nI a) else g) → gx (ih (m, nI f, nI t, g1, nI a + 1) G z) Q) : gx (bX10_isConvoyed_5 N ih m (nI f) (nI t) g (nI a) G z) Q := by
  unfold bX10_isConvoyed_5
  (repeat (first | unfold qX10_isConvoyed_88 | unfold qX10_isConvoyed_89 | unfold qX10_isConvoyed_106))
  exact gx_gR hm.o (by decide) rfl (gx_aE (i := 0) hm.a1 (rfl) (by omega) (Nat.le_of_ble_eq_true rfl) (gx_itef (nI_nleE (a := n) (b := a) hn rfl h9 (by omega)) (gx_gR hm.o (by decide) rfl (gx_callE (q_X10_isUnit hm.a3 (by omega) rfl) (gx_iteDn (fun (c_1 : M 3 (21 + a) = -1) => gx_itet (by decide) (k _ (by have e9 : rFl M f t a = false := (by unfold rFl; simp [c_1]); rw [e9]; rfl))) (fun (c_1 : ¬ (M 3 (21 + a) = -1)) => gx_gR hm.o (by decide) rfl (gx_aE hm.a3 ((nI_sum (a := 117) (b := a) (rfl) (rfl))) (by omega) (Nat.le_of_ble_eq_true rfl) (gx_ite (fun (c_2 : (M 3 (117 + a)) = (4 : Int32)) => gx_gR hm.o (by decide) rfl (gx_aE hm.a3 ((nI_sum (a := 133) (b := a) (rfl) (rfl))) (by omega) (Nat.le_of_ble_eq_true rfl) (gx_ite (fun (c_3 : (M 3 (133 + a)) = (nI (f))) => gx_gR hm.o (by decide) rfl (gx_aE hm.a3 ((nI_sum (a := 149) (b := a) (rfl) (rfl))) (by omega) (Nat.le_of_ble_eq_true rfl) (gx_ite (fun (c_4 : (M 3 (149 + a)) = (nI (t))) => gx_gI hm.o (by decide) rfl (gx_callE (q_X10_has (by omega) rfl) (gx_iteB (fun (c_5 : (bt ((M 29 0)) a) = false) => gx_itef (by decide) (k _ (by have e9 : rFl M f t a = true := (by unfold rFl; simp [c_1, c_2, c_3, c_4, c_5]); rw [e9]; rfl))) (fun (c_5 : (bt ((M 29 0)) a) = true) => gx_itet (by decide) (k _ (by have e9 : rFl M f t a = false := (by unfold rFl; simp [c_1, c_2, c_3, c_4, c_5]); rw [e9]; rfl)))))) (fun (c_4 : ¬ ((M 3 (149 + a)) = (nI (t)))) => gx_itet (by decide) (k _ (by have e9 : rFl M f t a = false := (by unfold rFl; simp [c_1, c_2, c_3, c_4]); rw [e9]; rfl)))))) (fun (c_3 : ¬ ((M 3 (133 + a)) = (nI (f)))) => gx_itet (by decide) (k _ (by have e9 : rFl M f t a = false := (by unfold rFl; simp [c_1, c_2, c_3]); rw [e9]; rfl)))))) (fun (c_2 : ¬ ((M 3 (117 + a)) = (4 : Int32))) => gx_itet (by decide) (k _ (by have e9 : rFl M f t a = false := (by unfold rFl; simp [c_1, c_2]); rw [e9]; rfl)))))))))))
section
variable {C S M : Nat → Nat → Int32} {n : Nat}
theorem psg1 (hc : cpS C S M n) {a : Nat} (ha : a < 16) : psg M a 1 = bd C a 1 := by
  show M 1 (82 + a) = C 8 a
  exact hc.fl ha
theorem wid_grC (hc : cpS C S M n) {F s : Int32} (hF : ∀ i, i < 32 → bt F i = true → i < n) (hs : ∀ i, i < 32 → bt s i = true → bt F i = true) : osit (stRW M s 1) 0 n s &&& F = grC C F s := by
  refine b_ext (fun i hi => ?_)
  rw [b_and, bt_grC]
  have e : bt (osit (stRW M s 1) 0 n s) i = (bt s i || exn (fun c => bt s c && bt (psg M c 1) i) n) := bt_gath (P := bt s) (f := fun c => psg M c 1) (g0 := s) (i := i) (n := n)
  rw [e]
  have e2 : exn (fun c => bt s c && bt (psg M c 1) i) n = exn (fun c => bt s c && bt (bd C c 1) i) 16 := by
    rw [Bool.eq_iff_iff, exn_iff, exn_iff]
    constructor
    · rintro ⟨c, h1, h2⟩
      have := hc.n16
      exact ⟨c, by omega, by rw [psg1 hc (by omega)] at h2; exact h2⟩
    · rintro ⟨c, h1, h2⟩
      have h3 := h2
      rw [Bool.and_eq_true] at h3
      exact ⟨c, hF c (by omega) (hs c (by omega) h3.1), by rw [psg1 hc h1]; exact h2⟩
  rw [e2]
  have e3 : exn (fun c => bt s c && (bt (bd C c 1) i && bt F i)) 16 = (exn (fun c => bt s c && bt (bd C c 1) i) 16 && bt F i) := by
    cases hf : bt F i
    · rw [Bool.and_false]
      exact exn_no.mpr (fun c _ => by simp)
    · rw [Bool.and_true]
      exact exn_cong (fun c _ => by simp)
  rw [e3]
  cases hsi : bt s i
  · simp
  · rw [hs i hi hsi]; simp
theorem grC_sub {F s : Int32} (hs : ∀ i, i < 32 → bt s i = true → bt F i = true) : ∀ i, i < 32 → bt (grC C F s) i = true → bt F i = true := fun i hi h => by
  rw [bt_grC] at h
  cases h1 : bt s i
  · rw [h1, Bool.false_or] at h
    obtain ⟨c, _, h2⟩ := exn_iff.mp h
    rw [Bool.and_eq_true, Bool.and_eq_true] at h2
    exact h2.2.2
  · exact hs i hi h1
theorem grC_inf {F s : Int32} : ∀ i, i < 16 → bt s i = true → bt (grC C F s) i = true := fun i _ h => by rw [bt_grC, h]; rfl
theorem hi0_F {F s : Int32} (hF : ∀ i, i < 32 → bt F i = true → i < n) (h16 : n ≤ 16) (hs : ∀ i, i < 32 → bt s i = true → bt F i = true) : hi0 s := fun i h1 h2 => by
  cases e : bt s i
  · rfl
  · have := hF i h2 (hs i h2 e); omega
end
theorem q_X10_isConvoyed_129 {G : osG} {z : osS} {N m n t : Nat} {F s0 : Int32} {C S M : Nat → Nat → Int32} {D : Nat → Nat → Int64} (hm : rX10 z m M D) (hc : cpS C S M n) (ht : t < 16) (hF : ∀ i, i < 32 → bt F i = true → i < n) (hs : ∀ i, i < 32 → bt s0 i = true → bt F i = true) (hN : 20 < N) : gx (qX10_isConvoyed_129 N (m, nI t, F, s0, (0 : Int32)) G z) (fun v z' => v = b2i (!decide (fixi (grC C F) 16 s0 &&& bd C t 1 = 0)) ∧ z' = z) := by
  have h16 := hc.n16
  have fin : ∀ (ih : Nat × Int32 × Int32 × Int32 × Int32 → osM Int32) (r w : Int32), r = w → r = fixi (grC C F) 16 s0 → gx (bX10_isConvoyed_129 N ih m (nI t) F r w G z) (fun v z' => v = b2i (!decide (fixi (grC C F) 16 s0 &&& bd C t 1 = 0)) ∧ z' = z) := fun ih r w e1 e2 => by
    unfold bX10_isConvoyed_129 qX10_isConvoyed_174
    refine gx_itet e1 (gx_gR hm.o (by decide) rfl (gx_aE (i := 82 + t) hm.a1 (nI_sum (a := 82) (b := t) rfl rfl) (by omega) (Nat.le_of_ble_eq_true rfl) ?_))
    rw [← e2, show bd C t 1 = M 1 (82 + t) from (hc.fl ht).symm]
    refine gx_ite (fun c => gx_retZ (Or.inl rfl) ⟨?_, rfl⟩) (fun c => gx_retZ (Or.inr rfl) ⟨?_, rfl⟩)
    · rw [decide_eq_true c]; rfl
    · rw [decide_eq_false c]; rfl
  have go : ∀ (ih : Nat × Int32 × Int32 × Int32 × Int32 → osM Int32) (r w : Int32) (Q : Int32 → osS → Prop), ¬ r = w → (∀ i, i < 32 → bt r i = true → bt F i = true) → gx (ih (m, nI t, F, grC C F r, r) G z) Q → gx (bX10_isConvoyed_129 N ih m (nI t) F r w G z) Q := fun ih r w Q e1 e2 k => by
    unfold bX10_isConvoyed_129
    refine gx_itef e1 (gx_recvE hm.o (by decide) (q_X10_widened hm hc.n0 h16 (by omega)) ?_)
    rw [wid_grC hc hF e2]
    exact k
  unfold qX10_isConvoyed_129
  refine gx_loop 18 (fun i p z' => z' = z ∧ ((i = 0 ∧ p = (m, nI t, F, s0, (0 : Int32))) ∨ (0 < i ∧ ∃ r, p = (m, nI t, F, grC C F r, r) ∧ (∀ j, j < 32 → bt r j = true → bt F j = true) ∧ i ≤ cnt r ∧ fixi (grC C F) 16 s0 = fixi (grC C F) (17 - i) r))) ?_ ?_ N 0 _ z (Nat.zero_le _) (by omega) ⟨rfl, Or.inl ⟨rfl, rfl⟩⟩
  · rintro ih i p z' hi ⟨rfl, ⟨rfl, rfl⟩ | ⟨h0, r, rfl, h1, h2, h3⟩⟩ k
    · by_cases e : s0 = 0
      · exact fin ih s0 0 e (by rw [e, fixi_0 grC_0])
      · exact go ih s0 0 _ e hs (k _ _ ⟨rfl, Or.inr ⟨by omega, s0, rfl, hs, cnt_0 e (hi0_F hF h16 hs), rfl⟩⟩)
    · by_cases e : grC C F r = r
      · refine fin ih (grC C F r) r e ?_
        rw [h3, e]
        cases 17 - i with
        | zero => rfl
        | succ q =>
          show r = if grC C F r = r then r else fixi (grC C F) q (grC C F r)
          rw [if_pos e]
      · have hlt := cnt_lt (hi0_F hF h16 h1) (hi0_F hF h16 (grC_sub (C := C) h1)) grC_inf e
        have := cnt_le (grC C F r)
        refine go ih (grC C F r) r _ e (grC_sub h1) (k _ _ ⟨rfl, Or.inr ⟨by omega, grC C F r, rfl, grC_sub h1, by omega, ?_⟩⟩)
        rw [h3, show 17 - i = (17 - (i + 1)) + 1 by omega]
        show (if grC C F r = r then r else fixi (grC C F) (17 - (i + 1)) (grC C F r)) = _
        rw [if_neg e]
  · rintro ih p z' ⟨rfl, ⟨h, rfl⟩ | ⟨h0, r, rfl, h1, h2, h3⟩⟩
    · omega
    · have := cnt_le r; omega
theorem bset_or {P : Nat → Bool} {a : Nat} : (if P a = true then bset P a ||| osshl (1 : Int32) (nI a) else bset P a) = bset P (a + 1) := (bset_succ P a).symm
theorem q_X10_isConvoyed {G : osG} {z : osS} {N m n a : Nat} {C S M : Nat → Nat → Int32} {D : Nat → Nat → Int64} {X : Nat → Bool} (hm : rX10 z m M D) (hc : cpS C S M n) (ha : a < 16) (hma : mv S a = true) (hdm : dm C S a = false) (h29 : ∀ j, j < 32 → bt (M 29 0) j = (decide (j < 16) && disl S X j)) (hN : 20 < N) : qX10_isConvoyed N m (nI a) (nI (gof S a)) G z = some (b2i (carS C S X a), z) := by
  have h16 := hc.n16
  have hg := (mv_g hc.o ha hma).2
  have hP : ∀ i, i < 16 → rFl M a (gof S a) i = (cvy C S a i && !disl S X i) := fun i hi => by
    unfold rFl cvy
    rw [hc.un hi, hc.k hi, hc.f hi, h29 i (by omega), hma, hdm]
    cases hu : uu S i
    · rfl
    · by_cases h4 : S 12 i = 4
      · have e1 := uu_g hc.o hi hu (by rw [h4]; decide)
        have e2 := uu_s hc.o hi hu (Or.inr h4)
        rw [hc.s hi hu (Or.inr h4), e1.1, e2.1, h4]
        have q1 : decide (nI (gof S i) = nI a) = decide (gof S i = a) := by
          by_cases q : gof S i = a
          · rw [decide_eq_true q, decide_eq_true (by rw [q])]
          · rw [decide_eq_false q, decide_eq_false (fun x => q ((nI_eq (by omega) (by omega)).mp x))]
        have q2 : decide (nI (sof S i) = nI (gof S a)) = decide (gof S a = sof S i) := by
          by_cases q : gof S a = sof S i
          · rw [decide_eq_true q, decide_eq_true (by rw [q])]
          · rw [decide_eq_false q, decide_eq_false (fun x => q ((nI_eq (by omega) (by omega)).mp x).symm)]
        rw [q1, q2, decide_eq_true hi]
        simp [Bool.and_assoc]
      · rw [decide_eq_false h4]; rfl
  have hF : bset (rFl M a (gof S a)) n = flt C S X a := by
    unfold flt
    refine b_ext (fun i hi => ?_)
    rw [b_bset _ (by omega) hi, b_bset _ (by omega) hi]
    by_cases q : i < n
    · rw [decide_eq_true q, decide_eq_true (show i < 16 by omega), hP i (by omega)]
    · rw [decide_eq_false q, Bool.false_and]
      by_cases q2 : i < 16
      · have : cvy C S a i = false := by
          cases e : cvy C S a i
          · rfl
          · have hu : uu S i = true := by unfold cvy at e; rw [Bool.and_eq_true] at e; exact e.1
            exact absurd (hc.lt q2 hu) q
        rw [this]; simp
      · rw [decide_eq_false q2]; rfl
  refine gx_eq ?_
  unfold qX10_isConvoyed qX10_isConvoyed_5
  refine gx_loop n (fun i p z' => p = (m, nI a, nI (gof S a), bset (rFl M a (gof S a)) i, nI i) ∧ z' = z) ?_ ?_ N 0 _ z (Nat.zero_le _) (by omega) ⟨rfl, rfl⟩
  · rintro ih i p z' hi ⟨rfl, rfl⟩ k
    show gx (bX10_isConvoyed_5 N ih m (nI a) (nI (gof S a)) _ (nI i) G z') _
    exact q_bX10_isConvoyed_5 hm hc.n0 h16 hi ha hg (fun g1 e => k _ _ ⟨by rw [nI_1, e, bset_or], rfl⟩)
  · rintro ih p z' ⟨rfl, rfl⟩
    show gx (bX10_isConvoyed_5 N ih m (nI a) (nI (gof S a)) _ (nI n) G z') _
    unfold bX10_isConvoyed_5
    refine gx_gR hm.o (by decide) rfl (gx_aE (i := 0) hm.a1 rfl (by omega) (Nat.le_of_ble_eq_true rfl) (gx_itet (by rw [hc.n0]; exact (nI_leI (by omega) (by omega)).mpr (Nat.le_refl _)) (gx_gR hm.o (by decide) rfl (gx_aE (i := 82 + a) hm.a1 (nI_sum (a := 82) (b := a) rfl rfl) (by omega) (Nat.le_of_ble_eq_true rfl) ?_))))
    rw [hF, hc.fl ha]
    have hFs : ∀ i, i < 32 → bt (flt C S X a) i = true → i < n := fun i hi h => by
      rw [← hF, b_bset _ (by omega) hi] at h
      simp at h
      exact h.1
    have e0 : C 8 a &&& flt C S X a = flt C S X a &&& bd C a 1 := b_ext (fun i _ => by rw [b_and, b_and]; exact Bool.and_comm _ _)
    rw [e0]
    exact q_X10_isConvoyed_129 hm hc hg hFs (fun i _ h => by rw [b_and, Bool.and_eq_true] at h; exact h.1) hN
def rPa (M : Nat → Nat → Int32) (v : Bool) (i : Nat) : Bool := decide (M 25 i = 0) || (decide (M 27 0 = 0) && v)
theorem q_bX10_laysPaths_7 {G : osG} {z : osS} {N : Nat} {i : Nat} {m : Nat} {M : Nat → Nat → Int32} {D : Nat → Nat → Int64} {v : Bool} {mm : Nat} {Q : Unit → osS → Prop} {ih : Nat × Int32 → osM Unit} (hm : rX10 z m M D) (hA : G.2.2.1 ≤ m) (hn : M 26 0 = nI mm) (h12 : mm ≤ 12) (h9 : i < mm) (hcv : ¬ M 25 i = 0 → qX10_isConvoyed N m (M 21 i) (M 22 i) G z = some (b2i v, z)) (k : ∀ z1, osFr m (m + 21) z z1 → rX10 z1 m (stBit 30 (rPa M v i) i M) D → gx (ih (m, nI i + 1) G z1) Q) : gx (bX10_laysPaths_7 N ih m (nI i) G z) Q := by
  unfold bX10_laysPaths_7
  (repeat (first | unfold qX10_laysPaths_50 | unfold qX10_laysPaths_55 | unfold qX10_laysPaths_76 | unfold qX10_laysPaths_54))
  exact gx_gI hm.o (by decide) rfl (gx_itef (nI_nleE (a := mm) (b := i) hn rfl h9 (by omega)) (gx_gR hm.o (by decide) rfl (gx_aE hm.a25 (rfl) (by omega) (Nat.le_of_ble_eq_true rfl) (gx_ite (fun (c_1 : (M 25 i) = (0 : Int32)) => gx_itef (by decide) (gx_gI hm.o (by decide) rfl (hm.p30 (by decide) (by omega) (fun z_2 f_2 hm_2 => k _ (f_2.wide (by omega) (by omega)) (by have e9 : rPa M v i = true := (by unfold rPa; simp [c_1]); unfold stBit; rw [e9]; exact hm_2))))) (fun (c_1 : ¬ ((M 25 i) = (0 : Int32))) => gx_gI hm.o (by decide) rfl (gx_ite (fun (c_3 : (M 27 0) = (0 : Int32)) => gx_gR hm.o (by decide) rfl (gx_aE hm.a21 (rfl) (by omega) (Nat.le_of_ble_eq_true rfl) (gx_gR hm.o (by decide) rfl (gx_aE hm.a22 (rfl) (by omega) (Nat.le_of_ble_eq_true rfl) (gx_recvE hm.o (by decide) (hcv (by assumption)) (gx_iteB (fun (c_4 : (v) = false) => gx_itet (by decide) (gx_gI hm.o (by decide) rfl (hm.p30 (by decide) (by omega) (fun z_5 f_5 hm_5 => k _ (f_5.wide (by omega) (by omega)) (by have e9 : rPa M v i = false := (by unfold rPa; simp [c_1, c_3, c_4]); unfold stBit; rw [e9]; exact hm_5))))) (fun (c_4 : (v) = true) => gx_itef (by decide) (gx_gI hm.o (by decide) rfl (hm.p30 (by decide) (by omega) (fun z_6 f_6 hm_6 => k _ (f_6.wide (by omega) (by omega)) (by have e9 : rPa M v i = true := (by unfold rPa; simp [c_1, c_3, c_4]); unfold stBit; rw [e9]; exact hm_6))))))))))) (fun (c_3 : ¬ ((M 27 0) = (0 : Int32))) => gx_itet (by decide) (gx_gI hm.o (by decide) rfl (hm.p30 (by decide) (by omega) (fun z_7 f_7 hm_7 => k _ (f_7.wide (by omega) (by omega)) (by have e9 : rPa M v i = false := (by unfold rPa; simp [c_1, c_3]); unfold stBit; rw [e9]; exact hm_7)))))))))))
/-- something said of the moves, by their numbers -/
def pI (S : Nat → Nat → Int32) (p : Nat → Bool) (i : Nat) : Bool := exn (fun a => mv S a && (decide (ix S a = i) && p a)) 16
theorem pI_ix {S : Nat → Nat → Int32} {p : Nat → Bool} {a : Nat} (ha : a < 16) (hm : mv S a = true) : pI S p (ix S a) = p a := by
  unfold pI
  cases hp : p a
  · refine exn_no.mpr (fun b hb => ?_)
    cases hmb : mv S b
    · rfl
    · by_cases e : ix S b = ix S a
      · rw [(ix_inj hmb hm).mp e, hp]; simp
      · rw [decide_eq_false e]; rfl
  · exact exn_iff.mpr ⟨a, ha, by rw [hm, hp]; simp⟩
theorem q_X10_laysPaths {G : osG} {z : osS} {N m n : Nat} {C S M : Nat → Nat → Int32} {D : Nat → Nat → Int64} {X : Nat → Bool} {sea : Bool} (hm : rX10 z m M D) (hA : G.2.2.1 ≤ m) (hc : cpS C S M n) (ht : mvT C S M) (hs : M 27 0 = b2i (!sea)) (h29 : ∀ j, j < 32 → bt (M 29 0) j = (decide (j < 16) && disl S X j)) (hN : 20 < N) : gx (qX10_laysPaths N m G z) (fun _ z' => osFr m (m + 21) z z' ∧ ∃ M', rX10 z' m M' D ∧ (∀ k, k ≠ 30 → M' k = M k) ∧ ∀ a, a < 16 → mv S a = true → bt (M' 30 0) (ix S a) = pth C S sea X a) := by
  have h12 := hc.m12
  unfold qX10_laysPaths
  refine hm.p30 (by decide) hA (fun z0 f0 h0 => ?_)
  have e0 : ∀ k, k ≠ 30 → (cset M 30 fun _ => (0 : Int32)) k = M k := fun k hk => cset_ne hk
  unfold qX10_laysPaths_7
  refine gx_bits 30 (pI S (pth C S sea X)) (fb_ct (mv S) 16) (by omega) (fun i => (m, nI i)) h0 rfl ?_ ?_ N (by omega)
  · intro ih i z1 M1 hi f1 h1 e1 k
    have e2 : ∀ k, k ≠ 30 → M1 k = M k := fun k hk => (e1 k hk).trans (e0 k hk)
    have hc1 : cpS C S M1 n := cpS_keep hc (e2 1 (by omega)) (e2 3 (by omega))
    have ht1 : mvT C S M1 := mvT_keep ht (fun k h1 h2 => e2 k (by omega))
    obtain ⟨a, ha, hma, rfl⟩ := ix_of hi
    obtain ⟨t1, t2, t3⟩ := ht1.1.2.2 a ha hma
    show gx (bX10_laysPaths_7 N ih m (nI (ix S a)) G z1) _
    refine q_bX10_laysPaths_7 (v := carS C S X a) h1 hA ht1.1.1 h12 hi (fun c => ?_) (fun z2 f2 h2 => ?_)
    · rw [t1, t2]
      refine q_X10_isConvoyed h1 hc1 ha hma ?_ (by rw [e2 29 (by omega)]; exact h29) hN
      rw [t3] at c
      cases hd : dm C S a
      · rfl
      · rw [hd] at c; exact absurd rfl c
    · rw [nI_1]
      have : rPa M1 (carS C S X a) (ix S a) = pI S (pth C S sea X) (ix S a) := by
        rw [pI_ix ha hma]
        unfold rPa pth
        rw [t3, e2 27 (by omega), hs, hma]
        cases dm C S a <;> cases sea <;> cases carS C S X a <;> rfl
      rw [this] at h2
      exact k z2 f2 h2
  · intro ih z1 M1 f1 h1 e1 j1
    have e2 : ∀ k, k ≠ 30 → M1 k = M k := fun k hk => (e1 k hk).trans (e0 k hk)
    show gx (bX10_laysPaths_7 N ih m (nI (fb_ct (mv S) 16)) G z1) _
    unfold bX10_laysPaths_7
    refine gx_gI h1.o (by decide) rfl (gx_itet ?_ (gx_ret ⟨f0.tr f1, M1, h1, e2, fun a ha hma => ?_⟩))
    · rw [e2 26 (by omega), ht.1.1]
      exact (nI_leI (by show fb_ct (mv S) 16 < _; omega) (by omega)).mpr (Nat.le_refl _)
    · have hl := ix_lt ha hma
      rw [j1 _ (by omega), decide_eq_true hl, pI_ix ha hma]; rfl
