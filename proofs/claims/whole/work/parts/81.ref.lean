/-! the reference's settling: isStronger, should, isConsistent (by program) -/
def rSt (M : Nat → Nat → Int32) (i g w : Nat) : Bool := if M 23 i = -1 then !decide (M 33 i ≤ M 35 g) else !decide (M 33 i ≤ M 32 w)
def rSk (M : Nat → Nat → Int32) (i k : Nat) : Bool := !decide (k = i) && (decide (M 22 k = M 22 i) && !decide (M 34 k < M 33 i))
theorem q_X10_isStronger0 {G : osG} {z : osS} {N m i g w : Nat} {M : Nat → Nat → Int32} {D : Nat → Nat → Int64} (hm : rX10 z m M D) (hi : i < 12) (h22 : M 22 i = nI g) (hg : g < 16) (h23 : ¬ M 23 i = -1 → M 23 i = nI w) (hw : w < 12) : qX10_isStronger N m (nI i) G z = some (b2i (rSt M i g w), z) := by
  refine gx_eq ?_
  unfold qX10_isStronger
  (repeat (first | unfold qX10_isStronger_41 | unfold qX10_isStronger_49))
  exact gx_gR hm.o (by decide) rfl (gx_aE hm.a33 (rfl) (by omega) (Nat.le_of_ble_eq_true rfl) (gx_gR hm.o (by decide) rfl (gx_aE hm.a23 (rfl) (by omega) (Nat.le_of_ble_eq_true rfl) (gx_ite (fun (c_1 : (M 23 i) = (-1 : Int32)) => gx_gR hm.o (by decide) rfl (gx_gR hm.o (by decide) rfl (gx_aE hm.a22 (rfl) (by omega) (Nat.le_of_ble_eq_true rfl) (gx_aE hm.a35 (h22) (by omega) (Nat.le_of_ble_eq_true rfl) (gx_ite (fun (c_2 : (M 33 i) ≤ (M 35 g)) => gx_retZ (Or.inl rfl) ⟨(by first | with_reducible rfl | (simp [c_1, c_2, b2i, rSt]; done) | (clear hm; simp_all [b2i, rSt]; done)), rfl⟩) (fun (c_2 : ¬ ((M 33 i) ≤ (M 35 g))) => gx_retZ (Or.inr rfl) ⟨(by first | with_reducible rfl | (simp [c_1, c_2, b2i, rSt]; done) | (clear hm; simp_all [b2i, rSt]; done)), rfl⟩)))))) (fun (c_1 : ¬ ((M 23 i) = (-1 : Int32))) => gx_gR hm.o (by decide) rfl (gx_gR hm.o (by decide) rfl (gx_aE hm.a23 (rfl) (by omega) (Nat.le_of_ble_eq_true rfl) (gx_aE hm.a32 ((h23 (by assumption))) (by omega) (Nat.le_of_ble_eq_true rfl) (gx_ite (fun (c_3 : (M 33 i) ≤ (M 32 w)) => gx_retZ (Or.inl rfl) ⟨(by first | with_reducible rfl | (simp [c_1, c_3, b2i, rSt]; done) | (clear hm; simp_all [b2i, rSt]; done)), rfl⟩) (fun (c_3 : ¬ ((M 33 i) ≤ (M 32 w))) => gx_retZ (Or.inr rfl) ⟨(by first | with_reducible rfl | (simp [c_1, c_3, b2i, rSt]; done) | (clear hm; simp_all [b2i, rSt]; done)), rfl⟩))))))))))
theorem q_bX10_should_12 {G : osG} {z : osS} {N m i k mm : Nat} {M : Nat → Nat → Int32} {D : Nat → Nat → Int64} {Q : Int32 → osS → Prop} {ih : Nat × Int32 × Int32 → osM Int32} (hm : rX10 z m M D) (hn : M 26 0 = nI mm) (h12 : mm ≤ 12) (h9 : k < mm) (hi : i < 12) (k0 : rSk M i k = false → gx (ih (m, nI i, nI k + 1) G z) Q) (r : rSk M i k = true → Q 0 z) : gx (bX10_should_12 N ih m (nI i) (nI k) G z) Q := by
  unfold bX10_should_12
  (repeat (first | unfold qX10_should_57))
  exact gx_gI hm.o (by decide) rfl (gx_itef (nI_nleE (a := mm) (b := k) hn rfl h9 (by omega)) (gx_iteN (by omega) (by omega) (fun (c_1 : k = i) => k0 (by unfold rSk; simp [c_1])) (fun (c_1 : ¬ k = i) => gx_gR hm.o (by decide) rfl (gx_aE hm.a22 (rfl) (by omega) (Nat.le_of_ble_eq_true rfl) (gx_gR hm.o (by decide) rfl (gx_aE hm.a22 (rfl) (by omega) (Nat.le_of_ble_eq_true rfl) (gx_ite (fun (c_2 : (M 22 k) = (M 22 i)) => gx_gR hm.o (by decide) rfl (gx_aE hm.a33 (rfl) (by omega) (Nat.le_of_ble_eq_true rfl) (gx_gR hm.o (by decide) rfl (gx_aE hm.a34 (rfl) (by omega) (Nat.le_of_ble_eq_true rfl) (gx_ite (fun (c_3 : (M 34 k) < (M 33 i)) => k0 (by unfold rSk; simp [c_1, c_2, c_3])) (fun (c_3 : ¬ ((M 34 k) < (M 33 i))) => gx_retZ (Or.inl rfl) (r (by unfold rSk; simp [c_1, c_2, c_3])))))))) (fun (c_2 : ¬ ((M 22 k) = (M 22 i))) => k0 (by unfold rSk; simp [c_1, c_2])))))))))
theorem b2i_inj {a b : Bool} : b2i a = b2i b ↔ a = b := by cases a <;> cases b <;> decide
theorem nI_gt {a b : Nat} (ha : a < 2 ^ 31) (hb : b < 2 ^ 31) : (!decide (nI a ≤ nI b)) = decide (b < a) := by
  by_cases h : b < a
  · rw [decide_eq_true h, decide_eq_false (fun q => by have := (nI_leI ha hb).mp q; omega)]; rfl
  · rw [decide_eq_false h, decide_eq_true ((nI_leI ha hb).mpr (by omega))]; rfl
section
variable {G : osG} {z : osS} {N m n a : Nat} {C S M : Nat → Nat → Int32} {D : Nat → Nat → Int64} {sea : Bool}
theorem prv_le {X : Nat → Bool} {c : Nat} : prv C S sea X c ≤ 17 := by
  unfold prv
  split
  · exact str_le
  · omega
theorem q_X10_isStronger (hm : rX10 z m M D) (hc : cpS C S M n) (ht : mvT C S M) (hs : saT C S M n sea) (ha : a < 16) (hma : mv S a = true) : qX10_isStronger N m (nI (ix S a)) G z = some (b2i (decide (rsi C S sea (oX S (M 28 0)) a < att C S sea (oX S (M 28 0)) a)), z) := by
  have h12 := hc.m12
  have hl := ix_lt ha hma
  have hg := mv_g hc.o ha hma
  have hgn := hc.gn ha (mv_uu hma) (by unfold mv at hma; simp at hma; rw [hma.2]; decide)
  obtain ⟨s29, s30, s31, s32, s33, s35⟩ := hs
  have b1 := att_le (C := C) (S := S) (sea := sea) (X := oX S (M 28 0)) (a := a)
  have key : ∀ w, w < 12 → (opp C S a = true → w = ix S (gof S a)) → qX10_isStronger N m (nI (ix S a)) G z = some (b2i (decide (rsi C S sea (oX S (M 28 0)) a < att C S sea (oX S (M 28 0)) a)), z) := fun w hw hwo => by
    rw [q_X10_isStronger0 (g := gof S a) (w := w) hm (by omega) (ht.1.2.2 a ha hma).2.1 hg.2 (fun q => by
      rw [ht.2 a ha hma] at q ⊢
      cases ho : opp C S a
      · rw [ho] at q; exact absurd rfl q
      · rw [hwo ho]; rfl) hw]
    have : rSt M (ix S a) (gof S a) w = decide (rsi C S sea (oX S (M 28 0)) a < att C S sea (oX S (M 28 0)) a) := by
      unfold rSt rsi
      rw [(s33 a ha hma).1, s35 _ hgn]
      cases ho : opp C S a
      · rw [if_pos ((m23_1 hc ht ha hma).mpr ho)]
        have b2 := hld_le (C := C) (S := S) (sea := sea) (X := oX S (M 28 0)) (a := gof S a)
        exact nI_gt (by omega) (by omega)
      · rw [if_neg (fun q => by rw [(m23_1 hc ht ha hma).mp q] at ho; cases ho), hwo ho, s32 _ hg.2 (opp_mv ho).2]
        have b2 := str_le (C := C) (S := S) (sea := sea) (X := oX S (M 28 0)) (a := gof S a)
        exact nI_gt (by omega) (by omega)
    rw [this]
  cases ho : opp C S a
  · exact key 0 (by omega) (fun q => by rw [ho] at q; cases q)
  · exact key _ (by have := ix_lt hg.2 (opp_mv ho).2; omega) (fun _ => rfl)
theorem q_X10_should (hm : rX10 z m M D) (hc : cpS C S M n) (ht : mvT C S M) (hs : saT C S M n sea) (ha : a < 16) (hma : mv S a = true) (hN : 20 < N) : qX10_should N m (nI (ix S a)) G z = some (b2i (shd C S sea (oX S (M 28 0)) a), z) := by
  have h12 := hc.m12
  have hl := ix_lt ha hma
  have hg := mv_g hc.o ha hma
  refine gx_eq ?_
  unfold qX10_should
  refine gx_recvE hm.o (by decide) (q_X10_isStronger hm hc ht hs ha hma) (gx_iteB (fun c => gx_retZ (Or.inl rfl) ⟨?_, rfl⟩) (fun c => ?_))
  · unfold shd; rw [c]; rfl
  · have e : exn (rSk M (ix S a)) (fb_ct (mv S) 16) = exn (fun c => !decide (c = a) && ((mv S c && decide (gof S c = gof S a)) && decide (att C S sea (oX S (M 28 0)) a ≤ prv C S sea (oX S (M 28 0)) c))) 16 := by
      rw [exn_ix]
      refine exn_cong (fun b hb => ?_)
      cases hmb : mv S b
      · simp
      · have hgb := mv_g hc.o hb hmb
        unfold rSk
        rw [(ht.1.2.2 a ha hma).2.1, (ht.1.2.2 b hb hmb).2.1, dec_nI (by omega) (by omega), (hs.2.2.2.2.1 a ha hma).1, (hs.2.2.2.2.1 b hb hmb).2, dec_iff (ix_inj hmb hma)]
        have b1 := att_le (C := C) (S := S) (sea := sea) (X := oX S (M 28 0)) (a := a)
        have b2 := prv_le (C := C) (S := S) (sea := sea) (X := oX S (M 28 0)) (c := b)
        have e3 : (!decide (nI (prv C S sea (oX S (M 28 0)) b) < nI (att C S sea (oX S (M 28 0)) a))) = decide (att C S sea (oX S (M 28 0)) a ≤ prv C S sea (oX S (M 28 0)) b) := by
          by_cases h : att C S sea (oX S (M 28 0)) a ≤ prv C S sea (oX S (M 28 0)) b
          · rw [decide_eq_true h, decide_eq_false (fun q => by have := (nI_ltI (by omega) (by omega)).mp q; omega)]; rfl
          · rw [decide_eq_false h, decide_eq_true ((nI_ltI (by omega) (by omega)).mpr (by omega))]; rfl
        rw [e3]; simp
    have e2 : shd C S sea (oX S (M 28 0)) a = !exn (rSk M (ix S a)) (fb_ct (mv S) 16) := by
      unfold shd
      rw [c, e]; rfl
    rw [e2]
    unfold qX10_should_12
    refine gx_any (rSk M (ix S a)) (fb_ct (mv S) 16) (fun k => (m, nI (ix S a), nI k)) ?_ ?_ N (by omega)
    · intro ih i hi k r
      show gx (bX10_should_12 N ih m (nI (ix S a)) (nI i) G z) _
      exact q_bX10_should_12 hm ht.1.1 h12 hi (by omega) (fun q => by rw [nI_1]; exact k q) (fun q => by rw [r q]; exact ⟨rfl, rfl⟩)
    · intro ih h
      show gx (bX10_should_12 N ih m (nI (ix S a)) (nI (fb_ct (mv S) 16)) G z) _
      unfold bX10_should_12
      refine gx_gI hm.o (by decide) rfl (gx_itet ?_ (gx_retZ (Or.inr rfl) ⟨by rw [h]; rfl, rfl⟩))
      rw [ht.1.1]
      exact (nI_leI (by show fb_ct (mv S) 16 < _; omega) (by omega)).mpr (Nat.le_refl _)
theorem q_X10_isConsistent (hm : rX10 z m M D) (hc : cpS C S M n) (ht : mvT C S M) (hs : saT C S M n sea) (hN : 20 < N) : qX10_isConsistent N m G z = some (b2i (cns C S sea (oX S (M 28 0))), z) := by
  have h12 := hc.m12
  refine gx_eq ?_
  have e : cns C S sea (oX S (M 28 0)) = !exn (pI S (fun a => !decide (shd C S sea (oX S (M 28 0)) a = oX S (M 28 0) a))) (fb_ct (mv S) 16) := by
    unfold cns
    rw [exn_ix]
    congr 1
    refine exn_cong (fun a ha => ?_)
    cases hma : mv S a
    · rfl
    · rw [pI_ix ha hma]
  rw [e]
  unfold qX10_isConsistent qX10_isConsistent_2
  refine gx_any (pI S (fun a => !decide (shd C S sea (oX S (M 28 0)) a = oX S (M 28 0) a))) (fb_ct (mv S) 16) (fun i => (m, nI i)) ?_ ?_ N (by omega)
  · intro ih i hi k r
    obtain ⟨a, ha, hma, rfl⟩ := ix_of hi
    rw [pI_ix ha hma] at k r
    show gx (bX10_isConsistent_2 N ih m (nI (ix S a)) G z) _
    unfold bX10_isConsistent_2
    have hx : oX S (M 28 0) a = bt (M 28 0) (ix S a) := by rw [oX_in ha, hma, Bool.true_and]
    rw [hx] at k r
    refine gx_gI hm.o (by decide) rfl (gx_itef (nI_nleE (a := fb_ct (mv S) 16) (b := ix S a) ht.1.1 rfl hi (by omega)) (gx_recvE hm.o (by decide) (q_X10_should hm hc ht hs ha hma hN) (gx_gI hm.o (by decide) rfl (gx_callE (q_X10_has (by omega) rfl) (gx_ite (fun c => ?_) (fun c => gx_retZ (Or.inl rfl) ⟨?_, rfl⟩))))))
    · rw [nI_1]
      exact k (by rw [b2i_inj.mp c]; simp)
    · rw [r (by rw [decide_eq_false (fun q => c (b2i_inj.mpr q))]; rfl)]; rfl
  · intro ih h
    show gx (bX10_isConsistent_2 N ih m (nI (fb_ct (mv S) 16)) G z) _
    unfold bX10_isConsistent_2
    refine gx_gI hm.o (by decide) rfl (gx_itet ?_ (gx_retZ (Or.inr rfl) ⟨by rw [h]; rfl, rfl⟩))
    rw [ht.1.1]
    exact (nI_leI (by show fb_ct (mv S) 16 < _; omega) (by omega)).mpr (Nat.le_refl _)
end
