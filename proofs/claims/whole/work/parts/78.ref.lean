/-! the reference's settling: belongs, isCut, laysGiven (by program) -/
theorem dec_iff {p q : Prop} [Decidable p] [Decidable q] (h : p ↔ q) : decide p = decide q := by
  by_cases x : p
  · rw [decide_eq_true x, decide_eq_true (h.mp x)]
  · rw [decide_eq_false x, decide_eq_false (fun y => x (h.mpr y))]
theorem dec_nI {a b : Nat} (ha : a < 2 ^ 31) (hb : b < 2 ^ 31) : decide (nI a = nI b) = decide (a = b) := dec_iff (nI_eq ha hb)
def rBe (M : Nat → Nat → Int32) (a c w : Nat) : Bool := if M 3 (117 + a) = 2 then decide (M 24 c = -1) else decide (M 3 (117 + a) = 3) && (!decide (M 24 c = -1) && decide (M 22 w = M 3 (149 + a)))
def rCu (M : Nat → Nat → Int32) (a : Nat) (v : Int32) (i : Nat) : Bool := decide (M 22 i = nI a) && (bt (M 30 0) i && (!decide (M 21 i = v) && !decide (M 3 (21 + tn (M 21 i)) = M 3 (21 + a))))
theorem q_X10_belongs0 {G : osG} {z : osS} {N m a c w : Nat} {M : Nat → Nat → Int32} {D : Nat → Nat → Int64} (hm : rX10 z m M D) (ha : a < 16) (hcf : M 3 (117 + a) = 2 ∨ M 3 (117 + a) = 3 → M 3 (133 + a) = nI c) (hc : c < 16) (hw : ¬ M 24 c = -1 → M 24 c = nI w) (hw12 : w < 12) : qX10_belongs N m (nI a) G z = some (b2i (rBe M a c w), z) := by
  refine gx_eq ?_
  unfold qX10_belongs
  (repeat (first | unfold qX10_belongs_39 | unfold qX10_belongs_91 | unfold qX10_belongs_92))
  exact gx_gR hm.o (by decide) rfl (gx_aE hm.a3 ((nI_sum (a := 133) (b := a) (rfl) (rfl))) (by omega) (Nat.le_of_ble_eq_true rfl) (gx_gR hm.o (by decide) rfl (gx_aE hm.a3 ((nI_sum (a := 117) (b := a) (rfl) (rfl))) (by omega) (Nat.le_of_ble_eq_true rfl) (gx_ite (fun (c_1 : (M 3 (117 + a)) = (2 : Int32)) => gx_gR hm.o (by decide) rfl (gx_aE hm.a24 ((hcf (by first | exact Or.inl (by assumption) | exact Or.inr (by assumption)))) (by omega) (Nat.le_of_ble_eq_true rfl) (gx_ite (fun (c_2 : (M 24 c) = (-1 : Int32)) => gx_retZ (Or.inr rfl) ⟨(by first | with_reducible rfl | (simp [c_1, c_2, b2i, rBe]; done) | (clear hm; simp_all [b2i, rBe]; done)), rfl⟩) (fun (c_2 : ¬ ((M 24 c) = (-1 : Int32))) => gx_retZ (Or.inl rfl) ⟨(by first | with_reducible rfl | (simp [c_1, c_2, b2i, rBe]; done) | (clear hm; simp_all [b2i, rBe]; done)), rfl⟩)))) (fun (c_1 : ¬ ((M 3 (117 + a)) = (2 : Int32))) => gx_gR hm.o (by decide) rfl (gx_aE hm.a3 ((nI_sum (a := 117) (b := a) (rfl) (rfl))) (by omega) (Nat.le_of_ble_eq_true rfl) (gx_ite (fun (c_3 : (M 3 (117 + a)) = (3 : Int32)) => gx_gR hm.o (by decide) rfl (gx_aE hm.a24 ((hcf (by first | exact Or.inl (by assumption) | exact Or.inr (by assumption)))) (by omega) (Nat.le_of_ble_eq_true rfl) (gx_ite (fun (c_4 : (M 24 c) = (-1 : Int32)) => gx_retZ (Or.inl rfl) ⟨(by first | with_reducible rfl | (simp [c_1, c_3, c_4, b2i, rBe]; done) | (clear hm; simp_all [b2i, rBe]; done)), rfl⟩) (fun (c_4 : ¬ ((M 24 c) = (-1 : Int32))) => gx_gR hm.o (by decide) rfl (gx_gR hm.o (by decide) rfl (gx_aE hm.a24 ((hcf (by first | exact Or.inl (by assumption) | exact Or.inr (by assumption)))) (by omega) (Nat.le_of_ble_eq_true rfl) (gx_aE hm.a22 ((hw (by assumption))) (by omega) (Nat.le_of_ble_eq_true rfl) (gx_gR hm.o (by decide) rfl (gx_aE hm.a3 ((nI_sum (a := 149) (b := a) (rfl) (rfl))) (by omega) (Nat.le_of_ble_eq_true rfl) (gx_ite (fun (c_5 : (M 22 w) = (M 3 (149 + a))) => gx_retZ (Or.inr rfl) ⟨(by first | with_reducible rfl | (simp [c_1, c_3, c_4, c_5, b2i, rBe]; done) | (clear hm; simp_all [b2i, rBe]; done)), rfl⟩) (fun (c_5 : ¬ ((M 22 w) = (M 3 (149 + a)))) => gx_retZ (Or.inl rfl) ⟨(by first | with_reducible rfl | (simp [c_1, c_3, c_4, c_5, b2i, rBe]; done) | (clear hm; simp_all [b2i, rBe]; done)), rfl⟩))))))))))) (fun (c_3 : ¬ ((M 3 (117 + a)) = (3 : Int32))) => gx_retZ (Or.inl rfl) ⟨(by first | with_reducible rfl | (simp [c_1, c_3, b2i, rBe]; done) | (clear hm; simp_all [b2i, rBe]; done)), rfl⟩))))))))
theorem q_bX10_isCut_39 {G : osG} {z : osS} {N m a i mm : Nat} {v : Int32} {M : Nat → Nat → Int32} {D : Nat → Nat → Int64} {Q : Int32 → osS → Prop} {ih : Nat × Int32 × Int32 × Int32 → osM Int32} (hm : rX10 z m M D) (hn : M 26 0 = nI mm) (h12 : mm ≤ 12) (h9 : i < mm) (ha : a < 16) (h21 : M 21 i = nI (tn (M 21 i))) (hb : tn (M 21 i) < 16) (k : rCu M a v i = false → gx (ih (m, nI a, v, nI i + 1) G z) Q) (r : rCu M a v i = true → Q 1 z) : gx (bX10_isCut_39 N ih m (nI a) v (nI i) G z) Q := by
  unfold bX10_isCut_39
  (repeat (first | unfold qX10_isCut_106))
  exact gx_gI hm.o (by decide) rfl (gx_itef (nI_nleE (a := mm) (b := i) hn rfl h9 (by omega)) (gx_gR hm.o (by decide) rfl (gx_aE hm.a22 (rfl) (by omega) (Nat.le_of_ble_eq_true rfl) (gx_ite (fun (c_1 : (M 22 i) = (nI (a))) => gx_gI hm.o (by decide) rfl (gx_callE (q_X10_has (by omega) rfl) (gx_iteB (fun (c_2 : (bt ((M 30 0)) i) = false) => k (by unfold rCu; simp [c_1, c_2])) (fun (c_2 : (bt ((M 30 0)) i) = true) => gx_gR hm.o (by decide) rfl (gx_aE hm.a21 (rfl) (by omega) (Nat.le_of_ble_eq_true rfl) (gx_ite (fun (c_3 : (M 21 i) = v) => k (by unfold rCu; simp [c_1, c_2, c_3])) (fun (c_3 : ¬ ((M 21 i) = v)) => gx_gR hm.o (by decide) rfl (gx_gR hm.o (by decide) rfl (gx_aE hm.a21 (rfl) (by omega) (Nat.le_of_ble_eq_true rfl) (gx_aE hm.a3 ((nI_sum (a := 21) (b := (tn (M 21 i))) (rfl) (h21))) (by omega) (Nat.le_of_ble_eq_true rfl) (gx_gR hm.o (by decide) rfl (gx_aE hm.a3 ((nI_sum (a := 21) (b := a) (rfl) (rfl))) (by omega) (Nat.le_of_ble_eq_true rfl) (gx_ite (fun (c_4 : (M 3 (21 + (tn (M 21 i)))) = (M 3 (21 + a))) => k (by unfold rCu; simp [c_1, c_2, c_3, c_4])) (fun (c_4 : ¬ ((M 3 (21 + (tn (M 21 i)))) = (M 3 (21 + a)))) => gx_retZ (Or.inr rfl) (r (by unfold rCu; simp [c_1, c_2, c_3, c_4])))))))))))))))) (fun (c_1 : ¬ ((M 22 i) = (nI (a)))) => k (by unfold rCu; simp [c_1]))))))
theorem q_X10_isCut_39 {G : osG} {z : osS} {N m a : Nat} {v : Int32} {C S M : Nat → Nat → Int32} {n : Nat} {D : Nat → Nat → Int64} (hm : rX10 z m M D) (hc : cpS C S M n) (ht : mvT C S M) (ha : a < 16) (hN : 16 < N) : qX10_isCut_39 N (m, nI a, v, (0 : Int32)) G z = some (b2i (exn (rCu M a v) (fb_ct (mv S) 16)), z) := by
  have h12 := hc.m12
  refine gx_eq ?_
  unfold qX10_isCut_39
  refine gx_any (rCu M a v) (fb_ct (mv S) 16) (fun i => (m, nI a, v, nI i)) ?_ ?_ N (by omega)
  · intro ih i hi k r
    obtain ⟨b, hb, hmb, rfl⟩ := ix_of hi
    have e := (ht.1.2.2 b hb hmb).1
    have e2 : tn (M 21 (ix S b)) = b := by rw [e]; exact nI_clamp (by omega)
    show gx (bX10_isCut_39 N ih m (nI a) v (nI (ix S b)) G z) _
    exact q_bX10_isCut_39 hm ht.1.1 h12 hi ha (by rw [e2]; exact e) (by rw [e2]; exact hb) (fun q => by rw [nI_1]; exact k q) (fun q => by rw [r q]; exact ⟨rfl, rfl⟩)
  · intro ih h
    show gx (bX10_isCut_39 N ih m (nI a) v (nI (fb_ct (mv S) 16)) G z) _
    unfold bX10_isCut_39
    refine gx_gI hm.o (by decide) rfl (gx_itet ?_ (gx_retZ (Or.inl rfl) ⟨by rw [h]; rfl, rfl⟩))
    rw [ht.1.1]
    exact (nI_leI (by show fb_ct (mv S) 16 < _; omega) (by omega)).mpr (Nat.le_refl _)
section
variable {G : osG} {z : osS} {N m n a : Nat} {C S M : Nat → Nat → Int32} {D : Nat → Nat → Int64} {X : Nat → Bool} {sea : Bool}
theorem q_X10_belongs (hm : rX10 z m M D) (hc : cpS C S M n) (ht : mvT C S M) (ha : a < 16) (hu : uu S a = true) : qX10_belongs N m (nI a) G z = some (b2i (blg S a), z) := by
  have h12 := hc.m12
  have key : ∀ c, c < 16 → (S 12 a = 2 ∨ S 12 a = 3 → c = gof S a) → qX10_belongs N m (nI a) G z = some (b2i (blg S a), z) := fun c hc16 hcg => by
    have key2 : ∀ w, w < 12 → (mv S c = true → w = ix S c) → qX10_belongs N m (nI a) G z = some (b2i (blg S a), z) := fun w hw hwc => by
      rw [q_X10_belongs0 (c := c) (w := w) hm ha (fun q => by
        rw [hc.k ha] at q
        rw [hc.f ha, hcg q]
        exact (uu_g hc.o ha hu (by rcases q with q | q <;> rw [q] <;> decide)).1) hc16 (fun q => by
        rw [ht.1.2.1 c hc16] at q ⊢
        cases hm9 : mv S c
        · rw [hm9] at q; exact absurd rfl q
        · rw [hwc hm9]; rfl) hw]
      have e24 : decide (M 24 c = -1) = !mv S c := by
        rw [ht.1.2.1 c hc16]
        cases hm9 : mv S c
        · rfl
        · have := ix_lt hc16 hm9
          rw [if_pos rfl, decide_eq_false (nI_m1 (by omega))]; rfl
      have : rBe M a c w = blg S a := by
        unfold rBe blg
        rw [e24, hc.k ha, hu]
        by_cases h2 : S 12 a = 2
        · have hcg := hcg (Or.inl h2)
          subst hcg
          rw [if_pos h2, hc.su ha hu h2, h2]
          cases mv S (gof S a) <;> rfl
        · rw [if_neg h2, decide_eq_false h2]
          by_cases h3 : S 12 a = 3
          · have hcg := hcg (Or.inr h3)
            subst hcg
            have hs := uu_s hc.o ha hu (Or.inl h3)
            rw [hc.s ha hu (Or.inl h3), hs.1, h3]
            cases hmg : mv S (gof S a)
            · rfl
            · have hw := hwc hmg
              subst hw
              have hgg := (mv_g hc.o hc16 hmg).2
              rw [(ht.1.2.2 _ hc16 hmg).2.1, dec_nI (by omega) (by omega)]
              simp
          · rw [decide_eq_false h3]; rfl
      rw [this]
    cases hm9 : mv S c
    · exact key2 0 (by omega) (fun q => by rw [hm9] at q; cases q)
    · exact key2 (ix S c) (by have := ix_lt hc16 hm9; omega) (fun _ => rfl)
  by_cases h0 : S 12 a = 2 ∨ S 12 a = 3
  · exact key (gof S a) (uu_g hc.o ha hu (by rcases h0 with q | q <;> rw [q] <;> decide)).2 (fun _ => rfl)
  · exact key 0 (by omega) (fun q => absurd q h0)
theorem q_X10_isCut (hm : rX10 z m M D) (hc : cpS C S M n) (ht : mvT C S M) (ha : a < 16) (hb : blg S a = true) (h30 : ∀ a, a < 16 → mv S a = true → bt (M 30 0) (ix S a) = pth C S sea X a) (hN : 16 < N) : qX10_isCut N m (nI a) G z = some (b2i (exn (fun c => cutt S a c && pth C S sea X c) 16), z) := by
  have hu := blg_uu hb
  have hk : S 12 a = 2 ∨ S 12 a = 3 := by
    unfold blg at hb
    simp at hb
    rcases hb.2 with q | q
    · exact Or.inl q.1
    · exact Or.inr q.1
  have fin : exn (rCu M a (nI (spr S a))) (fb_ct (mv S) 16) = exn (fun c => cutt S a c && pth C S sea X c) 16 := by
    rw [exn_ix]
    refine exn_cong (fun c hc16 => ?_)
    unfold cutt
    cases hmc : mv S c
    · rfl
    · have hsp : spr S a < 16 := by
        unfold spr
        split
        · rename_i h3; exact (uu_s hc.o ha hu (Or.inl h3)).2
        · exact (uu_g hc.o ha hu (by rcases hk with q | q <;> rw [q] <;> decide)).2
      obtain ⟨t1, t2, t3⟩ := ht.1.2.2 c hc16 hmc
      have hg := (mv_g hc.o hc16 hmc).2
      unfold rCu
      rw [t1, t2, h30 c hc16 hmc, show tn (nI c) = c from nI_clamp (by omega), hc.p hc16, hc.p ha, dec_nI (by omega) (by omega), dec_nI (by omega) (by omega)]
      cases decide (gof S c = a) <;> cases decide (c = spr S a) <;> cases decide (S 6 c = S 6 a) <;> cases pth C S sea X c <;> rfl
  refine gx_eq ?_
  unfold qX10_isCut
  refine gx_gR hm.o (by decide) rfl (gx_aE hm.a3 (nI_sum (a := 117) (b := a) rfl rfl) (by omega) (Nat.le_of_ble_eq_true rfl) ?_)
  rw [hc.k ha]
  refine gx_ite (fun c => ?_) (fun c => ?_)
  · refine gx_gR hm.o (by decide) rfl (gx_aE hm.a3 (nI_sum (a := 133) (b := a) rfl rfl) (by omega) (Nat.le_of_ble_eq_true rfl) ?_)
    unfold qX10_isCut_36
    refine gx_of (q_X10_isCut_39 hm hc ht ha hN) ⟨?_, rfl⟩
    rw [hc.f ha, (uu_g hc.o ha hu (by rw [c]; decide)).1, ← fin]
    unfold spr
    rw [if_neg (by rw [c]; decide)]
  · have h3 : S 12 a = 3 := by rcases hk with q | q; exact absurd q c; exact q
    refine gx_gR hm.o (by decide) rfl (gx_aE hm.a3 (nI_sum (a := 149) (b := a) rfl rfl) (by omega) (Nat.le_of_ble_eq_true rfl) ?_)
    unfold qX10_isCut_36
    refine gx_of (q_X10_isCut_39 hm hc ht ha hN) ⟨?_, rfl⟩
    rw [hc.s ha hu (Or.inl h3), (uu_s hc.o ha hu (Or.inl h3)).1, ← fin]
    unfold spr
    rw [if_pos h3]
end
def rGi (M : Nat → Nat → Int32) (vb vc : Bool) (a : Nat) : Bool := !decide (M 3 (21 + a) = -1) && (vb && (!bt (M 29 0) a && !vc))
theorem q_bX10_laysGiven_7 {G : osG} {z : osS} {N : Nat} {a : Nat} {m : Nat} {M : Nat → Nat → Int32} {D : Nat → Nat → Int64} {vb vc : Bool} {n : Nat} {Q : Unit → osS → Prop} {ih : Nat × Int32 → osM Unit} (hm : rX10 z m M D) (hA : G.2.2.1 ≤ m) (hn : M 1 0 = nI n) (h16 : n ≤ 16) (h9 : a < n) (hbe : ¬ M 3 (21 + a) = -1 → qX10_belongs N m (nI a) G z = some (b2i vb, z)) (hcu : ¬ M 3 (21 + a) = -1 → vb = true → qX10_isCut N m (nI a) G z = some (b2i vc, z)) (k : ∀ z1, osFr m (m + 21) z z1 → rX10 z1 m (stBit 31 (rGi M vb vc a) a M) D → gx (ih (m, nI a + 1) G z1) Q) : gx (bX10_laysGiven_7 N ih m (nI a) G z) Q := by
  unfold bX10_laysGiven_7
  (repeat (first | unfold qX10_laysGiven_59 | unfold qX10_laysGiven_60 | unfold qX10_laysGiven_81))
  exact gx_gR hm.o (by decide) rfl (gx_aE (i := 0) hm.a1 (rfl) (by omega) (Nat.le_of_ble_eq_true rfl) (gx_itef (nI_nleE (a := n) (b := a) hn rfl h9 (by omega)) (gx_gR hm.o (by decide) rfl (gx_callE (q_X10_isUnit hm.a3 (by omega) rfl) (gx_iteDn (fun (c_1 : M 3 (21 + a) = -1) => gx_itet (by decide) (gx_gI hm.o (by decide) rfl (hm.p31 (by decide) (by omega) (fun z_2 f_2 hm_2 => k _ (f_2.wide (by omega) (by omega)) (by have e9 : rGi M vb vc a = false := (by unfold rGi; simp [c_1]); unfold stBit; rw [e9]; exact hm_2))))) (fun (c_1 : ¬ (M 3 (21 + a) = -1)) => gx_recvE hm.o (by decide) (hbe (by assumption)) (gx_iteB (fun (c_3 : (vb) = false) => gx_itet (by decide) (gx_gI hm.o (by decide) rfl (hm.p31 (by decide) (by omega) (fun z_4 f_4 hm_4 => k _ (f_4.wide (by omega) (by omega)) (by have e9 : rGi M vb vc a = false := (by unfold rGi; simp [c_1, c_3]); unfold stBit; rw [e9]; exact hm_4))))) (fun (c_3 : (vb) = true) => gx_gI hm.o (by decide) rfl (gx_callE (q_X10_has (by omega) rfl) (gx_iteB (fun (c_5 : (bt ((M 29 0)) a) = false) => gx_recvE hm.o (by decide) (hcu (by assumption) (by assumption)) (gx_iteB (fun (c_6 : (vc) = false) => gx_itef (by decide) (gx_gI hm.o (by decide) rfl (hm.p31 (by decide) (by omega) (fun z_7 f_7 hm_7 => k _ (f_7.wide (by omega) (by omega)) (by have e9 : rGi M vb vc a = true := (by unfold rGi; simp [c_1, c_3, c_5, c_6]); unfold stBit; rw [e9]; exact hm_7))))) (fun (c_6 : (vc) = true) => gx_itet (by decide) (gx_gI hm.o (by decide) rfl (hm.p31 (by decide) (by omega) (fun z_8 f_8 hm_8 => k _ (f_8.wide (by omega) (by omega)) (by have e9 : rGi M vb vc a = false := (by unfold rGi; simp [c_1, c_3, c_5, c_6]); unfold stBit; rw [e9]; exact hm_8))))))) (fun (c_5 : (bt ((M 29 0)) a) = true) => gx_itet (by decide) (gx_gI hm.o (by decide) rfl (hm.p31 (by decide) (by omega) (fun z_9 f_9 hm_9 => k _ (f_9.wide (by omega) (by omega)) (by have e9 : rGi M vb vc a = false := (by unfold rGi; simp [c_1, c_3, c_5]); unfold stBit; rw [e9]; exact hm_9)))))))))))))))
theorem q_X10_laysGiven {G : osG} {z : osS} {N m n : Nat} {C S M : Nat → Nat → Int32} {D : Nat → Nat → Int64} {X : Nat → Bool} {sea : Bool} (hm : rX10 z m M D) (hA : G.2.2.1 ≤ m) (hc : cpS C S M n) (ht : mvT C S M) (h29 : ∀ j, j < 32 → bt (M 29 0) j = (decide (j < 16) && disl S X j)) (h30 : ∀ a, a < 16 → mv S a = true → bt (M 30 0) (ix S a) = pth C S sea X a) (hN : 16 < N) : gx (qX10_laysGiven N m G z) (fun _ z' => osFr m (m + 21) z z' ∧ ∃ M', rX10 z' m M' D ∧ (∀ k, k ≠ 31 → M' k = M k) ∧ ∀ j, j < 32 → bt (M' 31 0) j = (decide (j < 16) && gvn C S sea X j)) := by
  have h16 := hc.n16
  unfold qX10_laysGiven
  refine hm.p31 (by decide) hA (fun z0 f0 h0 => ?_)
  have e0 : ∀ k, k ≠ 31 → (cset M 31 fun _ => (0 : Int32)) k = M k := fun k hk => cset_ne hk
  unfold qX10_laysGiven_7
  refine gx_bits 31 (gvn C S sea X) n h16 (fun i => (m, nI i)) h0 rfl ?_ ?_ N (by omega)
  · intro ih a z1 M1 ha f1 h1 e1 k
    have e2 : ∀ k, k ≠ 31 → M1 k = M k := fun k hk => (e1 k hk).trans (e0 k hk)
    have hc1 : cpS C S M1 n := cpS_keep hc (e2 1 (by omega)) (e2 3 (by omega))
    have ht1 : mvT C S M1 := mvT_keep ht (fun k h1 h2 => e2 k (by omega))
    have ha16 : a < 16 := by omega
    have hux : ¬ M1 3 (21 + a) = -1 → uu S a = true := fun q => by rw [hc1.p ha16] at q; unfold uu; simp [q]
    show gx (bX10_laysGiven_7 N ih m (nI a) G z1) _
    refine q_bX10_laysGiven_7 (vb := blg S a) (vc := exn (fun c => cutt S a c && pth C S sea X c) 16) h1 hA hc1.n0 h16 ha (fun q => q_X10_belongs h1 hc1 ht1 ha16 (hux q)) (fun q q2 => q_X10_isCut h1 hc1 ht1 ha16 q2 (by rw [e2 30 (by omega)]; exact h30) hN) (fun z2 f2 h2 => ?_)
    rw [nI_1]
    have : rGi M1 (blg S a) (exn (fun c => cutt S a c && pth C S sea X c) 16) a = gvn C S sea X a := by
      unfold rGi gvn
      rw [hc1.un ha16, e2 29 (by omega), h29 a (by omega), decide_eq_true ha16, Bool.true_and]
      cases hb : blg S a
      · simp
      · rw [blg_uu hb]; rfl
    rw [this] at h2
    exact k z2 f2 h2
  · intro ih z1 M1 f1 h1 e1 j1
    have e2 : ∀ k, k ≠ 31 → M1 k = M k := fun k hk => (e1 k hk).trans (e0 k hk)
    show gx (bX10_laysGiven_7 N ih m (nI n) G z1) _
    unfold bX10_laysGiven_7
    refine gx_gR h1.o (by decide) rfl (gx_aE (i := 0) h1.a1 rfl (by omega) (Nat.le_of_ble_eq_true rfl) (gx_itet ?_ (gx_ret ⟨f0.tr f1, M1, h1, e2, fun j hj => ?_⟩)))
    · rw [e2 1 (by omega), hc.n0]
      exact (nI_leI (by omega) (by omega)).mpr (Nat.le_refl _)
    · rw [j1 j hj]
      by_cases q : j < n
      · rw [decide_eq_true q, decide_eq_true (show j < 16 by omega)]
      · rw [decide_eq_false q, Bool.false_and]
        by_cases q2 : j < 16
        · have : gvn C S sea X j = false := by
            cases e : gvn C S sea X j
            · rfl
            · exact absurd (hc.lt q2 (blg_uu (gvn_blg e))) q
          rw [this]; simp
        · rw [decide_eq_false q2]; rfl
