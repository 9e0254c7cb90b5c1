/-! Judge: search and decide (by program) -/
/-- the subsets of m in their order -/
def sub (m : Int32) : Nat → Int32
  | 0 => 0
  | i + 1 => (sub m i - m) &&& m
theorem sub_in {m : Int32} {i k : Nat} (h : bt (sub m i) k = true) : bt m k = true := by
  cases i with
  | zero => unfold sub at h; rw [b_0] at h; cases h
  | succ i => unfold sub at h; rw [b_and, Bool.and_eq_true] at h; exact h.2
def ng (C S : Nat → Nat → Int32) (sea : Bool) (o : Int32) : Nat := fb_ct (gvn C S sea (bt o)) 16
/-- one outcome looked at: best, found, most moves, most supports -/
def stQ (C S : Nat → Nat → Int32) (sea : Bool) (o : Int32) (q : Int32 × Nat × Nat × Nat) : Int32 × Nat × Nat × Nat :=
  if cns C S sea (bt o) = true then (if q.2.1 = 0 ∨ q.2.2.1 < cnt o ∨ (cnt o = q.2.2.1 ∧ q.2.2.2 ≤ ng C S sea o) then (o, q.2.1 + 1, cnt o, ng C S sea o) else (q.1, q.2.1 + 1, q.2.2.1, q.2.2.2)) else q
def srn (C S : Nat → Nat → Int32) (sea : Bool) (m : Int32) (n : Nat) : Int32 × Nat × Nat × Nat := osit (fun i q => stQ C S sea (sub m i) q) 0 n (0, 0, 0, 0)
theorem srn_b {C S : Nat → Nat → Int32} {sea : Bool} {m : Int32} : ∀ n, (srn C S sea m n).2.1 ≤ n ∧ (srn C S sea m n).2.2.1 ≤ 16 ∧ (srn C S sea m n).2.2.2 ≤ 16 ∧ ∀ k, bt (srn C S sea m n).1 k = true → bt m k = true
  | 0 => ⟨Nat.le_refl _, by show 0 ≤ 16; omega, by show 0 ≤ 16; omega, fun k h => by
      have : bt 0 k = true := h
      rw [b_0] at this; cases this⟩
  | n + 1 => by
    have ih := srn_b (C := C) (S := S) (sea := sea) (m := m) n
    unfold srn at ih ⊢
    rw [osit_last, Nat.zero_add]
    generalize osit (fun i q => stQ C S sea (sub m i) q) 0 n (0, 0, 0, 0) = q at ih ⊢
    have hc : cnt (sub m n) ≤ 16 := fb_ct_le _ 16
    have hg : ng C S sea (sub m n) ≤ 16 := fb_ct_le _ 16
    unfold stQ
    split
    · split
      · exact ⟨by show q.2.1 + 1 ≤ n + 1; omega, hc, hg, fun k h => sub_in h⟩
      · exact ⟨by show q.2.1 + 1 ≤ n + 1; omega, ih.2.1, ih.2.2.1, ih.2.2.2⟩
    · exact ⟨by omega, ih.2.1, ih.2.2.1, ih.2.2.2⟩
theorem sg_nI : ∀ k, k ≤ 12 → sg k = nI (2 ^ k) := by decide +kernel
theorem prep_hi10 {C S L : Nat → Nat → Int32} (ho : okO S) : ∀ a, a < 16 → hi0 (prep C S L 10 a) := fun j hj => by
  have hk := prep_LK (C := C) (L := L) ho
  by_cases hm : mv S j = true
  · rw [hk.hb hj hm]
    split
    · exact LK_hi8 hk _ (mv_g ho hj hm).2
    · exact fun i _ _ => b_0 i
  · rw [prep_eq, pp_10, at_rB, L2_10, L1_10 hj, L2_1, L1_1 (by omega)]
    have : mv S j = false := by simpa using hm
    rw [this]
    simp
    exact fun i _ _ => b_0 i
section
variable {G : osG} {z : osS} {N j : Nat} {C S L J : Nat → Nat → Int32}
theorem q_X1_search {sea : Bool} {k : Nat} (hj : rX1 z j J) (hl : rX2 z (j + 1) L) (hA : G.2.2.1 ≤ j) (hk : LK C S L) (hz10 : ∀ a, a < 16 → hi0 (L 10 a)) (ho : okO S) (hs : J 1 0 = b2i sea) (hm : k = min (fb_ct (mv S) 16) 12) (hN : 4096 < N) : gx (qX1_search N j G z) (fun v z' => v = nI (srn C S sea (L 1 0) (2 ^ k)).2.1 ∧ osFr j (j + 1) z z' ∧ ∃ J', rX1 z' j J' ∧ J' 1 = J 1 ∧ J' 7 = J 7 ∧ J' 4 0 = (srn C S sea (L 1 0) (2 ^ k)).1) := by
  have hz8 := LK_hi8 hk
  have him : hi0 (L 1 0) := hi0_of (fun i hi => hk.m hi)
  have hcm : cnt (L 1 0) = fb_ct (mv S) 16 := cnt_of (fun i hi => hk.m hi)
  have hk12 : k ≤ 12 := by omega
  have h2k : 2 ^ k ≤ 4096 := Nat.le_trans (Nat.pow_le_pow_right (by omega) hk12) (by decide)
  unfold qX1_search
  refine hj.p4 (by decide) hA (fun z0 f0 hj0 => ?_)
  have hl0 := hl.keep f0 (by omega)
  refine gx_gR hj0.o (by decide) rfl (gx_gI hl0.o (by decide) rfl (gx_callE (q_bc him) (gx_retb ?_)))
  have e1 : osshl (1 : Int32) (osmin (nI (cnt (L 1 0))) (12 : Int32)) = nI (2 ^ k) := by
    rw [show (12 : Int32) = nI 12 from rfl, osmin_nI (by have := fb_ct_le (bt (L 1 0)) 16; unfold cnt; omega) (by omega), hcm, ← hm]
    exact sg_nI k hk12
  rw [e1]
  unfold qX1_search_36
  refine gx_loop (2 ^ k) (fun i p z' => p = (j, sub (L 1 0) i, nI (srn C S sea (L 1 0) i).2.1, nI (srn C S sea (L 1 0) i).2.2.1, nI (srn C S sea (L 1 0) i).2.2.2, nI (2 ^ k), nI i) ∧ osFr j (j + 1) z z' ∧ ∃ J', rX1 z' j J' ∧ J' 1 = J 1 ∧ J' 7 = J 7 ∧ J' 4 0 = (srn C S sea (L 1 0) i).1) ?_ ?_ N 0 _ z0 (Nat.zero_le _) (by omega) ⟨rfl, f0, _, hj0, rfl, rfl, rfl⟩
  · rintro ih i p z' hi ⟨rfl, f_0, J1, h_1, r1, r7, r4⟩ kk
    have hl1 := hl.keep f_0 (by omega)
    have hb := srn_b (C := C) (S := S) (sea := sea) (m := L 1 0) i
    have esr : srn C S sea (L 1 0) (i + 1) = stQ C S sea (sub (L 1 0) i) (srn C S sea (L 1 0) i) := by unfold srn; rw [osit_last, Nat.zero_add]
    generalize srn C S sea (L 1 0) i = q at hb esr r4 kk ⊢
    have hX : ∀ a, a < 16 → bt (sub (L 1 0) i) a = true → mv S a = true := fun a ha q9 => by
      have := sub_in q9
      rw [hk.m (by omega)] at this
      simp at this
      exact this.2
    have ho1 : hi0 (sub (L 1 0) i) := fun a h1 h2 => by
      cases e : bt (sub (L 1 0) i) a
      · rfl
      · have := sub_in e
        rw [him a h1 h2] at this; cases this
    show gx (bX1_search_36 N ih j (sub (L 1 0) i) (nI q.2.1) (nI q.2.2.1) (nI q.2.2.2) (nI (2 ^ k)) (nI i) G z') _
    generalize ho9 : sub (L 1 0) i = o at hX ho1 esr ⊢
    unfold bX1_search_36
    refine gx_itef (nI_nleE (a := 2 ^ k) rfl rfl hi (by omega)) (gx_recvQ h_1.o (by decide) (q_X1_weigh (o := o) h_1 hl1 hA (by omega)) (fun _ z1 ⟨f1, h1⟩ => ?_))
    have hl2 := hl1.keep f1 (by omega)
    have w := wgh_WJ (J := J1) (o := o) hk ho (by rw [r1]; exact hs) hX
    have g1 : wgh L J1 o 1 = J 1 := by rw [wgh_1, r1]
    have g7 : wgh L J1 o 7 = J 7 := by rw [wgh_7, r7]
    have g4 : wgh L J1 o 4 0 = q.1 := by rw [wgh_4, r4]
    generalize wgh L J1 o = J2 at h1 w g1 g7 g4
    refine gx_recvE h1.o (by decide) (q_X1_isConsistent h1 hl2 hz8 hz10 (by omega)) ?_
    rw [cns_eq hk ho w]
    have k1 : ∀ z3 J3 f3 g3 v3, osFr j (j + 1) z1 z3 → rX1 z3 j J3 → J3 1 = J 1 → J3 7 = J 7 → (J3 4 0, f3, g3, v3) = stQ C S sea o q → gx (qX1_search_111 N ih j o (nI f3) (nI g3) (nI v3) (nI (2 ^ k)) (nI i) G z3) (fun v z' => v = nI (srn C S sea (L 1 0) (2 ^ k)).2.1 ∧ osFr j (j + 1) z z' ∧ ∃ J', rX1 z' j J' ∧ J' 1 = J 1 ∧ J' 7 = J 7 ∧ J' 4 0 = (srn C S sea (L 1 0) (2 ^ k)).1) := fun z3 J3 f3 g3 v3 fr h3 a1 a7 e9 => by
      have hl3 := hl2.keep fr (by omega)
      unfold qX1_search_111
      refine gx_gR h3.o (by decide) rfl (gx_gI hl3.o (by decide) rfl (gx_gR h3.o (by decide) rfl (gx_gI hl3.o (by decide) rfl ?_)))
      rw [nI_1]
      refine kk _ _ ⟨?_, (f_0.tr f1).tr fr, J3, h3, a1, a7, ?_⟩
      · rw [esr, ← e9]
        show (j, (o - L 1 0) &&& L 1 0, nI f3, nI g3, nI v3, nI (2 ^ k), nI (i + 1)) = (j, (sub (L 1 0) i - L 1 0) &&& L 1 0, _)
        rw [ho9]
      · rw [esr, ← e9]
    refine gx_iteB (fun c1 => ?_) (fun c1 => ?_)
    · exact k1 z1 J2 q.2.1 q.2.2.1 q.2.2.2 osFr.rf h1 g1 g7 (by unfold stQ; rw [if_neg (by rw [c1]; decide), g4])
    · have x3 : cnt (J2 5 0) = cnt o := by rw [w.1]
      have x5 : cnt (J2 3 0) = ng C S sea o := cnt_of (fun a ha => w.2.2.1 a ha)
      have b3 : cnt o ≤ 16 := fb_ct_le _ 16
      have b5 : ng C S sea o ≤ 16 := fb_ct_le _ 16
      refine gx_gI h1.o (by decide) rfl (gx_callE (q_bc (by rw [w.1]; exact ho1)) (gx_gI h1.o (by decide) rfl (gx_callE (q_bc (hi0_of (fun a ha => w.2.2.1 a ha))) ?_)))
      rw [x3, x5]
      have take : (q.2.1 = 0 ∨ q.2.2.1 < cnt o ∨ (cnt o = q.2.2.1 ∧ q.2.2.2 ≤ ng C S sea o)) → gx (qX1_search_96 N ih j o (nI q.2.1) (nI (2 ^ k)) (nI i) (nI (cnt o)) (nI (ng C S sea o)) G z1) (fun v z' => v = nI (srn C S sea (L 1 0) (2 ^ k)).2.1 ∧ osFr j (j + 1) z z' ∧ ∃ J', rX1 z' j J' ∧ J' 1 = J 1 ∧ J' 7 = J 7 ∧ J' 4 0 = (srn C S sea (L 1 0) (2 ^ k)).1) := fun hc => by
        unfold qX1_search_96 qX1_search_108
        refine h1.p4 (by decide) hA (fun z3 f3 h3 => ?_)
        rw [nI_1]
        exact k1 z3 _ (q.2.1 + 1) (cnt o) (ng C S sea o) f3 h3 g1 g7 (by unfold stQ; rw [if_pos c1, if_pos hc]; rfl)
      have leave : ¬ (q.2.1 = 0 ∨ q.2.2.1 < cnt o ∨ (cnt o = q.2.2.1 ∧ q.2.2.2 ≤ ng C S sea o)) → gx (qX1_search_108 N ih j o (nI q.2.1) (nI q.2.2.1) (nI q.2.2.2) (nI (2 ^ k)) (nI i) G z1) (fun v z' => v = nI (srn C S sea (L 1 0) (2 ^ k)).2.1 ∧ osFr j (j + 1) z z' ∧ ∃ J', rX1 z' j J' ∧ J' 1 = J 1 ∧ J' 7 = J 7 ∧ J' 4 0 = (srn C S sea (L 1 0) (2 ^ k)).1) := fun hc => by
        unfold qX1_search_108
        rw [nI_1]
        exact k1 z1 J2 (q.2.1 + 1) q.2.2.1 q.2.2.2 osFr.rf h1 g1 g7 (by unfold stQ; rw [if_pos c1, if_neg hc, g4])
      have z0e : (nI q.2.1 = 0) ↔ q.2.1 = 0 := by rw [show (0 : Int32) = nI 0 from rfl]; exact nI_eq (by omega) (by omega)
      refine gx_ite (fun c2 => take (Or.inl (z0e.mp c2))) (fun c2 => gx_ite (fun c3 => take (Or.inr (Or.inl ((nI_ltI (by omega) (by omega)).mp c3)))) (fun c3 => gx_ite (fun c4 => ?_) (fun c4 => ?_)))
      · have e4 := (nI_eq (by omega) (by omega)).mp c4
        refine gx_ite (fun c5 => leave ?_) (fun c5 => take (Or.inr (Or.inr ⟨e4, ?_⟩)))
        · have := (nI_ltI (by omega) (by omega)).mp c5
          rintro (h | h | h)
          · exact c2 (z0e.mpr h)
          · exact c3 ((nI_ltI (by omega) (by omega)).mpr h)
          · omega
        · have : ¬ ng C S sea o < q.2.2.2 := fun h => c5 ((nI_ltI (by omega) (by omega)).mpr h)
          omega
      · refine leave ?_
        rintro (h | h | h)
        · exact c2 (z0e.mpr h)
        · exact c3 ((nI_ltI (by omega) (by omega)).mpr h)
        · exact c4 (by rw [h.1])
  · rintro ih p z' ⟨rfl, f_0, J1, h_1, r1, r7, r4⟩
    show gx (bX1_search_36 N ih j _ _ _ _ (nI (2 ^ k)) (nI (2 ^ k)) G z') _
    unfold bX1_search_36
    exact gx_itet ((nI_leI (by omega) (by omega)).mpr (Nat.le_refl _)) (gx_ret ⟨by with_reducible rfl, f_0, J1, h_1, r1, r7, r4⟩)
end
