/-! Judge: decide (by program) -/
/-- how many moves there are, and the settling's numbers -/
def mk (S : Nat → Nat → Int32) : Nat := min (fb_ct (mv S) 16) 12
def mset (S : Nat → Nat → Int32) : Int32 := bset (mv S) 16
def srs (C S : Nat → Nat → Int32) (sea : Bool) : Int32 × Nat × Nat × Nat := srn C S sea (mset S) (2 ^ mk S)
def seaF (C S : Nat → Nat → Int32) : Bool := !decide ((srs C S true).2.1 = 0)
theorem LK_m {C S L : Nat → Nat → Int32} (hk : LK C S L) : L 1 0 = mset S := bset_of (fun i hi => hk.m hi)
theorem srs_X {C S : Nat → Nat → Int32} {sea : Bool} : ∀ i, i < 16 → bt (srs C S sea).1 i = true → mv S i = true := fun i hi h => by
  have := (srn_b (C := C) (S := S) (sea := sea) (m := mset S) (2 ^ mk S)).2.2.2 i h
  rw [show bt (mset S) i = mv S i from b_bs16 hi] at this
  exact this
theorem q_X1_decide {G : osG} {z : osS} {N j b s : Nat} {C S L J : Nat → Nat → Int32} (hj : rX1 z j J) (hl : rX2 z (j + 1) L) (hb : rX0 z b C) (h : rX5 z s S) (hA : G.2.2.1 ≤ j) (hd : j + 12 ≤ b ∨ b + 6 ≤ j) (hd2 : j + 12 ≤ s ∨ s + 12 ≤ j) (ho : okO S) (hN : 4096 < N) : gx (qX1_decide N j b s G z) (fun _ z' => osFr j (j + 12) z z' ∧ ∃ J' L', rX1 z' j J' ∧ rX2 z' (j + 1) L' ∧ LK C S L' ∧ (∀ a, a < 16 → hi0 (L' 10 a)) ∧ WJ C S (seaF C S) (srs C S (seaF C S)).1 J' ∧ J' 7 0 = nI (srs C S true).2.1) := by
  unfold qX1_decide
  refine gx_gR hj.o (by decide) rfl (gx_recvQ hl.o (by decide) (q_X2_prepare hl hb h (by omega) (by omega) (by omega) ho (by omega)) (fun _ z1 ⟨f1, hl1⟩ => gx_guard (Or.inr rfl) ?_))
  have hk : LK C S (prep C S L) := prep_LK ho
  have hz10 := prep_hi10 (C := C) (L := L) ho
  have hm := LK_m hk
  have hj1 := hj.keep f1 (by omega)
  generalize prep C S L = L' at hl1 hk hz10 hm
  refine hj1.p1 (by decide) hA (fun z2 f2 hj2 => ?_)
  have hl2 := hl1.keep f2 (by omega)
  refine gx_recvQ hj2.o (by decide) (q_X1_search (sea := true) (k := mk S) hj2 hl2 hA hk hz10 ho rfl rfl hN) (fun v z3 ⟨ev, f3, J3, hj3, g1, g7, g4⟩ => ?_)
  rw [hm] at ev g4
  have hl3 := hl2.keep f3 (by omega)
  subst ev
  refine hj3.p7 (by decide) hA (fun z4 f4 hj4 => gx_gI hj4.o (by decide) rfl ?_)
  have hl4 := hl3.keep f4 (by omega)
  have fr4 : osFr j (j + 12) z z4 := (((f1.wide (by omega) (by omega)).tr (f2.wide (by omega) (by omega))).tr (f3.wide (by omega) (by omega))).tr (f4.wide (by omega) (by omega))
  have fin : ∀ z5 J5 (sea : Bool), osFr j (j + 12) z z5 → rX1 z5 j J5 → rX2 z5 (j + 1) L' → sea = seaF C S → J5 1 0 = b2i sea → J5 4 0 = (srs C S sea).1 → J5 7 0 = nI (srs C S true).2.1 → gx (qX1_decide_39 N j G z5) (fun _ z' => osFr j (j + 12) z z' ∧ ∃ J' L', rX1 z' j J' ∧ rX2 z' (j + 1) L' ∧ LK C S L' ∧ (∀ a, a < 16 → hi0 (L' 10 a)) ∧ WJ C S (seaF C S) (srs C S (seaF C S)).1 J' ∧ J' 7 0 = nI (srs C S true).2.1) := fun z5 J5 sea fr h5 hl5 es e1 e4 e7 => by
    unfold qX1_decide_39
    refine gx_gI h5.o (by decide) rfl (gx_recvQ h5.o (by decide) (q_X1_weigh (o := J5 4 0) h5 hl5 hA (by omega)) (fun _ z6 ⟨f6, h6⟩ => gx_ret ⟨fr.tr (f6.wide (by omega) (by omega)), _, L', h6, hl5.keep f6 (by omega), hk, hz10, ?_, ?_⟩))
    · subst es
      have w := wgh_WJ (J := J5) (o := J5 4 0) hk ho e1 (by rw [e4]; exact srs_X)
      rw [e4] at w
      rw [e4]; exact w
    · rw [wgh_7]; exact e7
  have hle : (srs C S true).2.1 ≤ 2 ^ mk S := (srn_b (C := C) (S := S) (sea := true) (m := mset S) (2 ^ mk S)).1
  have h2k : 2 ^ mk S ≤ 4096 := Nat.le_trans (Nat.pow_le_pow_right (by omega) (by unfold mk; omega)) (show 2 ^ 12 ≤ 4096 by decide)
  have e0 : (nI (srs C S true).2.1 = 0) ↔ (srs C S true).2.1 = 0 := by
    rw [show (0 : Int32) = nI 0 from rfl]; exact nI_eq (by omega) (by omega)
  refine gx_ite (fun c => ?_) (fun c => ?_)
  · have c0 := e0.mp c
    refine gx_guard (Or.inl rfl) (hj4.p1 (by decide) hA (fun z5 f5 hj5 => ?_))
    have hl5 := hl4.keep f5 (by omega)
    refine gx_recvQ hj5.o (by decide) (q_X1_search (sea := false) (k := mk S) hj5 hl5 hA hk hz10 ho rfl rfl hN) (fun v z6 ⟨ev, f6, J6, hj6, k1, k7, k4⟩ => ?_)
    rw [hm] at k4
    refine fin z6 J6 false ((fr4.tr (f5.wide (by omega) (by omega))).tr (f6.wide (by omega) (by omega))) hj6 (hl5.keep f6 (by omega)) ?_ (by rw [k1]; rfl) k4 (by rw [k7]; rfl)
    unfold seaF
    rw [c0]; rfl
  · refine fin z4 _ true fr4 hj4 hl4 ?_ ?_ ?_ rfl
    · unfold seaF
      rw [decide_eq_false (fun q => c (e0.mpr q))]; rfl
    · show J3 1 0 = 1
      rw [g1]; rfl
    · exact g4
