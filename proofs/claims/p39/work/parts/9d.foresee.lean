/-! foreseeMove (by program) -/
section
variable {C S S' M M' : Nat → Nat → Int32} {D : Nat → Nat → Int64} {n np T a b : Nat}
theorem ordOK_mv (ho : ordOK S n) (h6 : ∀ j, j < 16 → S' 6 j = S 6 j) (h12 : ∀ j, j < 16 → S' 12 j = if j = a then 1 else S 12 j) (h13 : ∀ j, j < 16 → S' 13 j = if j = a then nI b else S 13 j) (h14 : ∀ j, j < 16 → S' 14 j = if j = a then -1 else S 14 j) (hb : b < n) (h16 : n ≤ 16) : ordOK S' n := fun j hj hu => by
  have eu : ∀ j, j < 16 → uu S' j = uu S j := fun j hj => by unfold uu; rw [h6 j hj]
  rw [eu j hj] at hu
  by_cases e : j = a
  · subst e
    have e12 : S' 12 j = 1 := by rw [h12 j hj, if_pos rfl]
    have e13 : S' 13 j = nI b := by rw [h13 j hj, if_pos rfl]
    have eg : gof S' j = b := by unfold gof; rw [e13]; exact nI_clamp (by omega)
    rw [e12, e13, eg]
    exact ⟨Or.inr (Or.inl rfl), fun q => absurd q (by decide), fun _ => ⟨rfl, hb⟩, fun q => absurd q (by decide), fun _ => by rw [h14 j hj, if_pos rfl], fun q => absurd q (by decide)⟩
  · have e12 : S' 12 j = S 12 j := by rw [h12 j hj, if_neg e]
    have e13 : S' 13 j = S 13 j := by rw [h13 j hj, if_neg e]
    have e14 : S' 14 j = S 14 j := by rw [h14 j hj, if_neg e]
    have eg : gof S' j = gof S j := by unfold gof; rw [e13]
    have es : sof S' j = sof S j := by unfold sof; rw [e14]
    obtain ⟨o1, o2, o3, o4, o5, o6⟩ := ho j hj hu
    rw [e12, e13, e14, eg, es]
    exact ⟨o1, o2, o3, o4, o5, fun q => by rw [eu _ (by have := (o3 (by rw [q]; decide)).2; omega)]; exact o6 q⟩
theorem cpS_mv (hm : cpM C M D n np) (ht : cpT S (M 3)) (hi : stI C S n np T) (h0 : S 0 0 = 0) (h6 : ∀ j, j < 16 → S' 6 j = S 6 j) (h7 : ∀ j, j < 16 → S' 7 j = S 7 j) (h12 : ∀ j, j < 16 → S' 12 j = if j = a then 1 else S 12 j) (h13 : ∀ j, j < 16 → S' 13 j = if j = a then nI b else S 13 j) (h14 : ∀ j, j < 16 → S' 14 j = if j = a then -1 else S 14 j) (hb : b < n) (ha : a < 16) (e1 : M' 1 = M 1) (e3 : ∀ j, M' 3 j = if j = 133 + a then nI b else if j = 117 + a then 1 else M 3 j) : cpS C S' M' n := by
  have h16 := hm.n16
  have ho := ordOK_mv (hi.o h0) h6 h12 h13 h14 hb h16
  have eu : ∀ j, j < 16 → uu S' j = uu S j := fun j hj => by unfold uu; rw [h6 j hj]
  refine ⟨⟨by rw [e1]; exact hm.m0, h16⟩, fun j hj => ?_, fun j hj hu => ?_, okO_of ho h16, ?_⟩
  · obtain ⟨t1, t2, t3, t4, t5, t6, t7⟩ := ht.2.1 j hj
    obtain ⟨m1, m2, m3⟩ := hm.2.1 j hj
    rw [e1, e3, e3, e3, if_neg (by omega), if_neg (by omega), if_neg (by omega), t2, t5, t6, h6 j hj, h12 j hj, h13 j hj]
    refine ⟨rfl, ?_, ?_, m1, m2⟩
    · by_cases q : j = a
      · subst q; rw [if_pos rfl, if_pos rfl]
      · rw [if_neg q, if_neg (by omega)]
    · by_cases q : j = a
      · subst q; rw [if_pos rfl, if_pos rfl]
      · rw [if_neg q, if_neg (by omega), if_neg (by omega)]
  · have hu0 := hu
    rw [eu j hj] at hu
    obtain ⟨u1, u2, u3⟩ := hi.j.u j hj hu
    obtain ⟨o1, o2, o3, o4, o5, o6⟩ := ho j hj hu0
    rw [e3, if_neg (by omega), if_neg (by omega), h7 j hj]
    refine ⟨u1, ht.2.2.1 j hj hu, u3, fun q => ?_, o6, fun q => (o3 q).2⟩
    rw [e3, if_neg (by omega), if_neg (by omega), (ht.2.1 j hj).2.2.2.2.2.2, h14 j hj]
    rw [h12 j hj] at q
    by_cases e : j = a
    · subst e; rw [if_pos rfl] at q; exact absurd q (by decide)
    · rw [if_neg e]
  · have h1 := mv_le (S := S')
    have h2 := hi.j.c12
    rw [fb_ct_cong (fun j hj => eu j hj)] at h1
    omega
theorem kd1 (hm : cpM C M D n np) {a : Nat} (ha : a < 16) : decide (M 1 (2 + a) = 1) = bt (C 2 0) a := by
  obtain ⟨_, _, _, q2, _⟩ := hm.2.1 a ha
  rw [q2]
  unfold kdOf
  have h := (hm.2.2.2.2.1 a (by omega)).2
  cases h3 : bt (C 3 0) a
  · rw [if_neg (by decide)]
    cases h2 : bt (C 2 0) a
    · rfl
    · rfl
  · cases h2 : bt (C 2 0) a
    · rfl
    · rw [h (Or.inl h2)] at h3; cases h3
theorem kd2 (hm : cpM C M D n np) {a : Nat} (ha : a < 16) : decide (M 1 (2 + a) = 2) = bt (C 3 0) a := by
  obtain ⟨_, _, _, q2, _⟩ := hm.2.1 a ha
  rw [q2]
  unfold kdOf
  cases h3 : bt (C 3 0) a
  · cases h2 : bt (C 2 0) a <;> rfl
  · rfl
theorem psg_S (hm : cpM C M D n np) (hj : stJ C S n np T) (ht : cpT S (M 3)) {a : Nat} (ha : a < 16) (hu : uu S a = true) : psg M a (M 3 (37 + a)) = bd C a (S 7 a) := by
  rw [ht.2.2.1 a ha hu]
  rcases (hj.u a ha hu).2.2 with e | e <;> rw [e]
  · exact psg_b hm ha false
  · exact psg_b hm ha true
theorem cg_u (hj : stJ C S n np T) {a b : Nat} (ha : a < 16) (hu : uu S a = true) : cg C S a b = bt (bd C a (S 7 a)) b := by
  unfold cg
  rcases (hj.u a ha hu).2.2 with e | e <;> rw [e] <;> rfl
theorem mv_eq (hm : cpM C M D n np) (hj : stJ C S n np T) (ht : cpT S (M 3)) (ha : a < 16) (hb : b < 16) (hu : uu S a = true) : rMv M a b = aMv C S a b := by
  unfold rMv aMv jc
  rw [psg_S hm hj ht ha hu, cg_u hj ha hu, ht.2.2.1 a ha hu, kd1 hm ha, kd1 hm hb]
  cases bt (C 2 0) a <;> cases bt (C 2 0) b <;> cases decide (a = b) <;> rfl
end
section
variable {G : osG} {z : osS} {N x n np T : Nat} {ad : Nat → Nat} {W : Nat → Nat → Nat → Int32} {D : osS} {v w : Int32}
theorem gx_decideD {β : Type} {f : Unit → osM β} {Q : β → osS → Prop} (hw : WD z x ad W D) (ho : okO (W 4)) (hA : G.2.2.1 ≤ x) (hN : 5000 < N) (k : ∀ z1 J L, WD z1 x ad (Ws (Ws W 5 J) 6 L) D → LK (W 1) (W 4) L → (∀ a, a < 16 → hi0 (L 10 a)) → WJ (W 1) (W 4) (seaF (W 1) (W 4)) (srs (W 1) (W 4) (seaF (W 1) (W 4))).1 J → gx (f () G z1) Q) : gx (osbind (osrecv [1] (x + 8) (qX1_decide N (x + 8) (ad 0) (ad 3))) f G z) Q := by
  have hb9 := hw.ok.b
  have hs9 := hw.ok.s
  exact gx_recvQ hw.x1.o (by decide) (q_X1_decide hw.x1 hw.x2 hw.bd hw.dr (by omega) (by omega) (by omega) ho (by omega)) (fun _ z1 ⟨f1, J, L, h1, h2, a1, a2, a3, a4⟩ => k z1 J L (hw.c12 f1 h1 h2) a1 a2 a3)
end
