/-! the law's own steps (9): retreats, builds and removals, told exactly -/
theorem ct_cong {f g : Nat → Int32} (h : ∀ a, a < 16 → f a = g a) (v : Int32) : ct f v = ct g v := fb_ct_cong (fun k hk => by rw [h k hk])
theorem sE_rt {U S : Nat → Nat → Int32} (h : sE U S) {a : Nat} {v : Int32} : sE (cset U 11 (upd (U 11) a v)) (cset S 11 (upd (S 11) a v)) := ⟨fun k hk => by rw [cset_ne (by omega), cset_ne (by omega)]; exact h.1 k hk, fun k h5 hk j hj => by
  by_cases e : k = 11
  · subst e
    show upd (S 11) a v j = upd (U 11) a v j
    by_cases q : j = a
    · subst q; rw [upd_eq, upd_eq]
    · rw [upd_ne q, upd_ne q]; exact h.2.1 11 h5 hk j hj
  · rw [cset_ne e, cset_ne e]; exact h.2.1 k h5 hk j hj, fun j hj => by rw [cset_ne (by omega), cset_ne (by omega)]; exact h.2.2 j hj⟩
theorem sE_pl {U S : Nat → Nat → Int32} (h : sE U S) {a : Nat} {v w : Int32} : sE (placed U a v w) (placed S a v w) := ⟨fun k hk => by unfold placed; rw [cset_ne (by omega), cset_ne (by omega), cset_ne (by omega), cset_ne (by omega)]; exact h.1 k hk, fun k h5 hk j hj => by
  by_cases e : k = 7
  · subst e
    show upd (S 7) a w j = upd (U 7) a w j
    by_cases q : j = a
    · subst q; rw [upd_eq, upd_eq]
    · rw [upd_ne q, upd_ne q]; exact h.2.1 7 h5 hk j hj
  · by_cases e2 : k = 6
    · subst e2
      show upd (S 6) a v j = upd (U 6) a v j
      by_cases q : j = a
      · subst q; rw [upd_eq, upd_eq]
      · rw [upd_ne q, upd_ne q]; exact h.2.1 6 h5 hk j hj
    · unfold placed
      rw [cset_ne e, cset_ne e2, cset_ne e, cset_ne e2]; exact h.2.1 k h5 hk j hj, fun j hj => by unfold placed; rw [cset_ne (by omega), cset_ne (by omega), cset_ne (by omega), cset_ne (by omega)]; exact h.2.2 j hj⟩
theorem sE_aRt {C U S : Nat → Nat → Int32} (h : sE U S) {a c : Nat} (ha : a < 16) (hc : c < 16) : aRt C S a c = aRt C U a c := by
  unfold aRt
  rw [h.2.1 8 (by omega) (by omega) a ha, h.2.1 9 (by omega) (by omega) a ha, h.2.1 6 (by omega) (by omega) c hc, h.1 4 (by omega), h.2.1 10 (by omega) (by omega) a ha]
theorem stI_rt {C S : Nat → Nat → Int32} {n np T a : Nat} {v : Int32} (hi : stI C S n np T) (hd : ds S a = true) (hv : v = -1 ∨ ∃ d, d < n ∧ v = nI d) (h16 : n ≤ 16) : stI C (cset S 11 (upd (S 11) a v)) n np T := by
  have e11 : ∀ j, (cset S 11 (upd (S 11) a v)) 11 j = if j = a then v else S 11 j := fun _ => rfl
  refine ⟨?_, hi.ph, hi.d1, hi.o⟩
  obtain ⟨i2, i3, i4, i5, i6, i7, i8, i9, i10⟩ := hi.j
  refine ⟨i2, i3, i4, i5, i6, fun j hj q => ?_, i8, i9, fun j hj q => ?_⟩
  · have q' : ds S j = false := q
    have hne : ¬ j = a := fun e => by rw [e, hd] at q'; cases q'
    refine ⟨(i7 j hj q').1, ?_⟩
    rw [e11, if_neg hne]; exact (i7 j hj q').2
  · rw [e11] at q ⊢
    by_cases e : j = a
    · rw [if_pos e] at q ⊢
      rcases hv with rfl | ⟨d, hd2, rfl⟩
      · exact absurd rfl q
      · have : tn (nI d) = d := nI_clamp (by omega)
        rw [this]; exact ⟨rfl, hd2⟩
    · rw [if_neg e] at q ⊢; exact i10 j hj q
def RX (x : Nat) (ad : Nat → Nat) (W : Nat → Nat → Nat → Int32) (D : osS) (b : Nat → Nat) (L : Nat) (F : Prop) (P : (Nat → Nat → Int32) → Prop) (i : Nat) (r : Int32) (z1 : osS) : Prop := ∃ S' C' E', TW z1 x ad (Ws W 4 S') D C' E' ∧ ((r = 0 ∧ F) ∨ (r = 1 ∧ tkC b L i C' E' ∧ P S'))
section
variable {G : osG} {z : osS} {N x n np T L i a c : Nat} {ad : Nat → Nat} {W : Nat → Nat → Nat → Int32} {D : osS} {E : Nat → Nat → Int64} {b : Nat → Nat} {S C : Nat → Nat → Int32} {F : Prop} {P : (Nat → Nat → Int32) → Prop}
theorem RX_01 {r : Int32} {z1 : osS} (h : RX x ad W D b L F P i r z1) : r = 0 ∨ r = 1 := by
  obtain ⟨_, _, _, _, ⟨q, _⟩ | ⟨q, _⟩⟩ := h
  · exact Or.inl q
  · exact Or.inr q
theorem x_area {α : Type} {f1 : Int32 → osM α} {Q : α → osS → Prop} {v k : Nat} (cx : CXc G N x n L b W) (h : TW z x ad (Ws W 4 S) D C E) (tc : tkC b L i C E) (hi : i ≤ L) (hv : tM b L i = some v) (hk : fd (fun k => decide (W 1 5 k = nI v)) 0 n = some k)
    (ks : ∀ z1 C' E', TW z1 x ad (Ws W 4 S) D C' E' → tkC b L (tX b L i) C' E' → gx (f1 (nI k) G z1) Q) : gx (osbind (osrecv [6] (x + 6) (qX6_takeArea N (x + 6) (ad 0))) f1 G z) Q := by
  obtain ⟨hI, hA, hN, hL, hb, h0, h16⟩ := cx
  refine gx_recvQ h.2.o (by decide) (c_area_X7 h hb tc hL hi hA hN hI (n := n) (B := W 1) (fun z1 C1 E1 h1 => h1.1.bd) h0 h16) ?_
  rintro r z1 ⟨C1, E1, h1, e7, ⟨q, rfl, e8, e9⟩ | ⟨v', q, v1, v2, ⟨ef, rfl, e8, e9⟩ | ⟨k', ef, hk', rfl, t1, e8, e9⟩⟩⟩
  · rw [hv] at q; cases q
  · rw [hv] at q; cases q
    rw [hk] at ef; cases ef
  · rw [hv] at q; cases q
    rw [hk] at ef; cases ef
    exact ks z1 C1 E1 h1 t1
/-- one statement, and no more -/
theorem f_one (cx : CXc G N x n L b W) (h : TW z x ad (Ws W 4 S) D C E) (tc : tkC b L 0 C E) (h0 : tS b L 0 < L) (hi : i ≤ L) (hs : tK b L i = 2) (hx : tX b L i = L) (k1 : gx (qX7_readOne N (x + 6) (ad 0) (ad 3) G z) (RX x ad W D b L F P i)) : gx (qX7_readAll_9 N (x + 6, nI L, ad 0, ad 3, (0 : Int32)) G z) (RA x ad W D F (fun r S' => r = 1 ∧ P S')) := by
  obtain ⟨hI, hA, hN, hL, hb, hc0, h16⟩ := id cx
  unfold qX7_readAll_9
  refine gx_loop 1 (fun j p z1 => p = (x + 6, nI L, ad 0, ad 3, nI j) ∧ (j = 0 → z1 = z) ∧ (j = 1 → ∃ S' C' E', TW z1 x ad (Ws W 4 S') D C' E' ∧ tkC b L L C' E' ∧ P S')) ?_ ?_ N 0 _ z (Nat.zero_le _) (by omega) ⟨rfl, fun _ => rfl, fun q => absurd q (by decide)⟩
  · rintro ih j p z1 hj ⟨rfl, e0, _⟩ k
    have : j = 0 := by omega
    subst this
    have := e0 rfl
    subst this
    show gx (bX7_readAll_9 N ih (x + 6) (nI L) (ad 0) (ad 3) (nI 0) G z1) _
    unfold bX7_readAll_9 qX7_readAll_42
    refine gx_itef (fun q => by have := (nI_ltI (a := L) (b := 0) (by omega) (by omega)).mp q; omega) (gx_recvE h.2.o (by decide) (c_isEnd_X7 h tc (Nat.zero_le _)) ?_)
    rw [decide_eq_false (show ¬ L ≤ tS b L 0 by omega)]
    refine gx_itet rfl (gx_recvQ h.2.o (by decide) k1 ?_)
    rintro r z2 ⟨S', C', E', hw, ⟨rfl, hF⟩ | ⟨rfl, tc', hP'⟩⟩
    · exact gx_itet rfl (gx_ret ⟨S', C', E', hw, Or.inl ⟨rfl, hF⟩⟩)
    · refine gx_itef (by decide) (gx_recvQ hw.2.o (by decide) (c_semi1_X7 hw hb tc' hL hi hA hN hs) ?_)
      rintro r z3 ⟨rfl, C2, E2, h2, tc2, k2⟩
      rw [hx] at tc2
      exact gx_itef (by decide) (k _ z3 ⟨rfl, fun q => absurd q (by decide), fun _ => ⟨S', C2, E2, h2, tc2, hP'⟩⟩)
  · rintro ih p z1 ⟨rfl, _, h1⟩
    obtain ⟨S', C', E', hw, tc', hP'⟩ := h1 rfl
    show gx (bX7_readAll_9 N ih (x + 6) (nI L) (ad 0) (ad 3) (nI 1) G z1) _
    unfold bX7_readAll_9 qX7_readAll_42
    refine gx_itef (fun q => by have := (nI_ltI (a := L) (b := 1) (by omega) (by omega)).mp q; omega) (gx_recvE hw.2.o (by decide) (c_isEnd_X7 hw tc' (Nat.le_refl _)) ?_)
    rw [decide_eq_true tk_end]
    exact gx_itef (by decide) (gx_ret ⟨S', C', E', hw, Or.inr ⟨by decide, rfl, hP'⟩⟩)
theorem let_kw : lets [116, 111] ∧ lets [98, 117, 105, 108, 100] ∧ lets [114, 101, 109, 111, 118, 101] := by
  refine ⟨fun k hk => ?_, fun k hk => ?_, fun k hk => ?_⟩
  · have : k = 0 ∨ k = 1 := by simp at hk; omega
    rcases this with e | e <;> subst e <;> rfl
  · have : k = 0 ∨ k = 1 ∨ k = 2 ∨ k = 3 ∨ k = 4 := by simp at hk; omega
    rcases this with e | e | e | e | e <;> subst e <;> rfl
  · have : k = 0 ∨ k = 1 ∨ k = 2 ∨ k = 3 ∨ k = 4 ∨ k = 5 := by simp at hk; omega
    rcases this with e | e | e | e | e | e <;> subst e <;> rfl
theorem x_retreat (cx : CXc G N x n 7 b W) (h : TW z x ad (Ws W 4 S) D C E) (tc : tkC b 7 0 C E) (hb : bAt b 0 [97 + a, 32, 116, 111, 32, 97 + c, 59]) (hn : ∀ k, k < n → W 1 5 k = nI (k + 1)) (ha : a < n) (hc : c < n) (ph : S 0 0 = 1) (hd : ds S a = true) : gx (qX7_readAll_9 N (x + 6, nI 7, ad 0, ad 3, (0 : Int32)) G z) (RA x ad W D (aRt (W 1) S a c = false) (fun r S' => r = 1 ∧ aRt (W 1) S a c = true ∧ S' = cset S 11 (upd (S 11) a (nI c)))) := by
  have h16 := cx.2.2.2.2.2.2
  have hA := cx.2.1
  have ha16 : a < 16 := by omega
  have hc16 : c < 16 := by omega
  obtain ⟨n0, x0⟩ := nm0 (L := 7) (a := a) (c := 32) (r := [116, 111, 32, 97 + c, 59]) hb (by omega) rfl (by omega)
  obtain ⟨m1, x1, v1⟩ := tk1 (L := 7) (w := [116, 111]) (c := 32) (r := [97 + c, 59]) (bAt_c hb).2 let_kw.1 rfl (by decide) (by decide)
  have hb4 : bAt b 4 [32, 97 + c, 59] := (bAt_c (bAt_c (bAt_c (bAt_c hb).2).2).2).2
  obtain ⟨n4, x4⟩ := nm1 (L := 7) (a := c) (c := 59) (r := []) hb4 (by omega) rfl (by omega)
  have hb6 : bAt b 6 [59] := (bAt_c (bAt_c hb4).2).2
  obtain ⟨s6, x6⟩ := tk_semi (L := 7) hb6 (by omega)
  have x1' : tX b 7 1 = 4 := x1
  have k9 : kwb b 7 1 9 = true := by rw [kwb_is (by rw [m1]; decide) (v1 (by decide))]; decide +kernel
  have k12 : kwb b 7 1 12 = false := by rw [kwb_is (by rw [m1]; decide) (v1 (by decide))]; decide +kernel
  have s0 : tS b 7 0 < 7 := by
    have := (tM_some n0).1
    unfold tN at this
    have h2 := (tW_le (b := b) (L := 7) (i := 0) (Nat.zero_le _)).2
    omega
  refine f_one cx h tc s0 (i := 6) (by omega) s6 x6 ?_
  unfold qX7_readOne
  refine gx_gI h.d1.o (by decide) rfl (gx_itef (by rw [ph]; decide) (gx_gI h.d1.o (by decide) rfl (gx_itet ph (gx_recvQ (Q1 := RX x ad W D b 7 (aRt (W 1) S a c = false) (fun S' => aRt (W 1) S a c = true ∧ S' = cset S 11 (upd (S 11) a (nI c))) 6) h.2.o (by decide) ?_ (fun r z1 hx => gx_retZ (RX_01 hx) hx)))))
  unfold qX7_readRetreat
  refine x_area cx h tc (Nat.zero_le _) n0 (nm_find hn h16 ha) (fun z1 C1 E1 h1 t1 => ?_)
  rw [x0] at t1
  refine gx_itef (nI_m1 (by omega)) (gx_recvE h1.d1.o (by decide) (q_hasDislodgedN h1.d1 ha16) ?_)
  rw [show (!decide (S 8 a = -1)) = true from hd]
  refine gx_itef (by decide) (f_take cx h1 t1 (by omega) (by omega) (fun _ => ?_) (fun q => by rw [k12] at q; cases q))
  refine gx_itet rfl (f_takeF cx h1 t1 (by omega) (by omega) (fun q => by rw [k9] at q; cases q) (fun _ z2 C2 E2 h2 t2 _ _ => ?_))
  rw [x1'] at t2
  refine gx_itef (by decide) (x_area cx h2 t2 (by omega) n4 (nm_find hn h16 hc) (fun z3 C3 E3 h3 t3 => ?_))
  rw [x4] at t3
  refine gx_itef (nI_m1 (by omega)) (gx_recvE h3.d1.o (by decide) (q_X5_allowsRetreat h3.d1 h3.b1 ha16 hc16) (gx_iteB (fun e => ?_) (fun e => ?_)))
  · exact c_fail7 h3 hA (fun z4 C4 h4 _ _ => ⟨S, C4, E3, h4, Or.inl ⟨rfl, e⟩⟩)
  · exact gx_recvQ h3.d1.o (by decide) (q_X5_giveRetreat h3.d1 (h3.hA hA) ha16) (fun _ z4 ⟨f4, d4⟩ => gx_retZ (Or.inr rfl) ⟨_, C3, E3, h3.d2 f4 d4, Or.inr ⟨rfl, t3, e, rfl⟩⟩)
theorem x_build (cx : CXc G N x n 13 b W) (h : TW z x ad (Ws W 4 S) D C E) (tc : tkC b 13 0 C E) (hb : bAt b 0 [98, 117, 105, 108, 100, 32, 97 + a, 32, 97, 114, 109, 121, 59]) (hh : ∀ k, k < 16 → W 1 6 k = -1) (ph : S 0 0 = 2) (hnu : nu S ≤ 12) : gx (qX7_readAll_9 N (x + 6, nI 13, ad 0, ad 3, (0 : Int32)) G z) (RA x ad W D True (fun _ _ => False)) := by
  have h16 := cx.2.2.2.2.2.2
  have hA := cx.2.1
  have hN := cx.2.2.1
  obtain ⟨m0, x0, v0⟩ := tk0 (L := 13) (w := [98, 117, 105, 108, 100]) (c := 32) (r := [97 + a, 32, 97, 114, 109, 121, 59]) hb let_kw.2.1 rfl (by decide) (by decide)
  have k13 : kwb b 13 0 13 = true := by rw [kwb_is (by rw [m0]; decide) (v0 (by decide))]; decide +kernel
  have s0 : tS b 13 0 < 13 := by
    have := (tW_le (b := b) (L := 13) (i := 0) (Nat.zero_le _)).2
    unfold tN at m0
    have e5 : [98, 117, 105, 108, 100].length = 5 := rfl
    omega
  unfold qX7_readAll_9
  obtain ⟨M, hM⟩ : ∃ M, N = M + 1 := ⟨N - 1, by omega⟩
  suffices q : ∀ ih, gx (bX7_readAll_9 N ih (x + 6) (nI 13) (ad 0) (ad 3) (nI 0) G z) (RA x ad W D True (fun _ _ => False)) by
    rw [hM] at q ⊢
    exact q _
  intro ih
  refine f_round (P := fun _ => False) cx h tc (Nat.le_refl _) (Nat.zero_le _) (fun q => by omega) (fun _ => ?_) (fun _ _ _ _ _ _ _ _ q _ _ _ => q.elim)
  have zero : ∀ z1 S C1 E1, TW z1 x ad (Ws W 4 S) D C1 E1 → RO x ad W D b 13 (fun _ => False) 0 0 z1 := fun z1 S C1 E1 h => RO_f h
  unfold qX7_readOne
  refine gx_gI h.d1.o (by decide) rfl (gx_itef (by rw [ph]; decide) (gx_gI h.d1.o (by decide) rfl (gx_itef (by rw [ph]; decide) (f_take cx h tc (Nat.zero_le _) (by omega) (fun q => by rw [k13] at q; cases q) (fun _ z1 C1 E1 h1 t1 _ le => ?_)))))
  refine gx_itef (by decide) (gx_recvQ (Q1 := fun r z1 => r = 0 ∧ ∃ S C1 E1, TW z1 x ad (Ws W 4 S) D C1 E1) h1.2.o (by decide) ?_ (fun r z2 ⟨e, S2, C2, E2, h2⟩ => gx_retZ (Or.inl e) (by rw [e]; exact zero z2 S2 C2 E2 h2)))
  unfold qX7_readBuild
  refine f_area cx h1 t1 le (fun z2 C2 E2 h2 => gx_itet rfl (gx_retZ (Or.inl rfl) ⟨rfl, _, _, _, h2⟩)) (fun v k z2 C2 E2 _ _ hk hk16 h2 t2 _ _ => ?_)
  refine gx_itef (nI_m1 (by omega)) (gx_recvE h2.d1.o (by decide) (q_hasUnitN h2.d1 hk16) (gx_iteB (fun _ => ?_) (fun _ => ?_)))
  · refine gx_recvE h2.d1.o (by decide) (q_X5_allowsBuild h2.d1 h2.b1 hk16 hnu (by omega)) ?_
    have : aBd (W 1) S k = false := by
      unfold aBd
      rw [hh k hk16]; rfl
    rw [this]
    exact gx_itet rfl (c_fail7 h2 hA (fun z4 C4 h4 _ _ => ⟨rfl, _, _, _, h4⟩))
  · exact c_fail7 h2 hA (fun z4 C4 h4 _ _ => ⟨rfl, _, _, _, h4⟩)
theorem x_remove (cx : CXc G N x n 9 b W) (h : TW z x ad (Ws W 4 S) D C E) (tc : tkC b 9 0 C E) (hb : bAt b 0 [114, 101, 109, 111, 118, 101, 32, 97 + a, 59]) (hn : ∀ k, k < n → W 1 5 k = nI (k + 1)) (ha : a < n) (ph : S 0 0 = 2) : gx (qX7_readAll_9 N (x + 6, nI 9, ad 0, ad 3, (0 : Int32)) G z) (RA x ad W D (¬ (uu S a = true ∧ ct (S 5) (S 6 a) < ct (S 6) (S 6 a))) (fun r S' => r = 1 ∧ (uu S a = true ∧ ct (S 5) (S 6 a) < ct (S 6) (S 6 a)) ∧ S' = placed S a (-1) (-1))) := by
  have h16 := cx.2.2.2.2.2.2
  have hA := cx.2.1
  have hN := cx.2.2.1
  have ha16 : a < 16 := by omega
  obtain ⟨m0, x0, v0⟩ := tk0 (L := 9) (w := [114, 101, 109, 111, 118, 101]) (c := 32) (r := [97 + a, 59]) hb let_kw.2.2 rfl (by decide) (by decide)
  have x0' : tX b 9 0 = 6 := x0
  have k13 : kwb b 9 0 13 = false := by rw [kwb_is (by rw [m0]; decide) (v0 (by decide))]; decide +kernel
  have k14 : kwb b 9 0 14 = true := by rw [kwb_is (by rw [m0]; decide) (v0 (by decide))]; decide +kernel
  have hb6 : bAt b 6 [32, 97 + a, 59] := (bAt_c (bAt_c (bAt_c (bAt_c (bAt_c (bAt_c hb).2).2).2).2).2).2
  obtain ⟨n6, x6⟩ := nm1 (L := 9) (a := a) (c := 59) (r := []) hb6 (by omega) rfl (by omega)
  obtain ⟨s8, x8⟩ := tk_semi (L := 9) (bAt_c (bAt_c hb6).2).2 (by omega)
  have s0 : tS b 9 0 < 9 := by
    have := (tW_le (b := b) (L := 9) (i := 0) (Nat.zero_le _)).2
    unfold tN at m0
    have e5 : [114, 101, 109, 111, 118, 101].length = 6 := rfl
    omega
  refine f_one cx h tc s0 (i := 8) (by omega) s8 x8 ?_
  unfold qX7_readOne qX7_readOne_69 qX7_readOne_70
  refine gx_gI h.d1.o (by decide) rfl (gx_itef (by rw [ph]; decide) (gx_gI h.d1.o (by decide) rfl (gx_itef (by rw [ph]; decide) (f_take cx h tc (Nat.zero_le _) (by omega) (fun _ => ?_) (fun q => by rw [k13] at q; cases q)))))
  refine gx_itet rfl (f_takeF cx h tc (Nat.zero_le _) (by omega) (fun q => by rw [k14] at q; cases q) (fun _ z1 C1 E1 h1 t1 _ _ => ?_))
  rw [x0'] at t1
  refine gx_itef (by decide) (gx_recvQ (Q1 := RX x ad W D b 9 (¬ (uu S a = true ∧ ct (S 5) (S 6 a) < ct (S 6) (S 6 a))) (fun S' => (uu S a = true ∧ ct (S 5) (S 6 a) < ct (S 6) (S 6 a)) ∧ S' = placed S a (-1) (-1)) 8) h1.2.o (by decide) ?_ (fun r z2 hx => gx_ite (fun e => gx_retZ (Or.inl rfl) (by rw [e] at hx; exact hx)) (fun e => gx_retZ (Or.inr rfl) ?_)))
  · unfold qX7_readRemoval
    refine x_area cx h1 t1 (by omega) n6 (nm_find hn h16 ha) (fun z2 C2 E2 h2 t2 => ?_)
    rw [x6] at t2
    refine gx_itef (nI_m1 (by omega)) (gx_recvE h2.d1.o (by decide) (q_hasUnitN h2.d1 ha16) (gx_iteB (fun e => ?_) (fun e => ?_)))
    · exact c_fail7 h2 hA (fun z4 C4 h4 _ _ => ⟨S, C4, E2, h4, Or.inl ⟨rfl, fun q => by rw [show uu S a = false from e] at q; exact absurd q.1 (by decide)⟩⟩)
    · refine gx_gR h2.d1.o (by decide) rfl (gx_callE (q_entryN h2.d1.a6 ha16 (by omega)) (gx_recvE h2.d1.o (by decide) (q_needsRemoval h2.d1 (by omega)) (gx_iteD (fun e2 => ?_) (fun e2 => ?_))))
      · exact c_fail7 h2 hA (fun z4 C4 h4 _ _ => ⟨S, C4, E2, h4, Or.inl ⟨rfl, fun q => e2 q.2⟩⟩)
      · exact gx_recvQ h2.d1.o (by decide) (q_X5_placeUnit h2.d1 (h2.hA hA) ha16) (fun _ z4 ⟨f4, d4⟩ => gx_retZ (Or.inr rfl) ⟨_, C2, E2, h2.d2 f4 d4, Or.inr ⟨rfl, t2, ⟨e, e2⟩, rfl⟩⟩)
  · rcases RX_01 hx with q | q
    · exact absurd q e
    · rw [q] at hx; exact hx
end
