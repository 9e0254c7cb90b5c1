/-! the law's own steps (13): a settling taken back (by program, out of 51, 9b, a7) -/
/-- beyond their lengths the rows are the same -/
def tlS (S T : Nat → Nat → Int32) : Prop := (∀ k, 5 ≤ k → k < 15 → ∀ a, 16 ≤ a → T k a = S k a) ∧ ∀ a, 96 ≤ a → T 15 a = S 15 a
section
variable {S T : Nat → Nat → Int32}
theorem tl_rf : tlS S S := ⟨fun _ _ _ _ _ => rfl, fun _ _ => rfl⟩
theorem tl_set {k i : Nat} {v : Int32} (h : tlS S T) (hi : i < 16) : tlS S (cset T k (upd (T k) i v)) := by
  have e : ∀ j a, 16 ≤ a → cset T k (upd (T k) i v) j a = T j a := fun j a ha => by
    by_cases q : j = k
    · subst q
      show (if j = j then upd (T j) i v else T j) a = _
      rw [if_pos rfl, upd_ne (by omega)]
    · rw [cset_ne q]
  exact ⟨fun j h1 h2 a ha => (e j a ha).trans (h.1 j h1 h2 a ha), fun a ha => (e 15 a (by omega)).trans (h.2 a ha)⟩
theorem tl_lo {k : Nat} {f : Nat → Int32} (h : tlS S T) (hk : k < 5) : tlS S (cset T k f) := ⟨fun j h1 h2 a ha => by rw [cset_ne (by omega)]; exact h.1 j h1 h2 a ha, fun a ha => by rw [cset_ne (by omega)]; exact h.2 a ha⟩
theorem tl_osit {step : Nat → (Nat → Nat → Int32) → Nat → Nat → Int32} (hs : ∀ j b, j < 16 → tlS S b → tlS S (step j b)) : ∀ m, m ≤ 16 → tlS S T → tlS S (osit step 0 m T)
  | 0, _, h => h
  | m + 1, hm, h => by
    rw [osit_last, Nat.zero_add]
    exact hs m _ (by omega) (tl_osit hs m (by omega) h)
theorem tl_pl {i : Nat} {v w : Int32} (h : tlS S T) (hi : i < 16) : tlS S (placed T i v w) := by
  unfold placed
  exact tl_set (T := cset T 6 (upd (T 6) i v)) (k := 7) (tl_set h hi) hi
theorem tl_CU {i : Nat} (h : tlS S T) (hi : i < 16) : tlS S (stCU i T) := tl_set (T := cset T 6 (upd (T 6) i (-1))) (k := 7) (tl_set h hi) hi
theorem tl_CD {i : Nat} (h : tlS S T) (hi : i < 16) : tlS S (stCD i T) := by
  unfold stCD
  have h1 : tlS S (cset T 8 (upd (T 8) i (-1))) := tl_set h hi
  have h2 : tlS S (cset (cset T 8 (upd (T 8) i (-1))) 9 (upd (T 9) i (-1))) := tl_set (T := cset T 8 (upd (T 8) i (-1))) (k := 9) h1 hi
  have h3 : tlS S (cset (cset (cset T 8 (upd (T 8) i (-1))) 9 (upd (T 9) i (-1))) 10 (upd (T 10) i (-1))) := tl_set (T := cset (cset T 8 (upd (T 8) i (-1))) 9 (upd (T 9) i (-1))) (k := 10) h2 hi
  exact tl_set (T := cset (cset (cset T 8 (upd (T 8) i (-1))) 9 (upd (T 9) i (-1))) 10 (upd (T 10) i (-1))) (k := 11) h3 hi
theorem tl_HA {i : Nat} (h : tlS S T) (hi : i < 16) : tlS S (stHA i T) := by
  unfold stHA ordered
  have h1 : tlS S (cset T 12 (upd (T 12) i 0)) := tl_set h hi
  have h2 : tlS S (cset (cset T 12 (upd (T 12) i 0)) 13 (upd (T 13) i (-1))) := tl_set (T := cset T 12 (upd (T 12) i 0)) (k := 13) h1 hi
  exact tl_set (T := cset (cset T 12 (upd (T 12) i 0)) 13 (upd (T 13) i (-1))) (k := 14) h2 hi
theorem tl_CO {U J L : Nat → Nat → Int32} {i : Nat} (hg : bt (J 5 0) i = true → gof U i < 16) (h : tlS S T) (hi : i < 16) : tlS S (stCO U J L i T) := by
  unfold stCO
  by_cases c : bt (J 5 0) i = true
  · rw [if_pos c]; exact tl_pl h (hg c)
  · rw [if_neg c]
    by_cases c2 : bt (J 6 0) i = true
    · rw [if_pos c2]
      generalize oi (fd (jAtP L J i) 0 16) = w
      have h1 : tlS S (cset T 8 (upd (T 8) i (U 6 i))) := tl_set h hi
      have h2 : tlS S (cset (cset T 8 (upd (T 8) i (U 6 i))) 9 (upd (T 9) i (U 7 i))) := tl_set (T := cset T 8 (upd (T 8) i (U 6 i))) (k := 9) h1 hi
      exact tl_set (T := cset (cset T 8 (upd (T 8) i (U 6 i))) 9 (upd (T 9) i (U 7 i))) (k := 10) h2 hi
    · rw [if_neg c2]
      by_cases c3 : U 6 i = -1
      · rw [if_pos c3]; exact h
      · rw [if_neg c3]; exact tl_pl h hi
theorem tl_CN {F : Int32} {i : Nat} (h : tlS S T) : tlS S (stCN F i T) := by
  unfold stCN
  split
  · split
    · exact tl_lo h (by omega)
    · exact h
  · exact h
theorem tl_cOut {U J L : Nat → Nat → Int32} (hg : ∀ a, a < 16 → bt (J 5 0) a = true → gof U a < 16) : tlS S (cOut U J L S) := by
  have h1 : tlS S (cOut1 U J L S) := tl_osit (fun j b hj hb => tl_CO (hg j hj) hb hj) 16 (Nat.le_refl _) (tl_osit (fun j b hj hb => tl_CD hb hj) 16 (Nat.le_refl _) (tl_osit (fun j b hj hb => tl_CU hb hj) 16 (Nat.le_refl _) tl_rf))
  have h2 : tlS S (cOut2 U J L S) := tl_osit (fun j b _ hb => tl_CN hb) 16 (Nat.le_refl _) (tl_lo h1 (by omega))
  have h3 : tlS S (cOut3 J (cOut2 U J L S)) := tl_lo (tl_lo h2 (by omega)) (by omega)
  unfold cOut cOut4
  refine ⟨fun j a1 a2 a ha => by rw [cset_ne (by omega)]; exact h3.1 j a1 a2 a ha, fun a ha => ?_⟩
  refine Eq.trans ?_ (h3.2 a ha)
  show fl (cOut3 J (cOut2 U J L S) 15) (fun i => exV L J (i / 6) (i % 6)) 96 a = _
  unfold fl
  rw [if_neg (by omega)]
theorem tl_begun (h : tlS S T) : tlS S (begun T) := tl_osit (fun j b hj hb => tl_HA hb hj) 16 (Nat.le_refl _) (tl_lo (tl_lo h (by omega)) (by omega))
theorem tl_ctr {C : Nat → Nat → Int32} (h : tlS S T) : tlS S (ctr C T) := by
  refine ⟨fun j h1 h2 a ha => ?_, fun a ha => by rw [ctr_k (by omega)]; exact h.2 a ha⟩
  by_cases e : j = 5
  · subst e
    refine Eq.trans ?_ (h.1 5 h1 h2 a ha)
    unfold ctr
    rw [(ctr_i 16 (Nat.le_refl _)).2 a, if_neg (by omega)]
  · rw [ctr_k e]; exact h.1 j h1 h2 a ha
theorem tl_endS {C : Nat → Nat → Int32} {np t : Nat} {d : Bool} (h : tlS S T) : tlS S (endS C T np t d) := by
  unfold endS
  split
  · exact tl_lo h (by omega)
  · split
    · show tlS S (endT C (ctr C T) np)
      unfold endT
      split
      · exact tl_lo (tl_ctr h) (by omega)
      · exact tl_begun (tl_ctr h)
    · exact tl_begun h
end
theorem rX5_eq {z : osS} {a : Nat} {S S' : Nat → Nat → Int32} (h : rX5 z a S) (e0 : ∀ k, k < 5 → S k 0 = S' k 0) (e5 : ∀ k, 5 ≤ k → k < 16 → S k = S' k) : rX5 z a S' := by
  unfold rX5 fX5 at h ⊢
  rw [← e0 0 (by omega), ← e0 1 (by omega), ← e0 2 (by omega), ← e0 3 (by omega), ← e0 4 (by omega), ← e5 5 (by omega) (by omega), ← e5 6 (by omega) (by omega), ← e5 7 (by omega) (by omega), ← e5 8 (by omega) (by omega), ← e5 9 (by omega) (by omega), ← e5 10 (by omega) (by omega), ← e5 11 (by omega) (by omega), ← e5 12 (by omega) (by omega), ← e5 13 (by omega) (by omega), ← e5 14 (by omega) (by omega), ← e5 15 (by omega) (by omega)]
  exact h
theorem q_copyRowT {α : Type} {G : osG} {z : osS} {Q : α → osS → Prop} {F : Unit → osM α} {N a0 a n : Nat} {f g : Nat → Int32} (h0 : z.1 a0 = some (.inl (0, (n, .inl f)))) (h1 : z.1 a = some (.inl (0, (n, .inl g)))) (hn : n < 2 ^ 31) (hA : G.2.2.1 ≤ a) (kk : ∀ W : Nat → Int32, (∀ i, i < n → W i = f i) → (∀ i, n ≤ i → W i = g i) → gx (F () G (osup z a (.inl (0, (n, .inl W))))) Q) : gx (osbind (qX5_copyRow N a0 a) F G z) Q := by
  refine gx_callE ?_ (kk (va_cpy f g 0 0 n) (fun i hi => ?_) (fun i hi => ?_))
  · refine gx_eq ?_
    unfold qX5_copyRow
    refine gx_len h0 (gx_len h1 (gx_callE (b := ()) ?_ (gx_ret ⟨rfl, rfl⟩)))
    show oscopy a0 0 a 0 (osmin (nI n) (nI n)) G z = _
    rw [osmin_nI hn hn, Nat.min_self]
    unfold oscopy
    rw [osga_of h0, osga_of h1]
    have e : (nI n).toNatClampNeg = n := nI_clamp hn
    have e2 : ¬ nI n < 0 := nI_pos hn
    show (if _ then _ else _) = _
    rw [if_pos (by rw [e]; exact ⟨by decide, by decide, e2, Nat.le_of_eq (Nat.zero_add n), Nat.le_of_eq (Nat.zero_add n), hA⟩), e]
    rfl
  · unfold va_cpy
    simp [hi]
  · unfold va_cpy
    simp; omega
theorem q_X5_copyFromT {G : osG} {z : osS} {N s t : Nat} {S U : Nat → Nat → Int32} (h : rX5 z s S) (hu : rX5 z t U) (hA : G.2.2.1 ≤ s) (hd : s + 12 ≤ t ∨ t + 12 ≤ s) (hb2 : U 2 0 = 0 ∨ U 2 0 = 1) : gx (qX5_copyFrom N s t G z) (fun _ z' => osFr s (s + 12) z z' ∧ ∃ W, rX5 z' s W ∧ (∀ k, k < 5 → W k 0 = U k 0) ∧ (∀ k, 5 ≤ k → k < 15 → ∀ a, a < 16 → W k a = U k a) ∧ (∀ a, a < 96 → W 15 a = U 15 a) ∧ tlS S W) := by
  unfold qX5_copyFrom
  refine gx_gI hu.o (by decide) rfl (h.p0 (by decide) hA (fun z1 f1 h1 => ?_))
  have u1 := hu.keep f1 (by omega)
  refine gx_gI u1.o (by decide) rfl ((h1.p1 (by decide) hA (fun z2 f2 h2 => ?_)))
  have u2 := u1.keep f2 (by omega)
  refine gx_gI u2.o (by decide) rfl (gx_guard hb2 (h2.p2 (by decide) hA (fun z3 f3 h3 => ?_)))
  have u3 := u2.keep f3 (by omega)
  refine gx_gI u3.o (by decide) rfl ((h3.p3 (by decide) hA (fun z4 f4 h4 => ?_)))
  have u4 := u3.keep f4 (by omega)
  refine gx_gI u4.o (by decide) rfl ((h4.p4 (by decide) hA (fun z5 f5 h5 => ?_)))
  have u5 := u4.keep f5 (by omega)
  refine gx_gR u5.o (by decide) rfl (gx_gR h5.o (by decide) rfl (q_copyRowT u5.a5 h5.a5 (Nat.le_of_ble_eq_true rfl) (by omega) (fun W5 w5 v5 => ?_)))
  have h6 := h5.w5 W5
  have u6 := u5.up (q := s + 1) (e := .inl (0, (16, .inl W5))) (by omega)
  refine gx_gR u6.o (by decide) rfl (gx_gR h6.o (by decide) rfl (q_copyRowT u6.a6 h6.a6 (Nat.le_of_ble_eq_true rfl) (by omega) (fun W6 w6 v6 => ?_)))
  have h7 := h6.w6 W6
  have u7 := u6.up (q := s + 2) (e := .inl (0, (16, .inl W6))) (by omega)
  refine gx_gR u7.o (by decide) rfl (gx_gR h7.o (by decide) rfl (q_copyRowT u7.a7 h7.a7 (Nat.le_of_ble_eq_true rfl) (by omega) (fun W7 w7 v7 => ?_)))
  have h8 := h7.w7 W7
  have u8 := u7.up (q := s + 3) (e := .inl (0, (16, .inl W7))) (by omega)
  refine gx_gR u8.o (by decide) rfl (gx_gR h8.o (by decide) rfl (q_copyRowT u8.a8 h8.a8 (Nat.le_of_ble_eq_true rfl) (by omega) (fun W8 w8 v8 => ?_)))
  have h9 := h8.w8 W8
  have u9 := u8.up (q := s + 4) (e := .inl (0, (16, .inl W8))) (by omega)
  refine gx_gR u9.o (by decide) rfl (gx_gR h9.o (by decide) rfl (q_copyRowT u9.a9 h9.a9 (Nat.le_of_ble_eq_true rfl) (by omega) (fun W9 w9 v9 => ?_)))
  have h10 := h9.w9 W9
  have u10 := u9.up (q := s + 5) (e := .inl (0, (16, .inl W9))) (by omega)
  refine gx_gR u10.o (by decide) rfl (gx_gR h10.o (by decide) rfl (q_copyRowT u10.a10 h10.a10 (Nat.le_of_ble_eq_true rfl) (by omega) (fun W10 w10 v10 => ?_)))
  have h11 := h10.w10 W10
  have u11 := u10.up (q := s + 6) (e := .inl (0, (16, .inl W10))) (by omega)
  refine gx_gR u11.o (by decide) rfl (gx_gR h11.o (by decide) rfl (q_copyRowT u11.a11 h11.a11 (Nat.le_of_ble_eq_true rfl) (by omega) (fun W11 w11 v11 => ?_)))
  have h12 := h11.w11 W11
  have u12 := u11.up (q := s + 7) (e := .inl (0, (16, .inl W11))) (by omega)
  refine gx_gR u12.o (by decide) rfl (gx_gR h12.o (by decide) rfl (q_copyRowT u12.a12 h12.a12 (Nat.le_of_ble_eq_true rfl) (by omega) (fun W12 w12 v12 => ?_)))
  have h13 := h12.w12 W12
  have u13 := u12.up (q := s + 8) (e := .inl (0, (16, .inl W12))) (by omega)
  refine gx_gR u13.o (by decide) rfl (gx_gR h13.o (by decide) rfl (q_copyRowT u13.a13 h13.a13 (Nat.le_of_ble_eq_true rfl) (by omega) (fun W13 w13 v13 => ?_)))
  have h14 := h13.w13 W13
  have u14 := u13.up (q := s + 9) (e := .inl (0, (16, .inl W13))) (by omega)
  refine gx_gR u14.o (by decide) rfl (gx_gR h14.o (by decide) rfl (q_copyRowT u14.a14 h14.a14 (Nat.le_of_ble_eq_true rfl) (by omega) (fun W14 w14 v14 => ?_)))
  have h15 := h14.w14 W14
  have u15 := u14.up (q := s + 10) (e := .inl (0, (16, .inl W14))) (by omega)
  refine gx_gR u15.o (by decide) rfl (gx_gR h15.o (by decide) rfl (q_copyRowT u15.a15 h15.a15 (Nat.le_of_ble_eq_true rfl) (by omega) (fun W15 w15 v15 => ?_)))
  have h16 := h15.w15 W15
  have u16 := u15.up (q := s + 11) (e := .inl (0, (96, .inl W15))) (by omega)
  refine gx_ret ⟨(((((((((((((((f1.tr f2).tr f3).tr f4).tr f5).up (by omega) (by omega)).up (by omega) (by omega)).up (by omega) (by omega)).up (by omega) (by omega)).up (by omega) (by omega)).up (by omega) (by omega)).up (by omega) (by omega)).up (by omega) (by omega)).up (by omega) (by omega)).up (by omega) (by omega)).up (by omega) (by omega)), _, h16, fun k hk => ?_, fun k hk1 hk2 a ha => ?_, fun a ha => w15 a ha, fun k hk1 hk2 a ha => ?_, fun a ha => v15 a ha⟩
  · rcases (show k = 0 ∨ k = 1 ∨ k = 2 ∨ k = 3 ∨ k = 4 by omega) with e | e | e | e | e <;> subst e <;> rfl
  · rcases (show k = 5 ∨ k = 6 ∨ k = 7 ∨ k = 8 ∨ k = 9 ∨ k = 10 ∨ k = 11 ∨ k = 12 ∨ k = 13 ∨ k = 14 by omega) with e | e | e | e | e | e | e | e | e | e <;> subst e
    · exact w5 a ha
    · exact w6 a ha
    · exact w7 a ha
    · exact w8 a ha
    · exact w9 a ha
    · exact w10 a ha
    · exact w11 a ha
    · exact w12 a ha
    · exact w13 a ha
    · exact w14 a ha
  · rcases (show k = 5 ∨ k = 6 ∨ k = 7 ∨ k = 8 ∨ k = 9 ∨ k = 10 ∨ k = 11 ∨ k = 12 ∨ k = 13 ∨ k = 14 by omega) with e | e | e | e | e | e | e | e | e | e <;> subst e
    · exact v5 a ha
    · exact v6 a ha
    · exact v7 a ha
    · exact v8 a ha
    · exact v9 a ha
    · exact v10 a ha
    · exact v11 a ha
    · exact v12 a ha
    · exact v13 a ha
    · exact v14 a ha
section
variable {G : osG} {z : osS} {N x n np T t : Nat} {ad : Nat → Nat} {W : Nat → Nat → Nat → Int32} {D : osS}
theorem q_X9_settleT (hw : WD z x ad W D) (hi : IVn W D n np T) (ph : W 3 0 0 = 0) (et : W 3 1 0 = nI t) (ht31 : t < 2 ^ 31) (hA : G.2.2.1 ≤ x) (hN : 5000 < N) : gx (qX9_settle N x G z) (fun r z' => ∃ ad' W', WD z' x ad' W' D ∧ r = .inr (nI (cnt (srs (W 1) (W 3) (seaF (W 1) (W 3))).1)) ∧ setC W W' np t ∧ tlS (W 3) (W' 3)) := by
  have hor := hi.i.o ph
  have h16 := hi.m.n16
  have h4 := hi.m.p4
  have ho := okO_of hor h16
  have hb2 := hi.i.j.b2
  obtain ⟨u, h6, u1, _⟩ := hi.p
  unfold qX9_settle qX9_settle_82
  refine gx_reqPh hw (fun q => absurd ph q) (fun _ => ?_)
  refine gx_recvQ hw.x9.o (by decide) (q_X9_remember hw hA u1 h6 hb2 hN) (fun _ z1 ⟨ad1, W1, s, v, w1, euv, hv, hvs, rc⟩ => ?_)
  have k1 : W1 1 = W 1 := rc.2.2.2.1 1 (by omega) (by omega)
  have k3 : W1 3 = W 3 := rc.2.2.2.1 3 (by omega) (by omega)
  have hb9 := w1.ok.b
  have hs9 := w1.ok.s
  refine gx_gR w1.x9.o (by decide) rfl (gx_gR w1.x9.o (by decide) rfl (gx_gR w1.x9.o (by decide) rfl ?_))
  refine gx_decide w1 (by rw [k3]; exact ho) hA hN (fun z2 J L w2 hk hi10 hWJ hJ7 => ?_)
  rw [k1, k3] at hk hWJ hJ7
  refine gx_gR w2.x9.o (by decide) rfl (gx_gR w2.x9.o (by decide) rfl (gx_recvQ w2.dr.o (by decide) (q_X5_copyFrom w2.dr w2.nw (by omega) (by omega) ?_) (fun _ z3 ⟨f3, U, h3, u1', u2', u3'⟩ => ?_)))
  · rw [Ws_ne (by omega), Ws_ne (by omega), k3]; exact hb2
  have w3 := w2.cd f3 h3
  have hsE : sE (W 3) U := by
    rw [Ws_ne (by omega), Ws_ne (by omega), k3] at u1' u2' u3'
    exact ⟨u1', u2', u3'⟩
  have n3 := w3.nw
  have j3 := w3.x1
  have l3 := w3.x2
  have d3 := w3.dr
  rw [Ws_ne (by omega), Ws_ne (by omega), Ws_ne (by omega), k3] at n3
  rw [Ws_ne (by omega), Ws_ne (by omega), Ws_eq] at j3
  rw [Ws_ne (by omega), Ws_eq] at l3
  rw [Ws_eq] at d3
  have hX : ∀ a, bt (srs (W 1) (W 3) (seaF (W 1) (W 3))).1 a = true → a < 16 ∧ mv (W 3) a = true := fun a h => xF_in h
  have hgo : ∀ a, a < 16 → bt (J 5 0) a = true → U 13 a = nI (gof U a) ∧ gof U a < 16 := fun a ha q => by
    rw [hWJ.1] at q
    have hmv := (hX a q).2
    have hk0 : ¬ W 3 12 a = 0 := by unfold mv at hmv; simp at hmv; rw [hmv.2]; decide
    have := (ho a ha (by have := mv_uu hmv; unfold uu at this; simpa using this)).2.1 hk0
    have e13 : U 13 a = W 3 13 a := hsE.2.1 13 (by omega) (by omega) a ha
    unfold gof at this ⊢
    rw [e13]; exact this
  refine gx_gR w3.x9.o (by decide) rfl (gx_gR w3.x9.o (by decide) rfl (gx_gR w3.x9.o (by decide) rfl (gx_recvQ w3.nw.o (by decide) (q_X5_carryOut n3 d3 j3 l3 (by omega) (by omega) (by omega) hgo (LK_hi8 hk) hi10 (by omega)) (fun _ z4 ⟨f4, h4'⟩ => ?_))))
  have w4 := w3.cn f4 h4'
  have hco : coT (W 1) (W 3) (cOut U J L (W 3)) (seaF (W 1) (W 3)) (xF (W 1) (W 3)) (nI (srs (W 1) (W 3) true).2.1) := by
    have := cOut_T (U := U) hk ho (fun k h5 hk9 a ha => hsE.2.1 k h5 hk9 a ha) hWJ hX (fun a c xa xc e => xF_u ho xa xc e)
    rw [hJ7] at this
    exact this
  have hXin : ∀ a, xF (W 1) (W 3) a = true → a < 16 ∧ mv (W 3) a = true := fun a h => xF_in h
  have hJt := coT_Jb hco hXin hi.m hi.i ph
  have hj60 : decide (J 6 0 = 0) = !exn (disl (W 3) (xF (W 1) (W 3))) 16 := by
    rw [i0_ex (fun i h1 h2 => by rw [hWJ.2.2.2 i h2]; simp; omega)]
    congr 1
    refine exn_cong (fun a ha => ?_)
    rw [hWJ.2.2.2 a (by omega), decide_eq_true ha]; rfl
  have e5 : J 5 0 = (srs (W 1) (W 3) (seaF (W 1) (W 3))).1 := hWJ.1
  have fin : ∀ z5 E, WD z5 x ad1 (Ws (Ws (Ws (Ws (Ws W1 5 J) 6 L) 4 U) 3 (cOut U J L (W 3))) 3 E) D → E = endS (W 1) (cOut U J L (W 3)) np t (exn (disl (W 3) (xF (W 1) (W 3))) 16) → gx ((osbind (osgR [7] 7 x) fun x1 => osbind (osgI [1] 5 x1) fun x2 => osbind (qJ6_bitCount_0f7a4 N x2) fun x3 => osRt (osret x3)) G z5) (fun r z' => ∃ ad' W', WD z' x ad' W' D ∧ r = .inr (nI (cnt (srs (W 1) (W 3) (seaF (W 1) (W 3))).1)) ∧ setC W W' np t ∧ tlS (W 3) (W' 3)) := fun z5 E w5 eE => by
    have j5 := w5.x1
    rw [Ws_ne (by omega), Ws_ne (by omega), Ws_ne (by omega), Ws_ne (by omega), Ws_eq] at j5
    refine gx_gR w5.x9.o (by decide) rfl (gx_gI j5.o (by decide) rfl ?_)
    rw [e5]
    refine gx_callE (q_bitCount (fun i h1 h2 => Bool.eq_false_iff.mpr (fun q => absurd (hX i q).1 (by omega)))) (gx_Rt (gx_ret ⟨ad1, _, w5, rfl, ⟨W1, s, v, _, rc, by rw [u1, euv], hv, hvs, hco, by rw [Ws_eq]; exact eE, fun k hk9 => ?_⟩, by rw [Ws_eq, eE]; exact tl_endS (tl_cOut (fun a ha q => (hgo a ha q).2))⟩))
    rw [Ws_ne (by omega), Ws_ne (by omega), Ws_ne (by omega), Ws_ne (by omega), Ws_ne (by omega)]
  have j4 := w4.x1
  rw [Ws_ne (by omega), Ws_ne (by omega), Ws_ne (by omega), Ws_eq] at j4
  have n4 := w4.nw
  rw [Ws_eq] at n4
  refine gx_gR w4.x9.o (by decide) rfl (gx_gI j4.o (by decide) rfl (gx_ite (fun c => ?_) (fun c => ?_)))
  · have hno : exn (disl (W 3) (xF (W 1) (W 3))) 16 = false := by
      rw [decide_eq_true c] at hj60
      cases q : exn (disl (W 3) (xF (W 1) (W 3))) 16
      · rfl
      · rw [q] at hj60; cases hj60
    have b4 := w4.bd
    rw [Ws_ne (by omega), Ws_ne (by omega), Ws_ne (by omega), Ws_ne (by omega), k1] at b4
    refine gx_gR w4.x9.o (by decide) rfl (gx_gR w4.x9.o (by decide) rfl (gx_recvQ w4.nw.o (by decide) (q_X5_closeTurn n4 b4 (by omega) (by omega) hi.m.c1 h4 (nu12 hJt) (by omega) (t := t) ?_ ht31) (fun _ z5 ⟨f5, h5⟩ => fin z5 _ (w4.cn f5 h5) ?_)))
    · rw [hco.1 1 (by omega)]; exact et
    · unfold endS; rw [hno]; rfl
  · have hyes : exn (disl (W 3) (xF (W 1) (W 3))) 16 = true := by
      rw [decide_eq_false c] at hj60
      cases q : exn (disl (W 3) (xF (W 1) (W 3))) 16
      · rw [q] at hj60; cases hj60
      · rfl
    refine gx_gR w4.x9.o (by decide) rfl (n4.p0 (by decide) (by omega) (fun z5 f5 h5 => fin z5 _ (w4.cn f5 h5) ?_))
    unfold endS; rw [hyes]; rfl
end
section
variable {α : Type} {G : osG} {z : osS} {N x n np T a b c : Nat} {ad : Nat → Nat} {W : Nat → Nat → Nat → Int32} {D : osS} {Q : α → osS → Prop}
theorem l_settleT {f : Int32 → osM α} (h : LW z x ad W n np T) (ph : W 3 0 0 = 0) (hT : T < 5000) (hA : G.2.2.1 ≤ x) (hN : 5000 < N) (kk : ∀ z1 ad1 W1 t, osFr x (x + 129) z z1 → LW z1 x ad1 W1 n np (T + 1) → W 3 1 0 = nI t → t < 5000 → setC W W1 np t → W1 1 = W 1 → tlS (W 3) (W1 3) → gx (f (nI (cnt (srs (W 1) (W 3) (seaF (W 1) (W 3))).1)) G z1) Q) : gx (osbind (osrecv [7] x (osRV (qX9_settle N x))) f G z) Q := by
  obtain ⟨t, et, t1, t2⟩ := h.i.i.j.t
  refine gx_bind (gx_recv h.w.x9.o (by decide) (gx_RV (gx_mono (q_X9_settleT h.w h.i ph et (by omega) hA hN) (fun r z1 ⟨ad1, W', w1, e1, sc, tl⟩ => ⟨_, e1, ?_⟩))))
  obtain ⟨W1, s, v, T', rc, e9, hv, hs, hco, e3, hk⟩ := id sc
  have hXin : ∀ a, xF (W 1) (W 3) a = true → a < 16 ∧ mv (W 3) a = true := fun a h => xF_in h
  have hJt := coT_Jb hco hXin h.i.m h.i.i ph
  have i5 : stI (W 1) (W' 3) n np (T + 1) := by
    rw [e3]
    unfold endS
    by_cases c : exn (disl (W 3) (xF (W 1) (W 3))) 16 = true
    · rw [if_pos c]
      exact stI_T (T := T) ⟨hJt, Or.inr (Or.inl rfl), fun _ _ _ => rfl, fun q => absurd (show (1 : Int32) = 0 from q) (by decide)⟩ (Nat.le_succ T)
    · rw [if_neg c]
      have hd : ∀ a, a < 16 → ds T' a = false := fun a ha => by
        rw [coT_ds hco ha]
        cases q : disl (W 3) (xF (W 1) (W 3)) a
        · rfl
        · exact absurd (exn_iff.mpr ⟨a, ha, q⟩) c
      by_cases c2 : t % 2 = 0
      · rw [if_pos c2]; exact stI_closed hJt hd
      · rw [if_neg c2]; exact stI_go hJt hd
  obtain ⟨g1, g2, g3, g4⟩ := IVn_end h.i rc e9 hv hs hk i5 (Nat.le_succ T)
  exact kk z1 ad1 W' t w1.fr (h.cls w1 g1 (by rw [g3 1 (by omega)]; exact h.z0)) et (by omega) sc g2 tl
theorem q_L_undoneT {v : Nat} {S0 : Nat → Nat → Int32} {Q : Int32 → osS → Prop} (h : LW z x ad W n np T) (hv : v < 6) (e9 : W 0 9 0 = nI (v + 1)) (h8 : sE S0 (W (8 + v))) (ht : tlS S0 (W 3)) (hst : stI (W 1) S0 n np T) (hA : G.2.2.1 ≤ x) (hN : 5000 < N) (kk : ∀ z1 W1, osFr x (x + 129) z z1 → LW z1 x ad W1 n np T → W1 1 = W 1 → W1 3 = S0 → Q (nI v) z1) : gx (qL_undone N x G z) Q := by
  have hw := h.w
  unfold qL_undone
  refine gx_bindC (gx_recv hw.x9.o (by decide) ?_)
  unfold qX9_undo
  refine gx_gI hw.x9.o (by decide) rfl ?_
  rw [e9]
  refine gx_itef (fun c => by have := (nI_ltI (a := v + 1) (b := 1) (by omega) (by omega)).mp c; omega) (gx_gI hw.x9.o (by decide) rfl ?_)
  rw [e9]
  refine gx_itet ((nI_leI (a := v + 1) (b := 6) (by omega) (by omega)).mpr (by omega)) (gx_gI hw.x9.o (by decide) rfl ?_)
  rw [e9, show nI (v + 1) - (1 : Int32) = nI v from nI_sub (a := v + 1) (b := 1) (by omega)]
  refine hw.x9.p9 (by decide) hA (fun z1 f1 h1 => ?_)
  have hw1 := hw.c9 f1 h1
  obtain ⟨f, hf, hf2⟩ := hw1.pa
  have hp9 := hw.ok.p (i := v) (by omega)
  have hs9 := hw.ok.s
  obtain ⟨u, u6, u9, hp⟩ := h.i.p
  have huv : u = v + 1 := by
    have q := congrArg Int32.toInt (u9.symm.trans e9)
    rw [nI_toInt (by omega), nI_toInt (by omega)] at q
    omega
  have hps := hp v (by omega)
  refine gx_gR hw1.x9.o (by decide) rfl (gx_gR hw1.x9.o (by decide) rfl (gx_gI hw1.x9.o (by decide) rfl (gx_aNR (i := v) hf (by omega) (by omega) (hf2 v (by omega)) (gx_recvQ hw1.nw.o (by decide) (q_X5_copyFromT hw1.nw (hw1.ps (i := v) (by omega)) (by omega) (by omega) ?_) (fun _ z2 ⟨f2, S9, h29, e1, e2, e3, tl⟩ => ?_)))))
  · rw [Ws_ne (by omega)]; exact hps.j.b2
  · rw [Ws_ne (by omega)] at e1 e2 e3 tl
    have h2 : rX5 z2 (ad 2) S0 := rX5_eq h29 (fun k hk => (e1 k hk).trans (h8.1 k hk)) (fun k h5 h15 => funext fun a => by
      by_cases q : k = 15
      · subst q
        by_cases c : a < 96
        · exact (e3 a c).trans (h8.2.2 a c)
        · exact (tl.2 a (by omega)).trans (ht.2 a (by omega))
      · by_cases c : a < 16
        · exact (e2 k h5 (by omega) a c).trans (h8.2.1 k h5 (by omega) a c)
        · exact (tl.1 k h5 (by omega) a (by omega)).trans (ht.1 k h5 (by omega) a (by omega)))
    have hw2 := hw1.cn f2 h2
    refine gx_gI hw2.x9.o (by decide) rfl (gx_Rt (gx_ret (gx_ret ?_)))
    have kr : ∀ r, ¬ r = 9 → Ws (Ws W 0 (cset (W 0) 9 fun _ => nI v)) 3 S0 0 r = W 0 r := fun r hr => by rw [Ws_ne (by omega), Ws_eq]; exact cset_ne hr
    have k9 : Ws (Ws W 0 (cset (W 0) 9 fun _ => nI v)) 3 S0 0 9 0 = nI v := by rw [Ws_ne (by omega), Ws_eq]; rfl
    have kw : ∀ k, ¬ k = 0 → ¬ k = 3 → Ws (Ws W 0 (cset (W 0) 9 fun _ => nI v)) 3 S0 k = W k := fun k h0 h3 => by rw [Ws_ne h3, Ws_ne h0]
    refine kk z2 _ hw2.fr (h.cls hw2 ⟨by rw [kw 1 (by omega) (by omega)]; exact h.i.m, ?_, by rw [kr 1 (by omega)]; exact h.i.in, ⟨v, by omega, k9, fun i hi => ?_⟩, fun k hk => by rw [kr 0 (by omega)]; exact h.i.by9 k hk⟩ (by rw [kr 1 (by omega)]; exact h.z0)) (kw 1 (by omega) (by omega)) (by rw [Ws_eq])
    · rw [kw 1 (by omega) (by omega), Ws_eq]
      exact hst
    · rw [kw 1 (by omega) (by omega), kw (8 + i) (by omega) (by omega)]
      exact hp i (by omega)
end
