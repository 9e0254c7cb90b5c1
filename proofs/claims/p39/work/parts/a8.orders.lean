/-! the law's own steps (6): a text of orders told, whatever it is -/
def CXc (G : osG) (N x n L : Nat) (b : Nat → Nat) (W : Nat → Nat → Nat → Int32) : Prop := osInj G ∧ G.2.2.1 ≤ x ∧ 5000 < N ∧ L ≤ 1000 ∧ txB b W ∧ W 1 0 0 = nI n ∧ n ≤ 16
/-- what reading one statement leaves -/
def RO (x : Nat) (ad : Nat → Nat) (W : Nat → Nat → Nat → Int32) (D : osS) (b : Nat → Nat) (L : Nat) (P : (Nat → Nat → Int32) → Prop) (i0 : Nat) (r : Int32) (z1 : osS) : Prop := ∃ S' C' E', TW z1 x ad (Ws W 4 S') D C' E' ∧ (r = 0 ∨ (r = 1 ∧ ∃ i', i0 < i' ∧ i' ≤ L ∧ tkC b L i' C' E' ∧ P S'))
/-- what reading all leaves -/
def RA (x : Nat) (ad : Nat → Nat) (W : Nat → Nat → Nat → Int32) (D : osS) (F : Prop) (R : Int32 → (Nat → Nat → Int32) → Prop) (r : Int32) (z1 : osS) : Prop := ∃ S' C' E', TW z1 x ad (Ws W 4 S') D C' E' ∧ ((r = -1 ∧ F) ∨ (¬ r = -1 ∧ R r S'))
section
variable {G : osG} {z : osS} {N x n np T L i i0 a : Nat} {ad : Nat → Nat} {W : Nat → Nat → Nat → Int32} {D : osS} {E : Nat → Nat → Int64} {b : Nat → Nat} {U S C : Nat → Nat → Int32} {P : (Nat → Nat → Int32) → Prop} {k v w : Int32} {Q : Int32 → osS → Prop}
theorem RO_01 {r : Int32} {z1 : osS} (h : RO x ad W D b L P i0 r z1) : r = 0 ∨ r = 1 := by
  obtain ⟨_, _, _, _, q | ⟨q, _⟩⟩ := h
  · exact Or.inl q
  · exact Or.inr q
theorem RO_f (h : TW z x ad (Ws W 4 S) D C E) : RO x ad W D b L P i0 0 z := ⟨S, C, E, h, Or.inl rfl⟩
theorem RO_s (h : TW z x ad (Ws W 4 S) D C E) (tc : tkC b L i C E) (h1 : i0 < i) (h2 : i ≤ L) (hP : P S) : RO x ad W D b L P i0 1 z := ⟨S, C, E, h, Or.inr ⟨rfl, i, h1, h2, tc, hP⟩⟩
theorem RO_lt {r : Int32} {z1 : osS} {i1 : Nat} (h : RO x ad W D b L P i1 r z1) (hl : i0 ≤ i1) : RO x ad W D b L P i0 r z1 := by
  obtain ⟨S', C', E', h1, q | ⟨q, i', a1, a2⟩⟩ := h
  · exact ⟨S', C', E', h1, Or.inl q⟩
  · exact ⟨S', C', E', h1, Or.inr ⟨q, i', by omega, a2⟩⟩
theorem f_fail {u : Int32} (h : TW z x ad (Ws W 4 S) D C E) (hA : G.2.2.1 ≤ x) : gx ((osbind (osgI [6] 7 (x + 6)) fun x1 => osbind (osrecv [6] (x + 6) (qX6_fail N (x + 6) u x1)) fun x2 => osretZ x2) G z) (RO x ad W D b L P i0) := c_fail7 h hA (fun _ _ h2 _ _ => RO_f h2)
theorem f_area {α : Type} {f1 : Int32 → osM α} {Q : α → osS → Prop} (cx : CXc G N x n L b W) (h : TW z x ad (Ws W 4 S) D C E) (tc : tkC b L i C E) (hi : i ≤ L)
    (kf : ∀ z1 C' E', TW z1 x ad (Ws W 4 S) D C' E' → gx (f1 (-1) G z1) Q)
    (ks : ∀ v k z1 C' E', tM b L i = some v → fd (fun k => decide (W 1 5 k = nI v)) 0 n = some k → k < n → k < 16 → TW z1 x ad (Ws W 4 S) D C' E' → tkC b L (tX b L i) C' E' → i < tX b L i → tX b L i ≤ L → gx (f1 (nI k) G z1) Q) : gx (osbind (osrecv [6] (x + 6) (qX6_takeArea N (x + 6) (ad 0))) f1 G z) Q := by
  obtain ⟨hI, hA, hN, hL, hb, h0, h16⟩ := cx
  refine gx_recvQ h.2.o (by decide) (c_area_X7 h hb tc hL hi hA hN hI (n := n) (B := W 1) (fun z1 C1 E1 h1 => h1.1.bd) h0 h16) ?_
  rintro r z1 ⟨C1, E1, h1, e7, ⟨q, rfl, e8, e9⟩ | ⟨v, q, v1, v2, ⟨ef, rfl, e8, e9⟩ | ⟨k, ef, hk, rfl, t1, e8, e9⟩⟩⟩
  · exact kf z1 C1 E1 h1
  · exact kf z1 C1 E1 h1
  · exact ks v k z1 C1 E1 q ef hk (by omega) h1 t1 (tX_w (b := b) hi (tM_some q).1).2 (tX_le hi).2
theorem kwb_0 {j : Nat} (h : kwb b L i j = true) : 0 < tN b L i := by
  rcases Nat.eq_zero_or_pos (tN b L i) with q | q
  · rw [kwb_n q] at h; cases h
  · exact q
theorem f_take {α : Type} {f1 : Int32 → osM α} {Q : α → osS → Prop} {j : Nat} (cx : CXc G N x n L b W) (h : TW z x ad (Ws W 4 S) D C E) (tc : tkC b L i C E) (hi : i ≤ L) (hj : j < 15)
    (kf : kwb b L i j = false → gx (f1 0 G z) Q)
    (ks : kwb b L i j = true → ∀ z1 C' E', TW z1 x ad (Ws W 4 S) D C' E' → tkC b L (tX b L i) C' E' → i < tX b L i → tX b L i ≤ L → gx (f1 1 G z1) Q) : gx (osbind (osstat j) (fun x5 => osbind (osrecv [6] (x + 6) (qX6_take N (x + 6) x5)) f1) G z) Q := by
  obtain ⟨hI, hA, hN, hL, hb, h0, h16⟩ := cx
  refine gx_callE (b := G.2.2.2.1 j) (z1 := z) rfl ?_
  cases hk : kwb b L i j
  · exact gx_recvE h.2.o (by decide) (c_take0_X7 h tc hi hI hj hk) (kf hk)
  · refine gx_recvQ h.2.o (by decide) (c_take1_X7 h hb tc hL hi hA hN hI hj hk) ?_
    rintro r z2 ⟨rfl, C2, E2, h2, tc2, k2⟩
    exact ks hk z2 C2 E2 h2 tc2 (tX_w (b := b) hi (kwb_0 hk)).2 (tX_le hi).2
theorem f_takeF {α : Type} {f1 : Int32 → osM α} {Q : α → osS → Prop} {j : Nat} (cx : CXc G N x n L b W) (h : TW z x ad (Ws W 4 S) D C E) (tc : tkC b L i C E) (hi : i ≤ L) (hj : j < 15)
    (kf : kwb b L i j = false → ∀ z1 C' E', TW z1 x ad (Ws W 4 S) D C' E' → gx (f1 0 G z1) Q)
    (ks : kwb b L i j = true → ∀ z1 C' E', TW z1 x ad (Ws W 4 S) D C' E' → tkC b L (tX b L i) C' E' → i < tX b L i → tX b L i ≤ L → gx (f1 1 G z1) Q) : gx (osbind (osstat j) (fun x5 => osbind (osrecv [6] (x + 6) (qX6_takeOrFail N (x + 6) x5)) f1) G z) Q := by
  obtain ⟨hI, hA, hN, hL, hb, h0, h16⟩ := cx
  refine gx_callE (b := G.2.2.2.1 j) (z1 := z) rfl ?_
  cases hk : kwb b L i j
  · refine gx_recvQ h.2.o (by decide) (c_takeF0_X7 h tc hi hA hI hj hk) ?_
    rintro r z2 ⟨rfl, h2⟩
    exact kf hk z2 _ _ h2
  · refine gx_recvQ h.2.o (by decide) (c_takeF1_X7 h hb tc hL hi hA hN hI hj hk) ?_
    rintro r z2 ⟨rfl, C2, E2, h2, tc2, k2⟩
    exact ks hk z2 C2 E2 h2 tc2 (tX_w (b := b) hi (kwb_0 hk)).2 (tX_le hi).2
/-- orders may have changed, and nothing else -/
def oP (C : Nat → Nat → Int32) (n np T : Nat) (U S : Nat → Nat → Int32) : Prop := stI C S n np T ∧ S 0 0 = 0 ∧ ∀ k, ¬ (k = 12 ∨ k = 13 ∨ k = 14) → S k = U k
theorem oP_or {CC : Nat → Nat → Int32} (h : oP CC n np T U S) (h16 : n ≤ 16) (ok : okE S n k v w) : oP CC n np T U (ordered S a k v w) := by
  obtain ⟨hi, e0, hs⟩ := h
  have ed : ∀ j, ds (ordered S a k v w) j = ds S j := fun j => by unfold ds; rw [ord_row (by omega)]
  refine ⟨⟨stJ_rows (fun j hj => ord_row hj) hi.j, ?_, fun j hj q => ?_, fun q => ?_⟩, ?_, fun j hj => ?_⟩
  · rw [ord_row (by omega)]; exact hi.ph
  · rw [ed] at q
    rw [ord_row (by omega)]; exact hi.d1 j hj q
  · rw [ord_row (by omega)] at q
    exact ordOK_or (hi.o q) ok h16
  · rw [ord_row (by omega)]; exact e0
  · rw [ord_row hj]; exact hs j hj
theorem f_fin {c : Bool} (cx : CXc G N x n L b W) (h : TW z x ad (Ws W 4 S) D C E) (tc : tkC b L i C E) (hP : oP (W 1) n np T U S) (ha : a < 16) (hii : i0 < i) (hi : i ≤ L) (ok : c = true → okE S n k v w) : gx (osite (b2i c = 0) (osbind (osgI [6] 7 (x + 6)) fun x1 => osbind (osrecv [6] (x + 6) (qX6_fail N (x + 6) 4 x1)) fun x2 => osretZ x2) (osbind (osrecv [5] (ad 3) (qX5_giveOrder N (ad 3) (nI a) k v w)) fun _ => osretZ 1) G z) (RO x ad W D b L (oP (W 1) n np T U) i0) := by
  have hA := cx.2.1
  refine gx_iteB (fun _ => f_fail h hA) (fun q => gx_recvQ h.d1.o (by decide) (q_X5_giveOrder h.d1 (h.hA hA) ha) (fun _ z3 ⟨f3, d3⟩ => gx_retZ (Or.inr rfl) (RO_s (h.d2 f3 d3) tc hii hi (oP_or hP cx.2.2.2.2.2.2 (ok q)))))
theorem f_move (cx : CXc G N x n L b W) (h : TW z x ad (Ws W 4 S) D C E) (tc : tkC b L i C E) (hP : oP (W 1) n np T U S) (ha : a < 16) (hii : i0 < i) (hi : i ≤ L) : gx (qX7_readMove N (x + 6) (ad 0) (ad 3) (nI a) G z) (RO x ad W D b L (oP (W 1) n np T U) i0) := by
  unfold qX7_readMove
  refine f_area cx h tc hi (fun z1 C1 E1 h1 => gx_itet rfl (gx_retZ (Or.inl rfl) (RO_f h1))) (fun v c z1 C1 E1 _ _ hc hc16 h1 t1 lt le => ?_)
  refine gx_itef (nI_m1 (by omega)) (gx_recvE h1.d1.o (by decide) (q_allowsMove h1.d1 h1.b1 ha hc16) ?_)
  exact f_fin cx h1 t1 hP ha (by omega) le (fun _ => Or.inr (Or.inl ⟨rfl, rfl, c, hc, rfl⟩))
theorem f_support (cx : CXc G N x n L b W) (h : TW z x ad (Ws W 4 S) D C E) (tc : tkC b L i C E) (hP : oP (W 1) n np T U S) (ha : a < 16) (hii : i0 < i) (hi : i ≤ L) : gx (qX7_readSupport N (x + 6) (ad 0) (ad 3) (nI a) G z) (RO x ad W D b L (oP (W 1) n np T U) i0) := by
  unfold qX7_readSupport
  refine f_area cx h tc hi (fun z1 C1 E1 h1 => gx_itet rfl (gx_retZ (Or.inl rfl) (RO_f h1))) (fun v c z1 C1 E1 _ _ hc hc16 h1 t1 lt le => ?_)
  refine gx_itef (nI_m1 (by omega)) (f_take cx h1 t1 le (by omega) (fun _ => ?_) (fun _ z2 C2 E2 h2 t2 lt2 le2 => ?_))
  · refine gx_itet rfl (gx_recvE h1.d1.o (by decide) (q_allowsUnitSupport h1.d1 h1.b1 ha hc16) ?_)
    refine f_fin cx h1 t1 hP ha (by omega) le (fun q => Or.inr (Or.inr (Or.inl ⟨rfl, rfl, c, hc, rfl, ?_⟩)))
    unfold aUs at q
    rw [Bool.and_eq_true] at q
    exact q.1
  · refine gx_itef (by decide) (f_area cx h2 t2 le2 (fun z3 C3 E3 h3 => gx_itet rfl (gx_retZ (Or.inl rfl) (RO_f h3))) (fun v3 d z3 C3 E3 _ _ hd hd16 h3 t3 lt3 le3 => ?_))
    refine gx_itef (nI_m1 (by omega)) (gx_recvE h3.d1.o (by decide) (q_allowsMoveSupport h3.d1 h3.b1 ha hc16 hd16) ?_)
    exact f_fin cx h3 t3 hP ha (by omega) le3 (fun _ => Or.inr (Or.inr (Or.inr ⟨Or.inl rfl, ⟨c, hc, rfl⟩, d, hd, rfl⟩)))
theorem f_convoy (cx : CXc G N x n L b W) (h : TW z x ad (Ws W 4 S) D C E) (tc : tkC b L i C E) (hP : oP (W 1) n np T U S) (ha : a < 16) (hii : i0 < i) (hi : i ≤ L) : gx (qX7_readConvoy N (x + 6) (ad 0) (ad 3) (nI a) G z) (RO x ad W D b L (oP (W 1) n np T U) i0) := by
  unfold qX7_readConvoy qX7_readConvoy_23
  refine f_area cx h tc hi (fun z1 C1 E1 h1 => gx_itet rfl (gx_retZ (Or.inl rfl) (RO_f h1))) (fun v c z1 C1 E1 _ _ hc hc16 h1 t1 lt le => ?_)
  refine gx_itef (nI_m1 (by omega)) (f_takeF cx h1 t1 le (by omega) (fun _ z2 C2 E2 h2 => gx_itet rfl (gx_retZ (Or.inl rfl) (RO_f h2))) (fun _ z2 C2 E2 h2 t2 lt2 le2 => ?_))
  refine gx_itef (by decide) (f_area cx h2 t2 le2 (fun z3 C3 E3 h3 => gx_itet rfl (gx_retZ (Or.inl rfl) (RO_f h3))) (fun v3 d z3 C3 E3 _ _ hd hd16 h3 t3 lt3 le3 => ?_))
  refine gx_itef (nI_m1 (by omega)) (gx_recvE h3.d1.o (by decide) (q_allowsConvoy h3.d1 h3.b1 ha hc16 hd16) ?_)
  exact f_fin cx h3 t3 hP ha (by omega) le3 (fun _ => Or.inr (Or.inr (Or.inr ⟨Or.inr rfl, ⟨c, hc, rfl⟩, d, hd, rfl⟩)))
theorem f_order (cx : CXc G N x n L b W) (h : TW z x ad (Ws W 4 S) D C E) (tc : tkC b L i C E) (hP : oP (W 1) n np T U S) (hi : i ≤ L) : gx (qX7_readOrder N (x + 6) (ad 0) (ad 3) G z) (RO x ad W D b L (oP (W 1) n np T U) i) := by
  have hA := cx.2.1
  unfold qX7_readOrder qX7_readOrder_111 qX7_readOrder_112
  refine f_area cx h tc hi (fun z1 C1 E1 h1 => gx_itet rfl (gx_retZ (Or.inl rfl) (RO_f h1))) (fun v a z1 C1 E1 _ _ ha ha16 h1 t1 lt le => ?_)
  refine gx_itef (nI_m1 (by omega)) (gx_recvE h1.d1.o (by decide) (q_hasUnitN h1.d1 ha16) (gx_iteB (fun _ => f_fail h1 hA) (fun _ => ?_)))
  refine f_take cx h1 t1 le (by omega) (fun _ => ?_) (fun _ z2 C2 E2 h2 t2 lt2 le2 => ?_)
  · refine gx_itet rfl (f_take cx h1 t1 le (by omega) (fun _ => ?_) (fun _ z2 C2 E2 h2 t2 lt2 le2 => ?_))
    · refine gx_itet rfl (f_take cx h1 t1 le (by omega) (fun _ => ?_) (fun _ z2 C2 E2 h2 t2 lt2 le2 => ?_))
      · refine gx_itet rfl (f_takeF cx h1 t1 le (by omega) (fun _ z2 C2 E2 h2 => gx_itet rfl (gx_retZ (Or.inl rfl) (RO_f h2))) (fun _ z2 C2 E2 h2 t2 lt2 le2 => ?_))
        refine gx_itef (by decide) (gx_recvQ h2.2.o (by decide) (f_convoy (i0 := i) cx h2 t2 hP ha16 (by omega) le2) (fun r z3 hx => gx_ite (fun e => gx_retZ (Or.inl rfl) (by rw [e] at hx; exact hx)) (fun e => gx_retZ (Or.inr rfl) ?_)))
        rcases RO_01 hx with q | q
        · exact absurd q e
        · rw [q] at hx; exact hx
      · exact gx_itef (by decide) (gx_recvQ h2.2.o (by decide) (f_support (i0 := i) cx h2 t2 hP ha16 (by omega) le2) (fun r z3 hx => gx_retZ (RO_01 hx) hx))
    · exact gx_itef (by decide) (gx_recvQ h2.2.o (by decide) (f_move (i0 := i) cx h2 t2 hP ha16 (by omega) le2) (fun r z3 hx => gx_retZ (RO_01 hx) hx))
  · exact gx_itef (by decide) (gx_recvQ h2.d1.o (by decide) (q_X5_giveOrder h2.d1 (h2.hA hA) ha16) (fun _ z3 ⟨f3, d3⟩ => gx_retZ (Or.inr rfl) (RO_s (h2.d2 f3 d3) t2 (by omega) le2 (oP_or hP cx.2.2.2.2.2.2 (Or.inl ⟨rfl, rfl, rfl⟩)))))
/-- one round of the reader -/
theorem f_round {ih : Nat × Int32 × Nat × Nat × Int32 → osM Int32} {j : Nat} {R : Int32 → (Nat → Nat → Int32) → Prop} (cx : CXc G N x n L b W) (h : TW z x ad (Ws W 4 S) D C E) (tc : tkC b L i C E) (hj : j ≤ i) (hi : i ≤ L)
    (ke : L ≤ tS b L i → R (nI j) S)
    (k1 : tS b L i < L → gx (qX7_readOne N (x + 6) (ad 0) (ad 3) G z) (RO x ad W D b L P i))
    (kk : ∀ z1 i1 i' S' C' E', j + 1 ≤ i' → i' ≤ L → P S' → i' = tX b L i1 → TW z1 x ad (Ws W 4 S') D C' E' → tkC b L i' C' E' → gx (ih (x + 6, nI L, ad 0, ad 3, nI (j + 1)) G z1) (RA x ad W D True R)) : gx (bX7_readAll_9 N ih (x + 6) (nI L) (ad 0) (ad 3) (nI j) G z) (RA x ad W D True R) := by
  obtain ⟨hI, hA, hN, hL, hb, h0, h16⟩ := id cx
  unfold bX7_readAll_9 qX7_readAll_42
  refine gx_itef (fun c => by have := (nI_ltI (a := L) (b := j) (by omega) (by omega)).mp c; omega) (gx_recvE h.2.o (by decide) (c_isEnd_X7 h tc hi) ?_)
  by_cases q : L ≤ tS b L i
  · rw [decide_eq_true q]
    exact gx_itef (by decide) (gx_ret ⟨S, C, E, h, Or.inr ⟨nI_m1 (by omega), ke q⟩⟩)
  · rw [decide_eq_false q]
    refine gx_itet rfl (gx_recvQ h.2.o (by decide) (k1 (by omega)) ?_)
    rintro r z1 ⟨S', C', E', hw, rfl | ⟨rfl, i', lt, le, tc', hP'⟩⟩
    · exact gx_itet rfl (gx_ret ⟨S', C', E', hw, Or.inl ⟨rfl, trivial⟩⟩)
    · refine gx_itef (by decide) ?_
      by_cases hs2 : tK b L i' = 2
      · refine gx_recvQ hw.2.o (by decide) (c_semi1_X7 hw hb tc' hL le hA hN hs2) ?_
        rintro r z2 ⟨rfl, C2, E2, h2, tc2, k2⟩
        have l2 := (tX_s (b := b) le hs2).2.1
        refine gx_itef (by decide) ?_
        rw [nI_1]
        exact kk z2 i' (tX b L i') S' C2 E2 (by omega) (tX_le le).2 hP' rfl h2 tc2
      · refine gx_recvQ hw.2.o (by decide) (c_semi0_X7 hw tc' le hA hs2) ?_
        rintro r z2 ⟨rfl, p⟩
        exact gx_itet rfl (gx_ret ⟨S', _, E', p, Or.inl ⟨rfl, trivial⟩⟩)
/-- orders: any text -/
theorem f_orders (cx : CXc G N x n L b W) (h : TW z x ad (Ws W 4 S) D C E) (tc : tkC b L 0 C E) (hP : oP (W 1) n np T U S) : gx (qX7_readAll_9 N (x + 6, nI L, ad 0, ad 3, (0 : Int32)) G z) (RA x ad W D True (fun r S' => (∃ j, j ≤ 1000 ∧ r = nI j) ∧ oP (W 1) n np T U S')) := by
  obtain ⟨hI, hA, hN, hL, hb, h0, h16⟩ := id cx
  unfold qX7_readAll_9
  have one : ∀ {z i S C E}, TW z x ad (Ws W 4 S) D C E → tkC b L i C E → oP (W 1) n np T U S → i ≤ L → gx (qX7_readOne N (x + 6) (ad 0) (ad 3) G z) (RO x ad W D b L (oP (W 1) n np T U) i) := fun {z i S C E} h tc hP hi => by
    unfold qX7_readOne
    refine gx_gI h.d1.o (by decide) rfl (gx_itet hP.2.1 (gx_recvQ h.2.o (by decide) (f_order cx h tc hP hi) (fun r z1 hx => gx_retZ (RO_01 hx) hx)))
  refine gx_loop L (fun j p z => p = (x + 6, nI L, ad 0, ad 3, nI j) ∧ ∃ i S C E, j ≤ i ∧ i ≤ L ∧ TW z x ad (Ws W 4 S) D C E ∧ tkC b L i C E ∧ oP (W 1) n np T U S) ?_ ?_ N 0 _ z (Nat.zero_le _) (by omega) ⟨rfl, 0, S, C, E, Nat.le_refl 0, Nat.zero_le _, h, tc, hP⟩
  · rintro ih j p z hj ⟨rfl, i, S, C, E, h1, h2, hw, t1, hP⟩ k
    exact f_round (P := oP (W 1) n np T U) cx hw t1 h1 h2 (fun _ => ⟨⟨j, by omega, rfl⟩, hP⟩) (fun _ => one hw t1 hP h2) (fun z1 i1 i' S' C' E' a1 a2 a3 _ a4 a5 => k _ _ ⟨rfl, i', S', C', E', a1, a2, a4, a5, a3⟩)
  · rintro ih p z ⟨rfl, i, S, C, E, h1, h2, hw, t1, hP⟩
    exact f_round (P := oP (W 1) n np T U) cx hw t1 h1 h2 (fun _ => ⟨⟨L, by omega, rfl⟩, hP⟩) (fun _ => one hw t1 hP h2) (fun z1 i1 i' S' C' E' a1 a2 a3 _ a4 a5 => absurd a1 (by omega))
end
