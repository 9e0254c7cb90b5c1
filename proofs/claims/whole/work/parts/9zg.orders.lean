/-! orders read, in both (by program) -/
def sU (U S : Nat → Nat → Int32) : Prop := (∀ j, j < 16 → S 6 j = U 6 j ∧ S 7 j = U 7 j ∧ S 8 j = U 8 j ∧ S 9 j = U 9 j ∧ S 10 j = U 10 j) ∧ S 4 0 = U 4 0
/-- the draft agrees with the reference's, and is a state -/
def PT (C U : Nat → Nat → Int32) (n np T : Nat) (S : Nat → Nat → Int32) (f : Nat → Int32) : Prop := cpT S f ∧ stI C S n np T ∧ S 0 0 = U 0 0 ∧ (¬ U 0 0 = 2 → sU U S)
def ordF (g : Nat → Int32) (a : Nat) (k v w : Int32) : Nat → Int32 := upd (upd (upd g (117 + a) k) (133 + a) v) (149 + a) w
def okE (S : Nat → Nat → Int32) (n : Nat) (k v w : Int32) : Prop := (k = 0 ∧ v = -1 ∧ w = -1) ∨ (k = 1 ∧ w = -1 ∧ ∃ c, c < n ∧ v = nI c) ∨ (k = 2 ∧ w = -1 ∧ ∃ c, c < n ∧ v = nI c ∧ uu S c = true) ∨ ((k = 3 ∨ k = 4) ∧ (∃ c, c < n ∧ v = nI c) ∧ ∃ d, d < n ∧ w = nI d)
section
variable {C U S S' M : Nat → Nat → Int32} {D : Nat → Nat → Int64} {n np T a b c : Nat} {f : Nat → Int32} {k v w : Int32}
theorem stJ_rows (e : ∀ k, ¬ (k = 12 ∨ k = 13 ∨ k = 14) → S' k = S k) (h : stJ C S n np T) : stJ C S' n np T := by
  have eu : uu S' = uu S := by funext j; unfold uu; rw [e 6 (by omega)]
  have ed : ds S' = ds S := by funext j; unfold ds; rw [e 8 (by omega)]
  unfold stJ at h ⊢
  rw [eu, ed, e 1 (by omega), e 2 (by omega), e 5 (by omega), e 6 (by omega), e 7 (by omega), e 8 (by omega), e 9 (by omega), e 11 (by omega)]
  exact h
theorem ord_row {j : Nat} (h : ¬ (j = 12 ∨ j = 13 ∨ j = 14)) : ordered S a k v w j = S j := by unfold ordered; rw [cset_ne (by omega), cset_ne (by omega), cset_ne (by omega)]
theorem ordOK_or (ho : ordOK S n) (ok : okE S n k v w) (h16 : n ≤ 16) : ordOK (ordered S a k v w) n := fun j hj hu => by
  have eu : ∀ j, uu (ordered S a k v w) j = uu S j := fun j => by unfold uu; rw [ord_row (by omega)]
  have e12 : ordered S a k v w 12 j = if j = a then k else S 12 j := rfl
  have e13 : ordered S a k v w 13 j = if j = a then v else S 13 j := rfl
  have e14 : ordered S a k v w 14 j = if j = a then w else S 14 j := rfl
  rw [eu] at hu
  by_cases e : j = a
  · rw [if_pos e] at e12 e13 e14
    have eg : gof (ordered S a k v w) j = tn v := by unfold gof; rw [e13]
    have es : sof (ordered S a k v w) j = tn w := by unfold sof; rw [e14]
    rw [e12, e13, e14, eg, es]
    rcases ok with ⟨rfl, rfl, rfl⟩ | ⟨rfl, rfl, c, hc, rfl⟩ | ⟨rfl, rfl, c, hc, rfl, huc⟩ | ⟨hk, ⟨c, hc, rfl⟩, d, hd, rfl⟩
    · exact ⟨Or.inl rfl, fun _ => rfl, fun q => absurd rfl q, fun q => absurd q (by decide), fun _ => rfl, fun q => absurd q (by decide)⟩
    · have : tn (nI c) = c := nI_clamp (by omega)
      rw [this]
      exact ⟨Or.inr (Or.inl rfl), fun q => absurd q (by decide), fun _ => ⟨rfl, hc⟩, fun q => absurd q (by decide), fun _ => rfl, fun q => absurd q (by decide)⟩
    · have : tn (nI c) = c := nI_clamp (by omega)
      rw [this, eu]
      exact ⟨Or.inr (Or.inr (Or.inl rfl)), fun q => absurd q (by decide), fun _ => ⟨rfl, hc⟩, fun q => absurd q (by decide), fun _ => rfl, fun _ => huc⟩
    · have e1 : tn (nI c) = c := nI_clamp (by omega)
      have e2 : tn (nI d) = d := nI_clamp (by omega)
      rw [e1, e2]
      rcases hk with rfl | rfl
      · exact ⟨Or.inr (Or.inr (Or.inr (Or.inl rfl))), fun q => absurd q (by decide), fun _ => ⟨rfl, hc⟩, fun _ => ⟨rfl, hd⟩, fun q => absurd (Or.inl rfl) q, fun q => absurd q (by decide)⟩
      · exact ⟨Or.inr (Or.inr (Or.inr (Or.inr rfl))), fun q => absurd q (by decide), fun _ => ⟨rfl, hc⟩, fun _ => ⟨rfl, hd⟩, fun q => absurd (Or.inr rfl) q, fun q => absurd q (by decide)⟩
  · rw [if_neg e] at e12 e13 e14
    have eg : gof (ordered S a k v w) j = gof S j := by unfold gof; rw [e13]
    have es : sof (ordered S a k v w) j = sof S j := by unfold sof; rw [e14]
    rw [e12, e13, e14, eg, es, eu]
    exact ho j hj hu
theorem cpT_or (h : cpT S f) (ha : a < 16) : cpT (ordered S a k v w) (ordF f a k v w) := by
  have of : ∀ j, ordF f a k v w j = if j = 149 + a then w else if j = 133 + a then v else if j = 117 + a then k else f j := fun j => rfl
  have e12 : ∀ j, ordered S a k v w 12 j = if j = a then k else S 12 j := fun _ => rfl
  have e13 : ∀ j, ordered S a k v w 13 j = if j = a then v else S 13 j := fun _ => rfl
  have e14 : ∀ j, ordered S a k v w 14 j = if j = a then w else S 14 j := fun _ => rfl
  have no : ∀ j, j < 117 ∨ 165 ≤ j → ordF f a k v w j = f j := fun j hj => by rw [of, if_neg (by omega), if_neg (by omega), if_neg (by omega)]
  have eu : ∀ j, uu (ordered S a k v w) j = uu S j := fun j => by unfold uu; rw [ord_row (by omega)]
  have ed : ∀ j, ds (ordered S a k v w) j = ds S j := fun j => by unfold ds; rw [ord_row (by omega)]
  obtain ⟨⟨c0, c1, c2, c3, c4⟩, h1, h2, h3, h4⟩ := h
  refine ⟨⟨?_, ?_, ?_, ?_, ?_⟩, fun j hj => ?_, fun j hj q => ?_, fun j hj q => ?_, fun j w2 hj hw => ?_⟩
  · rw [no _ (by omega)]; exact c0
  · rw [no _ (by omega)]; exact c1
  · rw [no _ (by omega)]; exact c2
  · rw [no _ (by omega)]; exact c3
  · rw [no _ (by omega)]; exact c4
  · obtain ⟨t1, t2, t3, t4, t5, t6, t7⟩ := h1 j hj
    rw [no (5 + j) (by omega), no (21 + j) (by omega), no (53 + j) (by omega), no (101 + j) (by omega), e12, e13, e14, ord_row (j := 5) (by omega), ord_row (j := 6) (by omega), ord_row (j := 8) (by omega), ord_row (j := 11) (by omega)]
    refine ⟨t1, t2, t3, t4, ?_, ?_, ?_⟩
    · rw [of, if_neg (by omega), if_neg (by omega), t5]
      by_cases e : j = a
      · rw [if_pos e, if_pos (by omega)]
      · rw [if_neg e, if_neg (by omega)]
    · rw [of, if_neg (by omega), t6]
      by_cases e : j = a
      · rw [if_pos e, if_pos (by omega)]
      · rw [if_neg e, if_neg (by omega), if_neg (by omega)]
    · rw [of, t7]
      by_cases e : j = a
      · rw [if_pos e, if_pos (by omega)]
      · rw [if_neg e, if_neg (by omega), if_neg (by omega), if_neg (by omega)]
  · rw [eu] at q
    rw [no _ (by omega), ord_row (j := 7) (by omega)]; exact h2 j hj q
  · rw [ed] at q
    rw [no _ (by omega), no _ (by omega), ord_row (j := 9) (by omega), ord_row (j := 10) (by omega)]; exact h3 j hj q
  · rw [no _ (by omega), ord_row (j := 15) (by omega)]; exact h4 j w2 hj hw
theorem PT_or (h : PT C U n np T S f) (h16 : n ≤ 16) (ha : a < 16) (h0 : U 0 0 = 0) (ok : okE S n k v w) : PT C U n np T (ordered S a k v w) (ordF f a k v w) := by
  obtain ⟨ht, hi, e0, hs⟩ := h
  have ed : ∀ j, ds (ordered S a k v w) j = ds S j := fun j => by unfold ds; rw [ord_row (by omega)]
  refine ⟨cpT_or ht ha, ⟨stJ_rows (fun j hj => ord_row hj) hi.j, ?_, fun j hj q => ?_, fun q => ?_⟩, ?_, fun q => ?_⟩
  · rw [ord_row (by omega)]; exact hi.ph
  · rw [ed] at q
    rw [ord_row (by omega)]; exact hi.d1 j hj q
  · rw [ord_row (by omega)] at q
    exact ordOK_or (hi.o q) ok h16
  · rw [ord_row (by omega)]; exact e0
  · obtain ⟨s1, s2⟩ := hs q
    unfold sU
    rw [ord_row (j := 6) (by omega), ord_row (j := 7) (by omega), ord_row (j := 8) (by omega), ord_row (j := 9) (by omega), ord_row (j := 10) (by omega), ord_row (j := 4) (by omega)]
    exact ⟨s1, s2⟩
theorem sU_uu (hs : sU U S) (ha : a < 16) : uu U a = uu S a := by unfold uu; rw [(hs.1 a ha).1]
theorem sU_cg (hs : sU U S) (ha : a < 16) : cg C S a b = cg C U a b := by unfold cg; rw [(hs.1 a ha).2.1]
theorem mvE (hm : cpM C M D n np) (hj : stJ C U n np T) (ht : cpT U (M 3)) (hs : sU U S) (ha : a < 16) (hb : b < 16) (hu : uu S a = true) : rMv M a b = aMv C S a b := by
  rw [mv_eq hm hj ht ha hb (by rw [sU_uu hs ha]; exact hu)]
  unfold aMv
  rw [sU_cg hs ha, (hs.1 a ha).2.1]
theorem usE (hm : cpM C M D n np) (hj : stJ C U n np T) (ht : cpT U (M 3)) (hs : sU U S) (ha : a < 16) (hc : c < 16) (hu : uu S a = true) : rUs M a c = aUs C S a c := by
  have hu0 : uu U a = true := by rw [sU_uu hs ha]; exact hu
  unfold rUs aUs
  rw [psg_S hm hj ht ha hu0, (ht.2.1 c hc).2.1, sU_cg hs ha, cg_u hj ha hu0, (hs.1 c hc).1]
theorem msE (hm : cpM C M D n np) (hj : stJ C U n np T) (ht : cpT U (M 3)) (hs : sU U S) (ha : a < 16) (hb : b < 16) (hc : c < 16) (hu : uu S a = true) : rMs M a c b = aMs C S a c b := by
  have hu0 : uu U a = true := by rw [sU_uu hs ha]; exact hu
  unfold rMs aMs
  rw [psg_S hm hj ht ha hu0, (ht.2.1 c hc).2.1, sU_cg hs ha, cg_u hj ha hu0, (hs.1 c hc).1]
theorem cvE (hm : cpM C M D n np) (hj : stJ C U n np T) (ht : cpT U (M 3)) (hs : sU U S) (ha : a < 16) (hb : b < 16) (hc : c < 16) (hu : uu S a = true) : rCv M a c b = aCv C S a c b := by
  have hu0 : uu U a = true := by rw [sU_uu hs ha]; exact hu
  unfold rCv aCv jc
  rw [ht.2.2.1 a ha hu0, kd2 hm ha, kd1 hm hc, kd1 hm hb, (ht.2.1 c hc).2.1, (hs.1 a ha).2.1, (hs.1 c hc).2.1]
  cases huc : uu U c
  · have h7 := hj.k7 c hc huc
    have h6 : U 6 c = -1 := by
      unfold uu at huc
      simpa using huc
    rw [h7, h6]
    simp
  · rw [ht.2.2.1 c hc huc]
    have h6 : (!decide (U 6 c = -1)) = true := huc
    rw [h6, Bool.true_and]
    cases decide (U 7 a = 1) <;> cases bt (C 3 0) a <;> cases decide (U 7 c = 0) <;> cases bt (C 2 0) c <;> cases bt (C 2 0) b <;> cases decide (c = b) <;> rfl
theorem gbE (hm : cpM C M D n np) (hj : stJ C U n np T) (ht : cpT U (M 3)) (hs : sU U S) (ha : a < 16) (hb : b < 16) (hd : ds S a = true) : rGb M a b = aRt C S a b := by
  have hd0 : ds U a = true := by
    unfold ds at hd ⊢
    rw [← (hs.1 a ha).2.2.1]; exact hd
  obtain ⟨d1, d2⟩ := ht.2.2.2.1 a ha hd0
  unfold rGb aRt
  rw [d1, d2, (ht.2.1 b hb).2.1, ht.1.2.2.2.2]
  obtain ⟨s6, s7, s8, s9, s10⟩ := hs.1 a ha
  rw [s8, s9, s10, hs.2, (hs.1 b hb).1]
  have e8 : (!decide (U 8 a = -1)) = true := hd0
  rw [e8, Bool.true_and]
  have ep : psg M a (U 9 a) = bd C a (U 9 a) := by
    rcases (hj.d a ha hd0).2.2 with e | e <;> rw [e]
    · exact psg_b hm ha false
    · exact psg_b hm ha true
  rw [ep]
end
theorem Ws_ws {W : Nat → Nat → Nat → Int32} {k : Nat} {A B : Nat → Nat → Int32} : Ws (Ws W k A) k B = Ws W k B := by
  funext j
  unfold Ws
  by_cases e : j = k
  · rw [if_pos e, if_pos e]
  · rw [if_neg e, if_neg e, if_neg e]
section
variable {G : osG} {z z1 : osS} {N x n np T L i i0 a m : Nat} {ad : Nat → Nat} {W : Nat → Nat → Nat → Int32} {D D' E : Nat → Nat → Int64} {b : Nat → Nat} {M0 M S C R : Nat → Nat → Int32} {l : Int32} {k v w : Int32} {Q : Int32 → (Nat → Nat → Int32) → (Nat → Nat → Int64) → Prop}
theorem TW.b1 (h : TW z x ad (Ws W 4 S) D C E) : rX0 z (ad 0) (W 1) := h.1.bd
theorem TW.d1 (h : TW z x ad (Ws W 4 S) D C E) : rX5 z (ad 3) S := by
  have := h.1.dr
  rw [Ws_eq] at this; exact this
theorem TW.d2 (h : TW z x ad (Ws W 4 S) D C E) (hf : osFr (ad 3) (ad 3 + 12) z z1) (hc : rX5 z1 (ad 3) R) : TW z1 x ad (Ws W 4 R) D C E := by
  have := h.d hf hc
  rw [Ws_ws] at this; exact this
theorem TW.hA (h : TW z x ad W D C E) (hA : G.2.2.1 ≤ x) : G.2.2.1 ≤ ad 3 := by have := h.1.ok.s; omega
theorem c_fail7 {Q : Int32 → osS → Prop} {u : Int32} (h : TW z x ad W D C E) (hA : G.2.2.1 ≤ x) (kk : ∀ z' C', TW z' x ad W D C' E → C' 8 0 = u → C' 9 0 = C 7 0 → Q 0 z') : gx ((osbind (osgI [6] 7 (x + 6)) fun x1 => osbind (osrecv [6] (x + 6) (qX6_fail N (x + 6) u x1)) fun x2 => osretZ x2) G z) Q := by
  refine gx_gI h.2.o (by decide) rfl (gx_recvQ h.2.o (by decide) (c_fail_X7 h hA) (fun r z' ⟨e, p⟩ => gx_retZ (Or.inl e) ?_))
  rw [e]
  exact kk z' _ p rfl rfl
theorem ux_orders {ok : Bool} (ha : a < 16) (hA : G.2.2.1 ≤ m) (k0 : ok = false → ∀ M', M' 16 0 = 4 → M' 17 0 = M 13 0 → (∀ r, ¬ r = 4 → ¬ r = 16 → ¬ r = 17 → M' r = M r) → Q 0 M' D) (k1 : ok = true → ∀ M', M' 4 = ordF (M 4) a k v w → (∀ r, ¬ r = 4 → M' r = M r) → Q 1 M' D) : ux G m (qX10_orders N m (nI a) k v w (b2i ok)) M D Q := by
  unfold qX10_orders
  refine ux_gR rfl (ux_s4 hA (nI_sum (a := 117) (b := a) rfl rfl) (by omega) (ux_gR rfl (ux_s4 hA (nI_sum (a := 133) (b := a) rfl rfl) (by omega) (ux_gR rfl (ux_s4 hA (nI_sum (a := 149) (b := a) rfl rfl) (by omega) ?_)))))
  unfold qX10_orders_50 qX10_orders_55
  refine ux_iteB (fun q => ux_gI rfl (ux_call (ux_fails hA (fun M2 b6 b7 r2 => ux_itet rfl (ux_retZ (Or.inl rfl) (k0 q M2 b6 b7 (fun r h1 h2 h3 => ?_))))))) (fun q => ux_retZ (Or.inr rfl) (k1 q _ rfl (fun r hr => ?_)))
  · rw [r2 r h2 h3, cset_ne h1, cset_ne h1, cset_ne h1]
  · rw [cset_ne hr, cset_ne hr, cset_ne hr]
end
section
variable {G : osG} {z : osS} {N x n np T L i i0 a : Nat} {ad : Nat → Nat} {W : Nat → Nat → Nat → Int32} {D D' E : Nat → Nat → Int64} {b : Nat → Nat} {M0 M S C : Nat → Nat → Int32} {l : Int32} {k v w : Int32}
theorem RB.f (h : RB M0 D l M D') {M1 : Nat → Nat → Int32} (hr : ∀ r, ¬ r = 4 → ¬ r = 16 → ¬ r = 17 → M1 r = M r) : RB M0 D l M1 D' := ⟨fun k hk => (hr k (by omega) (by omega) (by omega)).trans (h.1 k hk), h.2.1, by rw [hr 20 (by omega) (by omega) (by omega)]; exact h.2.2⟩
theorem tkR_4 {b : Nat → Nat} (h : tkR b L i M) {M1 : Nat → Nat → Int32} (hr : ∀ r, ¬ r = 4 → M1 r = M r) : tkR b L i M1 := by
  unfold tkR rTx
  rw [hr 12 (by omega), hr 9 (by omega), hr 11 (by omega)]; exact h
/-- the order is given, or is not allowed -/
theorem p_fin (cx : CX G N x n np T L b W D M0) (h : ST z x ad W D b L M0 l i S C E M D') (e7 : C 7 0 = M 13 0) (hP : PT (W 1) (W 3) n np T S (M 4)) (h0 : W 3 0 0 = 0) (ha : a < 16) (hii : i0 < i) (hi : i ≤ L) {c : Bool} (ok : c = true → okE S n k v w) {g2 : Int32 → osM Int32} (g0 : ∀ M D Q, Q 0 M D → ux G (x + 129) (g2 0) M D Q) (g1 : ∀ M D Q, Q 1 M D → ux G (x + 129) (g2 1) M D Q) : gx ((osite (b2i c = 0) (osbind (osgI [6] 7 (x + 6)) fun x1 => osbind (osrecv [6] (x + 6) (qX6_fail N (x + 6) (4 : Int32) x1)) fun x2 => osretZ x2) (osbind (osrecv [5] (ad 3) (qX5_giveOrder N (ad 3) (nI a) k v w)) fun _ => osretZ (1 : Int32))) G z) (fun r z' => ux G (x + 129) (osbind (osrecv [8] (x + 129) (qX10_orders N (x + 129) (nI a) k v w (b2i c))) g2) M D' (fun b1 M2 D2 => PO x ad W D b L M0 l (PT (W 1) (W 3) n np T) i0 r z' b1 M2 D2)) := by
  obtain ⟨hI, hA, hN, hL, hb, hm, ht, hs⟩ := cx
  obtain ⟨hw, tc, tr, he, hr⟩ := h
  cases c
  · refine gx_itet rfl (c_fail7 hw hA (fun z' C' h' e8 e9 => ux_call (ux_orders ha (by omega) (fun _ M' b6 b7 r2 => g0 M' D' _ (PO_f h' ⟨e8.trans b6.symm, (e9.trans e7).trans b7.symm⟩ (hr.f r2) rfl rfl)) (fun q => nomatch q))))
  · refine gx_itef (by decide) (gx_recvQ hw.d1.o (by decide) (q_X5_giveOrder hw.d1 (hw.hA hA) ha) (fun _ z2 ⟨f2, d2⟩ => gx_retZ (Or.inr rfl) (ux_call (ux_orders ha (by omega) (fun q => nomatch q) (fun _ M' b4 r2 => g1 M' D' _ (PO_s ⟨hw.d2 f2 d2, tc, tkR_4 tr r2, ⟨by rw [r2 16 (by omega)]; exact he.1, by rw [r2 17 (by omega)]; exact he.2⟩, hr.k4 r2⟩ hii hi ?_))))))
    rw [b4]
    exact PT_or hP hm.n16 ha h0 (ok rfl)
theorem ux_fm0 {β : Type} {Q : Int32 → (Nat → Nat → Int32) → (Nat → Nat → Int64) → Prop} {M : Nat → Nat → Int32} {D : Nat → Nat → Int64} {m : Nat} (q : Q 0 M D) : ux G m (osite ((0 : Int32) = 0) (osretZ (0 : Int32)) (osretZ (1 : Int32))) M D Q := ux_itet rfl (ux_retZ (Or.inl rfl) q)
def rMoveT (N m : Nat) (a : Int32) : osM Int32 := osbind (osrecv [8] m (qX10_readHere N m)) fun x14 => osite (x14 = 0) (qX10_readOrder_110 N ) (osbind (osgI [8] 19 m) fun x15 => osbind (osgI [8] 19 m) fun x16 => osbind (osrecv [8] m (qX10_mayMove N m a x16)) fun x17 => osbind (osrecv [8] m (qX10_orders N m a (1 : Int32) x15 (-1 : Int32) x17)) fun x18 => osite (x18 = 0) (qX10_readOrder_110 N ) (qX10_readOrder_111 N (1 : Int32)))
theorem p_move (cx : CX G N x n np T L b W D M0) (h : ST z x ad W D b L M0 l i S C E M D') (hP : PT (W 1) (W 3) n np T S (M 4)) (h0 : W 3 0 0 = 0) (ha : a < 16) (hu : uu S a = true) (hii : i0 < i) (hi : i ≤ L) : gx (qX7_readMove N (x + 6) (ad 0) (ad 3) (nI a) G z) (fun r z' => ux G (x + 129) (rMoveT N (x + 129) (nI a)) M D' (fun b1 M2 D2 => PO x ad W D b L M0 l (PT (W 1) (W 3) n np T) i0 r z' b1 M2 D2)) := by
  have hm := cx.2.2.2.2.2.1
  have ht := cx.2.2.2.2.2.2.1
  have hs := cx.2.2.2.2.2.2.2
  unfold qX7_readMove rMoveT qX10_readOrder_110 qX10_readOrder_111
  refine p_here cx h hi (fun z1 C1 E1 M1 D1 h1 he hr => gx_itet rfl (gx_retZ (Or.inl rfl) (ux_itet rfl (ux_retZ (Or.inl rfl) (PO_f h1 he hr rfl rfl))))) (fun c z1 C1 E1 M1 D1 hc hc16 h1 lt le e7 e19 e4 => ?_)
  have hr := h1.2.2.2.2
  have em : rMv M1 a c = aMv (W 1) S a c := mvE (cpM_keep hm (hr.1 1 (by omega)) (hr.2.1 6 (by omega))) hs.j (by rw [hr.1 3 (by omega)]; exact ht) (hP.2.2.2 (by rw [h0]; decide)) ha hc16 hu
  refine gx_itef (nI_m1 (by omega)) (gx_recvE h1.1.d1.o (by decide) (q_allowsMove h1.1.d1 h1.1.b1 ha hc16) (sm_u (ux_itef (by decide) (ux_gI rfl (ux_gI rfl ?_)))))
  rw [e19]
  refine ux_rE (fun z hz => q_X10_mayMove hz ha hc16) ?_
  rw [em]
  exact sm_g (p_fin cx h1 e7 (by rw [e4]; exact hP) h0 ha (by omega) le (fun _ => Or.inr (Or.inl ⟨rfl, rfl, c, hc, rfl⟩)) (fun M D Q q => ux_itet rfl (ux_retZ (Or.inl rfl) q)) (fun M D Q q => ux_itef (by decide) (ux_retZ (Or.inr rfl) q)))
theorem p_support (cx : CX G N x n np T L b W D M0) (h : ST z x ad W D b L M0 l i S C E M D') (hP : PT (W 1) (W 3) n np T S (M 4)) (h0 : W 3 0 0 = 0) (ha : a < 16) (hu : uu S a = true) (hii : i0 < i) (hi : i ≤ L) : gx (qX7_readSupport N (x + 6) (ad 0) (ad 3) (nI a) G z) (fun r z' => ux G (x + 129) (qX10_readSupport N (x + 129) (nI a)) M D' (fun b1 M2 D2 => PO x ad W D b L M0 l (PT (W 1) (W 3) n np T) i0 r z' b1 M2 D2)) := by
  obtain ⟨hI, hA, hN, hL, hb, hm, ht, hs⟩ := id cx
  have hb' : ∀ k, k < 1000 → b k < 256 := fun k hk => (hb k hk).1
  unfold qX7_readSupport qX10_readSupport qX10_readSupport_64 qX10_readSupport_65
  refine p_here cx h hi (fun z1 C1 E1 M1 D1 h1 he hr => gx_itet rfl (gx_retZ (Or.inl rfl) (ux_itet rfl (ux_retZ (Or.inl rfl) (PO_f h1 he hr rfl rfl))))) (fun c z1 C1 E1 M1 D1 hc hc16 h1 lt le e7 e19 e4 => ?_)
  have hsu := hP.2.2.2 (by rw [h0]; decide)
  refine gx_itef (nI_m1 (by omega)) (gx_callE rfl ?_)
  cases hk : kwb b L (tX b L i) 9
  · refine gx_recvE h1.1.2.o (by decide) (c_take0_X7 h1.1 h1.2.1 le hI (by omega) hk) (gx_itet rfl (gx_recvE h1.1.d1.o (by decide) (q_allowsUnitSupport h1.1.d1 h1.1.b1 ha hc16) (sm_u (ux_itef (by decide) (ux_gI rfl (ux_gI rfl (ux_call (ux_takesIf (j := 9) (by omega) kwL9 h1.2.2.1 hb' hL (by omega) hN le (fun _ M2 D2 t2 a3 r2 d2 => ux_itet rfl (ux_p13 (by omega) ?_)) (fun q => by rw [hk] at q; cases q)))))))))
    have hr2 := h1.2.2.2.2.k (rk2_rk r2) d2
    have h2 : ST z1 x ad W D b L M0 l (tX b L i) S C1 E1 (cset M2 13 fun _ => M1 13 0) D2 := ⟨h1.1, h1.2.1, t2, ⟨h1.2.2.2.1.1.trans (congrFun (r2 16 (by omega)) 0).symm, h1.2.2.2.1.2.trans (congrFun (r2 17 (by omega)) 0).symm⟩, hr2.k (fun k hk => by rw [cset_ne (by omega)]) dk_rf⟩
    have em : rUs (cset M2 13 fun _ => M1 13 0) a c = aUs (W 1) S a c := usE (cpM_keep hm (h2.2.2.2.2.1 1 (by omega)) (hr2.2.1 6 (by omega))) hs.j (by rw [h2.2.2.2.2.1 3 (by omega)]; exact ht) hsu ha hc16 hu
    rw [e19]
    refine ux_rE (fun z hz => q_X10_maySupport hz ha hc16) ?_
    rw [em]
    have e4' : (cset M2 13 fun _ => M1 13 0) 4 = M 4 := by rw [cset_ne (by omega), r2 4 (by omega)]; exact e4
    refine sm_g (p_fin cx h2 e7 (by rw [e4']; exact hP) h0 ha (by omega) le (fun q => Or.inr (Or.inr (Or.inl ⟨rfl, rfl, c, hc, rfl, ?_⟩))) (fun M D Q q => ux_retZ (Or.inl rfl) q) (fun M D Q q => ux_retZ (Or.inr rfl) q))
    unfold aUs at q
    rw [Bool.and_eq_true] at q
    exact q.1
  · refine gx_recvQ h1.1.2.o (by decide) (c_take1_X7 h1.1 hb h1.2.1 hL le hA hN hI (by omega) hk) ?_
    rintro r z2 ⟨rfl, C2, E2, h2, tc2, c7, c8, c9⟩
    refine gx_itef (by decide) (sm_u (ux_itef (by decide) (ux_gI rfl (ux_gI rfl (ux_call (ux_takesIf (j := 9) (by omega) kwL9 h1.2.2.1 hb' hL (by omega) hN le (fun q => by rw [hk] at q; cases q) (fun _ M2 D2 t2 a3 r2 d2 => ux_itef (by decide) (sm_g ?_))))))))
    rw [e19]
    have hle2 := tX_le (b := b) le
    have hST2 : ST z2 x ad W D b L M0 l (tX b L (tX b L i)) S C2 E2 M2 D2 := ⟨h2, tc2, t2, ⟨by rw [c8, r2 16 (by omega)]; exact h1.2.2.2.1.1, by rw [c9, r2 17 (by omega)]; exact h1.2.2.2.1.2⟩, h1.2.2.2.2.k (rk2_rk r2) d2⟩
    refine p_here cx hST2 hle2.2 (fun z3 C3 E3 M3 D3 h3 he hr => gx_itet rfl (gx_retZ (Or.inl rfl) (ux_itet rfl (ux_retZ (Or.inl rfl) (PO_f h3 he hr rfl rfl))))) (fun d z3 C3 E3 M3 D3 hd hd16 h3 lt3 le3 e73 e193 e43 => ?_)
    have hr3 := h3.2.2.2.2
    have em : rMs M3 a c d = aMs (W 1) S a c d := msE (cpM_keep hm (hr3.1 1 (by omega)) (hr3.2.1 6 (by omega))) hs.j (by rw [hr3.1 3 (by omega)]; exact ht) hsu ha hd16 hc16 hu
    refine gx_itef (nI_m1 (by omega)) (gx_recvE h3.1.d1.o (by decide) (q_allowsMoveSupport h3.1.d1 h3.1.b1 ha hc16 hd16) (sm_u (ux_itef (by decide) (ux_gI rfl (ux_gI rfl ?_)))))
    rw [e193]
    refine ux_rE (fun z hz => q_X10_maySupportMove hz ha hc16 hd16) ?_
    rw [em]
    exact sm_g (p_fin cx h3 e73 (by rw [e43, r2 4 (by omega), e4]; exact hP) h0 ha (by omega) le3 (fun _ => Or.inr (Or.inr (Or.inr ⟨Or.inl rfl, ⟨c, hc, rfl⟩, d, hd, rfl⟩))) (fun M D Q q => ux_itet rfl (ux_retZ (Or.inl rfl) q)) (fun M D Q q => ux_itef (by decide) (ux_retZ (Or.inr rfl) q)))
theorem p_convoy (cx : CX G N x n np T L b W D M0) (h : ST z x ad W D b L M0 l i S C E M D') (hP : PT (W 1) (W 3) n np T S (M 4)) (h0 : W 3 0 0 = 0) (ha : a < 16) (hu : uu S a = true) (hii : i0 < i) (hi : i ≤ L) : gx (qX7_readConvoy N (x + 6) (ad 0) (ad 3) (nI a) G z) (fun r z' => ux G (x + 129) (qX10_readConvoy N (x + 129) (nI a)) M D' (fun b1 M2 D2 => PO x ad W D b L M0 l (PT (W 1) (W 3) n np T) i0 r z' b1 M2 D2)) := by
  obtain ⟨hI, hA, hN, hL, hb, hm, ht, hs⟩ := id cx
  have hb' : ∀ k, k < 1000 → b k < 256 := fun k hk => (hb k hk).1
  unfold qX7_readConvoy qX7_readConvoy_23 qX10_readConvoy qX10_readConvoy_59 qX10_readConvoy_60
  refine p_here cx h hi (fun z1 C1 E1 M1 D1 h1 he hr => gx_itet rfl (gx_retZ (Or.inl rfl) (ux_itet rfl (ux_retZ (Or.inl rfl) (PO_f h1 he hr rfl rfl))))) (fun c z1 C1 E1 M1 D1 hc hc16 h1 lt le e7 e19 e4 => ?_)
  have hsu := hP.2.2.2 (by rw [h0]; decide)
  refine gx_itef (nI_m1 (by omega)) (gx_callE rfl ?_)
  cases hk : kwb b L (tX b L i) 9
  · refine gx_recvQ h1.1.2.o (by decide) (c_takeF0_X7 h1.1 h1.2.1 le hA hI (by omega) hk) (fun r z2 ⟨e, h2⟩ => gx_itet e (gx_retZ (Or.inl rfl) (ux_itef (by decide) (ux_gI rfl (ux_call (ux_takesWord (j := 9) (by omega) kwL9 h1.2.2.1 hb' hL (by omega) hN le (fun _ M2 D2 b6 b7 r2 d2 => ux_itet rfl (ux_retZ (Or.inl rfl) (PO_f h2 ⟨b6.symm, b7.symm⟩ (h1.2.2.2.2.k r2 d2) rfl rfl))) (fun q => by rw [hk] at q; cases q)))))))
  · refine gx_recvQ h1.1.2.o (by decide) (c_takeF1_X7 h1.1 hb h1.2.1 hL le hA hN hI (by omega) hk) ?_
    rintro r z2 ⟨rfl, C2, E2, h2, tc2, c7, c8, c9⟩
    refine gx_itef (by decide) (sm_u (ux_itef (by decide) (ux_gI rfl (ux_call (ux_takesWord (j := 9) (by omega) kwL9 h1.2.2.1 hb' hL (by omega) hN le (fun q => by rw [hk] at q; cases q) (fun _ M2 D2 t2 a3 r2 d2 => ux_itef (by decide) (sm_g ?_)))))))
    rw [e19]
    have hle2 := tX_le (b := b) le
    have hST2 : ST z2 x ad W D b L M0 l (tX b L (tX b L i)) S C2 E2 M2 D2 := ⟨h2, tc2, t2, ⟨by rw [c8, r2 16 (by omega)]; exact h1.2.2.2.1.1, by rw [c9, r2 17 (by omega)]; exact h1.2.2.2.1.2⟩, h1.2.2.2.2.k (rk2_rk r2) d2⟩
    refine p_here cx hST2 hle2.2 (fun z3 C3 E3 M3 D3 h3 he hr => gx_itet rfl (gx_retZ (Or.inl rfl) (ux_itet rfl (ux_retZ (Or.inl rfl) (PO_f h3 he hr rfl rfl))))) (fun d z3 C3 E3 M3 D3 hd hd16 h3 lt3 le3 e73 e193 e43 => ?_)
    have hr3 := h3.2.2.2.2
    have em : rCv M3 a c d = aCv (W 1) S a c d := cvE (cpM_keep hm (hr3.1 1 (by omega)) (hr3.2.1 6 (by omega))) hs.j (by rw [hr3.1 3 (by omega)]; exact ht) hsu ha hd16 hc16 hu
    refine gx_itef (nI_m1 (by omega)) (gx_recvE h3.1.d1.o (by decide) (q_allowsConvoy h3.1.d1 h3.1.b1 ha hc16 hd16) (sm_u (ux_itef (by decide) (ux_gI rfl (ux_gI rfl ?_)))))
    rw [e193]
    refine ux_rE (fun z hz => q_X10_mayConvoy hz ha hc16 hd16) ?_
    rw [em]
    exact sm_g (p_fin cx h3 e73 (by rw [e43, r2 4 (by omega), e4]; exact hP) h0 ha (by omega) le3 (fun _ => Or.inr (Or.inr (Or.inr ⟨Or.inr rfl, ⟨c, hc, rfl⟩, d, hd, rfl⟩))) (fun M D Q q => ux_itet rfl (ux_retZ (Or.inl rfl) q)) (fun M D Q q => ux_itef (by decide) (ux_retZ (Or.inr rfl) q)))
end
