/-! the law's own steps (7): tell, whatever the reader does -/
/-- what a text leaves as it was -/
def kyp (W W' : Nat → Nat → Nat → Int32) : Prop := W' 1 = W 1 ∧ (∀ k, 8 ≤ k → W' k = W k) ∧ W' 0 9 0 = W 0 9 0
section
variable {G : osG} {z : osS} {N x n np T l c lo s : Nat} {ad : Nat → Nat} {W : Nat → Nat → Nat → Int32} {D : osS} {b : Nat → Nat} {t : List Nat} {F : Prop} {R : Int32 → (Nat → Nat → Int32) → Prop}
theorem q_X9_tell (hw : WD z x ad W D) (hi : IVn W D n np T) (e1 : W 0 1 0 = nI c) (hl : l ≤ c) (hc : c ≤ 1000) (hb : txB b W) (hI : osInj G) (hA : G.2.2.1 ≤ x) (hN : 5000 < N)
    (hread : ∀ z2 U C E, TW z2 x ad (Ws (Ws W 0 (cset (W 0) 1 fun _ => (0 : Int32))) 4 U) D C E → tkC b l 0 C E → sE (W 3) U → gx (qX7_readAll_9 N (x + 6, nI l, ad 0, ad 3, (0 : Int32)) G z2) (RA x ad (Ws W 0 (cset (W 0) 1 fun _ => (0 : Int32))) D F R)) :
    gx (qX9_tell N x (nI l) G z) (fun r z' => (r = .inl 0 ∧ F ∧ ∃ z3 W', z' = thz z3 ∧ WD z3 x ad W' D ∧ kyp W W' ∧ W' 0 0 = W 0 0 ∧ W' 0 1 0 = nI 0 ∧ W' 3 = W 3) ∨ ∃ v W', r = .inr v ∧ R v (W' 3) ∧ WD z' x (swA ad) W' D ∧ kyp W W' ∧ W' 0 0 = W 0 0 ∧ W' 0 1 0 = nI 0) := by
  have hj := hi.i.j
  unfold qX9_tell
  refine gx_bindT (gx_recv hw.x9.o (by decide) ?_)
  unfold qX9_requireLength qX9_requireLength_13
  refine gx_itef (fun q => by have := (nI_ltI (a := l) (b := 0) (by omega) (by omega)).mp q; omega) (gx_gI hw.x9.o (by decide) rfl ?_)
  rw [e1]
  refine gx_itet ((nI_leI (by omega) (by omega)).mpr hl) (gx_Rt (gx_ret ?_))
  refine hw.x9.p1 (by decide) hA (fun z1 f1 h1 => ?_)
  have w1 := hw.c9 f1 h1
  have hs9 := hw.ok.s
  refine gx_gR w1.x9.o (by decide) rfl (gx_gR w1.x9.o (by decide) rfl (gx_recvQ w1.dr.o (by decide) (q_X5_copyFrom w1.dr w1.nw (by omega) (by omega) hj.b2) (fun _ z2 ⟨f2, U, h2, u1, u2, u3⟩ => ?_)))
  have w2 := w1.cd f2 h2
  have hsE : sE (W 3) U := ⟨u1, u2, u3⟩
  refine gx_gR w2.x9.o (by decide) rfl (gx_gR w2.x9.o (by decide) rfl (gx_gR w2.x9.o (by decide) rfl (gx_gR w2.x9.o (by decide) rfl ?_)))
  obtain ⟨_, tb, A, B, hrd⟩ := w2.rd
  refine gx_recvQ (Q1 := RA x ad (Ws W 0 (cset (W 0) 1 fun _ => (0 : Int32))) D F R) hrd.o (by decide) ?_ (fun r z3 ⟨S', C', E', h7, hcase⟩ => ?_)
  · unfold qX7_readAll
    refine gx_recvQ hrd.o (by decide) (c_begin_X7 w2 hb (by omega) hA hN) (fun _ z3 ⟨C, E, h3, t3, _, _⟩ => hread z3 U C E h3 t3 hsE)
  · refine gx_gR h7.1.x9.o (by decide) rfl (gx_recvQ h7.1.x9.o (by decide) (c_note_X7 h7 hA) (fun _ z4 h4 => ?_))
    rcases hcase with ⟨rfl, hF⟩ | ⟨hne, hR⟩
    · refine gx_itet rfl (gx_throw (Or.inl ⟨rfl, hF, z4, _, rfl, h4.1, ⟨rfl, fun k hk => ?_, rfl⟩, rfl, rfl, rfl⟩))
      rw [Ws_ne (by omega), Ws_ne (by omega), Ws_ne (by omega)]
    · refine gx_itef hne (gx_recvQ h4.1.x9.o (by decide) (c_adopt h4.1 hA) (fun _ z5 w5 => gx_Rt (gx_ret (Or.inr ⟨r, _, rfl, ?_, w5, ⟨rfl, fun k hk => ?_, rfl⟩, rfl, rfl⟩))))
      · exact hR
      · rw [swW_p (by omega) (by omega), Ws_ne (by omega), Ws_ne (by omega), Ws_ne (by omega)]
theorem typd_b {W1 : Nat → Nat → Nat → Int32} (h : typd t W W1) (ha : asc t) : ∃ b : Nat → Nat, txB b W1 ∧ ∀ k, k < t.length → k < 1000 → b k = t.getD k 0 := by
  have : ∀ k, ∃ w, k < 1000 → (w < 256 ∧ W1 0 0 k = (nI w).toInt8.toInt32) ∧ (k < t.length → w = t.getD k 0) := fun k => by
    by_cases c : k < t.length
    · exact ⟨t.getD k 0, fun hk => ⟨⟨by have := asc_get ha c; omega, (h.2.2.2 k hk).2 c⟩, fun _ => rfl⟩⟩
    · by_cases hk : k < 1000
      · obtain ⟨w, w1, w2⟩ := (h.2.2.2 k hk).1
        exact ⟨w, fun _ => ⟨⟨w1, w2⟩, fun q => absurd q c⟩⟩
      · exact ⟨0, fun q => absurd q hk⟩
  exact ⟨fun k => Classical.choose (this k), fun k hk => (Classical.choose_spec (this k) hk).1, fun k hk h1 => (Classical.choose_spec (this k) h1).2 hk⟩
/-- after the text is typed -/
theorem IVn_typ {W1 : Nat → Nat → Nat → Int32} (hi : IVn W D n np T) (h : typd t W W1) : IVn W1 D n np T := by
  obtain ⟨k1, k0, ⟨c, c1, c2, c3⟩, kb⟩ := h
  obtain ⟨m, i, inn, ⟨u, u6, u9, hp⟩, b9⟩ := hi
  exact ⟨by rw [k1 1 (by omega)]; exact m, by rw [k1 1 (by omega), k1 3 (by omega)]; exact i, ⟨c, c3, c1⟩, ⟨u, u6, by rw [k0 9 (by omega) (by omega)]; exact u9, fun i hi => by rw [k1 1 (by omega), k1 (8 + i) (by omega)]; exact hp i hi⟩, fun k hk => (kb k hk).1⟩
/-- after a text is told -/
theorem IVn_kyp {W' : Nat → Nat → Nat → Int32} {D' : osS} (hi : IVn W D n np T) (h : kyp W W') (h0 : W' 0 0 = W 0 0) (h1 : W' 0 1 0 = nI 0) (h3 : stI (W 1) (W' 3) n np T) : IVn W' D' n np T := by
  obtain ⟨k1, k8, k9⟩ := h
  obtain ⟨m, i, inn, ⟨u, u6, u9, hp⟩, b9⟩ := hi
  exact ⟨by rw [k1]; exact m, by rw [k1]; exact h3, ⟨0, by omega, h1⟩, ⟨u, u6, by rw [k9]; exact u9, fun i hi => by rw [k1, k8 (8 + i) (by omega)]; exact hp i hi⟩, fun k hk => by rw [h0]; exact b9 k hk⟩
theorem q_L_tell {Q : Int32 → osS → Prop} (h : LW z x ad W n np T) (hs : stR G lo z s t) (hlo : x + 130 ≤ lo) (hI : osInj G) (hA : G.2.2.1 ≤ x) (hN : 5000 < N)
    (hread : ∀ b W1 z2 D U C E, (∀ k, k < t.length → b k = t.getD k 0) → W1 1 = W 1 → CXc G N x n t.length b W1 → TW z2 x ad (Ws W1 4 U) D C E → tkC b t.length 0 C E → sE (W 3) U → gx (qX7_readAll_9 N (x + 6, nI t.length, ad 0, ad 3, (0 : Int32)) G z2) (RA x ad W1 D F R))
    (hR : ∀ v S', R v S' → stI (W 1) S' n np T)
    (kf : ∀ z1 W1, F → fL x z z1 → LW z1 x ad W1 n np T → kyp W W1 → W1 3 = W 3 → Q (-1) z1)
    (ks : ∀ z1 ad1 W1 v, fL x z z1 → LW z1 x ad1 W1 n np T → kyp W W1 → R v (W1 3) → Q v z1) : gx (qL_tell N x s G z) Q := by
  have hl := hs.1.2
  have ha := hs.1.1
  unfold qL_tell
  refine gx_call (q_type h.w h.z0 h.i.by9 h.r hs hlo hI hA hN) (fun _ z1 ⟨fr, hr1, hs1, W1, w1, ty⟩ => ?_)
  refine gx_callE (b := nI t.length) (z1 := z1) (q_sLen hs1 hI) ?_
  obtain ⟨b, hb, hbt⟩ := typd_b ty ha
  obtain ⟨c, c1, c2, c3⟩ := ty.2.2.1
  have hi1 : IVn W1 z1 n np T := (IVn_typ h.i ty).oD
  have e1 : W1 1 = W 1 := ty.1 1 (by omega)
  have e3 : W1 3 = W 3 := ty.1 3 (by omega)
  have ky1 : ∀ {W' : Nat → Nat → Nat → Int32}, kyp W1 W' → kyp W W' := fun {W'} q => ⟨q.1.trans e1, fun k hk => (q.2.1 k hk).trans (ty.1 k (by omega)), q.2.2.trans (congrFun (ty.2.1 9 (by omega) (by omega)) 0)⟩
  obtain ⟨kz, hkz, hkz2⟩ := hr1.2
  refine gx_bindC (gx_recv w1.x9.o (by decide) (gx_mono (q_X9_tell (F := F) (R := R) w1 hi1 c1 c2 c3 hb hI hA hN (fun z2 U C E h2 t2 hsE => hread b _ z2 z1 U C E (fun k hk => hbt k hk (by omega)) e1 ⟨hI, hA, hN, by omega, hb, hi1.m.c0, hi1.m.n16⟩ h2 t2 (by rw [← e3]; exact hsE))) ?_))
  rintro r z' (⟨rfl, hF, z3, W', rfl, w3, ky, k0, kz0, k3⟩ | ⟨v, W', rfl, hRv, w3, ky, k0, kz0⟩)
  · refine gx_hand ⟨(0, -1), rfl, rfl⟩ ?_
    have L3 : LW z3 x ad W' n np T := ⟨w3.re, IVn_kyp hi1 ky k0 kz0 (by rw [k3]; exact hi1.i), kz0, hr1.cls w3.fr⟩
    have f3 := fL.of hkz w3.fr
    refine kf (thz z3) W' hF (fr.tr (f3.tr ?_)) L3.th (ky1 ky) (k3.trans e3)
    have e9 : z3.2 = some kz := w3.fr.2.trans hkz
    exact ⟨fun _ _ _ _ _ => rfl, kz, kz + 1, e9, by show z3.2.map _ = _; rw [e9]; rfl, by omega⟩
  · refine gx_ret (ks z' (swA ad) W' v (fr.tr (fL.of hkz w3.fr)) ⟨w3.re, IVn_kyp hi1 ky k0 kz0 (by rw [e1]; exact hR v _ hRv), kz0, hr1.cls w3.fr⟩ (ky1 ky) hRv)
/-- a text of orders, whatever it is -/
theorem q_L_tellO {Q : Int32 → osS → Prop} (h : LW z x ad W n np T) (ph : W 3 0 0 = 0) (hs : stR G lo z s t) (hlo : x + 130 ≤ lo) (hI : osInj G) (hA : G.2.2.1 ≤ x) (hN : 5000 < N)
    (kk : ∀ z1 ad1 W1 v, fL x z z1 → LW z1 x ad1 W1 n np T → kyp W W1 → W1 3 0 0 = 0 → (∀ a, a < 16 → W1 3 6 a = W 3 6 a) → Q v z1) : gx (qL_tell N x s G z) Q := by
  refine q_L_tell (F := True) (R := fun r S' => (∃ j, j ≤ 1000 ∧ r = nI j) ∧ S' 0 0 = 0 ∧ stI (W 1) S' n np T ∧ ∀ a, a < 16 → S' 6 a = W 3 6 a) h hs hlo hI hA hN (fun b W1 z2 D U C E _ e1 cx h2 t2 hsE => ?_) (fun v S' q => q.2.2.1) (fun z1 W1 _ f L1 k e => kk z1 ad W1 _ f L1 k (by rw [e]; exact ph) (fun a _ => by rw [e])) (fun z1 ad1 W1 v f L1 k q => kk z1 ad1 W1 v f L1 k q.2.1 q.2.2.2)
  have hoP : oP (W1 1) n np T U U := ⟨by rw [e1]; exact stI_sE hsE h.n16 h.i.i, by rw [hsE.1 0 (by omega)]; exact ph, fun _ _ => rfl⟩
  refine gx_mono (f_orders cx h2 t2 hoP) (fun r z3 ⟨S', C', E', q1, q2⟩ => ⟨S', C', E', q1, ?_⟩)
  rcases q2 with q | ⟨q, q3, q4⟩
  · exact Or.inl q
  · exact Or.inr ⟨q, q3, q4.2.1, by rw [← e1]; exact q4.1, fun a ha => by rw [q4.2.2 6 (by omega)]; exact hsE.2.1 6 (by omega) (by omega) a ha⟩
end
