/-! the law's own steps (34): load -/
section
variable {G : osG} {z : osS} {N x n np n' np' k m q T L c lo s : Nat} {ad : Nat → Nat} {W : Nat → Nat → Nat → Int32} {D : osS} {b : Nat → Nat} {t : List Nat} {I : (Nat → Nat → Int32) → (Nat → Nat → Int32) → Prop}
theorem q_X3_readMap (cx : CXm G N x L b W) (hw : WD z x ad W D) (hp : PF G N x t I) (hbt : bAt b 0 t) (eL : L = t.length) : gx (qX3_readMap N (x + 4) (x + 1) (nI L) (ad 1) (ad 3) G z) (fun r z' => r = 1 ∧ ∃ B S C E, MW z' x ad (Ws (Ws W 2 B) 4 S) D C E ∧ I B S) := by
  obtain ⟨hI, hA, hN, hL, hb⟩ := id cx
  have hb9 := hw.ok.b
  have hs9 := hw.ok.s
  unfold qX3_readMap
  refine gx_recvQ hw.sp.o (by decide) (q_X0_clear hw.sp (by omega) (by omega)) (fun _ z1 ⟨f1, b1⟩ => ?_)
  have w1 := hw.cs f1 b1
  refine gx_recvQ w1.dr.o (by decide) (q_X5_clear w1.dr (by omega) (by omega)) (fun _ z2 ⟨f2, d2⟩ => ?_)
  have w2 := w1.cd f2 d2
  obtain ⟨⟨tb, A, E, h⟩, _⟩ := w2.rd
  refine gx_recvQ h.o (by decide) (c_begin_X3 w2 hb hL hA hN) ?_
  rintro _ z3 ⟨C, E, h3, tc, e8, e9⟩
  unfold qX3_readMap_18
  show gx (lp N N (x + 4, nI L, ad 1, ad 3, (0 : Int32)) G z3) _
  refine hp L b ad W D z3 C E _ _ _ cx hbt (by omega) h3 tc (fun j z' B S C' E' hj hI' h' t' => ?_)
  obtain ⟨M, hM⟩ : ∃ M, N - j = M + 1 := ⟨N - j - 1, by omega⟩
  rw [hM]
  show gx (bX3_readMap_18 N (lp N M) (x + 4) (nI L) (ad 1) (ad 3) (nI j) G z') _
  unfold bX3_readMap_18
  refine gx_itef (fun c => by have := (nI_ltI (a := L) (b := j) (by omega) (by omega)).mp c; omega) (gx_recvE h'.2.o (by decide) (c_isEnd_X3 h' t' (by omega)) ?_)
  rw [decide_eq_true (show L ≤ tS b L t.length by rw [← eL]; exact tk_end)]
  exact gx_itef (by decide) (gx_retZ (Or.inr rfl) ⟨rfl, B, S, C', E', h', hI'⟩)
theorem q_X9_load (hw : WD z x ad W D) (e1 : W 0 1 0 = nI c) (hl : t.length ≤ c) (hc : c ≤ 1000) (hb : txB b W) (hbt : bAt b 0 t) (hp : PF G N x t I) (hI : osInj G) (hA : G.2.2.1 ≤ x) (hN : 5000 < N) : gx (qX9_load N x (nI t.length) G z) (fun r z' => ∃ B S W', r = .inr (nI (nu S)) ∧ I B S ∧ WD z' x (swA (sbA ad)) W' D ∧ W' 1 = B ∧ W' 3 = S ∧ W' 0 0 = W 0 0 ∧ W' 0 1 0 = nI 0 ∧ W' 0 9 0 = nI 0) := by
  unfold qX9_load
  refine gx_bindT (gx_recv hw.x9.o (by decide) ?_)
  unfold qX9_requireLength qX9_requireLength_13
  refine gx_itef (fun q => by have := (nI_ltI (a := t.length) (b := 0) (by omega) (by omega)).mp q; omega) (gx_gI hw.x9.o (by decide) rfl ?_)
  rw [e1]
  refine gx_itet ((nI_leI (by omega) (by omega)).mpr hl) (gx_Rt (gx_ret ?_))
  refine hw.x9.p1 (by decide) hA (fun z1 f1 h1 => ?_)
  have w1 := hw.c9 f1 h1
  refine gx_gR w1.x9.o (by decide) rfl (gx_gR w1.x9.o (by decide) rfl (gx_gR w1.x9.o (by decide) rfl (gx_gR w1.x9.o (by decide) rfl ?_)))
  obtain ⟨⟨tb, A, B, hrd⟩, _⟩ := w1.rd
  have cx : CXm G N x t.length b (Ws W 0 (cset (W 0) 1 fun _ => (0 : Int32))) := ⟨hI, hA, hN, by omega, hb⟩
  refine gx_recvQ hrd.o (by decide) (q_X3_readMap cx w1 hp hbt rfl) ?_
  rintro r z2 ⟨rfl, B', S', C', E', h2, hI2⟩
  refine gx_gR h2.1.x9.o (by decide) rfl (gx_recvQ h2.1.x9.o (by decide) (c_note_X3 h2 hA) (fun _ z3 h3 => ?_))
  refine gx_itef (by decide) (gx_swap h3.1 hA (fun z5 w5 => gx_recvQ w5.x9.o (by decide) (c_adopt w5 hA) (fun _ z6 w6 => w6.x9.p9 (by decide) hA (fun z7 f7 h9 => ?_))))
  have w7 := w6.c9 f7 h9
  have hd7 : rX5 z7 (swA (sbA ad) 2) S' := w7.nw
  exact gx_gR w7.x9.o (by decide) rfl (gx_recvE hd7.o (by decide) (q_countAllUnits hd7 (by omega)) (gx_Rt (gx_ret ⟨B', S', _, rfl, hI2, w7, rfl, rfl, rfl, rfl, rfl⟩)))
theorem q_L_load {Q : Int32 → osS → Prop} (h : LW z x ad W n np T) (hs : stR G lo z s t) (hlo : x + 130 ≤ lo) (hp : PF G N x t (MI n' np' k m q)) (hI : osInj G) (hA : G.2.2.1 ≤ x) (hN : 5000 < N)
    (kk : ∀ z1 ad1 W1, LW z1 x ad1 W1 n' np' 1 → MI n' np' k m q (W1 1) (W1 3) → W1 0 9 0 = nI 0 → Q (nI (nu (W1 3))) z1) : gx (qL_load N x s G z) Q := by
  have hl := hs.1.2
  have ha := hs.1.1
  unfold qL_load
  refine gx_call (q_type h.w h.z0 h.i.by9 h.r hs hlo hI hA hN) (fun _ z1 ⟨fr, hr1, hs1, W1, w1, ty⟩ => ?_)
  refine gx_callE (b := nI t.length) (z1 := z1) (q_sLen hs1 hI) ?_
  obtain ⟨b, hb, hbt⟩ := typd_b ty ha
  obtain ⟨c, c1, c2, c3⟩ := ty.2.2.1
  have hi1 : IVn W1 z1 n np T := (IVn_typ h.i ty).oD
  refine gx_bindC (gx_recv w1.x9.o (by decide) (gx_mono (q_X9_load w1 c1 c2 c3 hb (fun k hk => by rw [Nat.zero_add]; exact hbt k hk (by omega)) hp hI hA hN) ?_))
  rintro r z' ⟨B, S, W', rfl, hMI, w3, e1, e3, e00, e01, e9⟩
  subst e1
  subst e3
  refine gx_ret (kk z' _ W' ⟨w3.re, ⟨hMI.1.bdI, hMI.1.stI, ⟨0, by omega, e01⟩, ⟨0, by omega, e9, fun i hi => absurd hi (Nat.not_lt_zero i)⟩, fun k hk => by rw [e00]; exact hi1.by9 k hk⟩, e01, hr1.cls w3.fr⟩ hMI e9)
end
