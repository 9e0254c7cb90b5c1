/-! the class' tokens (by program) -/
theorem q_wp {G : osG} {z : osS} {j : Nat} (hI : osInj G) (hj : j < 15) : oswp (G.2.2.2.1 j) G z = some (lN (kwN j), z) := by
  unfold oswp
  cases h : (List.range 15).find? (fun i => G.2.2.2.1 i == G.2.2.2.1 j) with
  | none =>
    have := List.find?_eq_none.mp h j (List.mem_range.mpr hj)
    simp at this
  | some i =>
    have h1 := List.mem_range.mp (List.mem_of_find?_eq_some h)
    have h2 : (G.2.2.2.1 i == G.2.2.2.1 j) = true := List.find?_some (p := fun i => G.2.2.2.1 i == G.2.2.2.1 j) h
    have e := hI.1 i j h1 hj (beq_iff_eq.mp h2)
    subst e
    show (match osPk[i]? with | some v => some (v, z) | none => none) = _
    rw [(kw_pk i hj).1]
theorem q_wlen {G : osG} {z : osS} : oswlen (G.2.2.2.1 15) G z = some (nI 15, z) := by unfold oswlen; rw [if_pos rfl]; rfl
theorem q_wld {G : osG} {z : osS} {j : Nat} (hj : j < 15) : oswld (G.2.2.2.1 15) (nI j) G z = some (G.2.2.2.1 j, z) := by
  unfold oswld
  rw [if_pos ⟨rfl, nI_in hj (by omega)⟩, nI_clamp (by omega)]
theorem q_isKeyword {G : osG} {z : osS} {N v : Nat} (hI : osInj G) (hv : v < 2 ^ 40) (hN : 5000 < N) : qX8_isKeyword N (lN v) G z = some (b2i (isKw v), z) := by
  refine gx_eq ?_
  unfold qX8_isKeyword qX8_isKeyword_2
  refine gx_any (fun j => decide (kwN j = v)) 15 (fun i => (lN v, nI i)) ?_ ?_ N (by omega)
  · intro ih i hi k1 k2
    show gx (bX8_isKeyword_2 N ih (lN v) (nI i) G z) _
    unfold bX8_isKeyword_2
    have hk := (kw_pk i hi).2.2
    refine gx_callE rfl (gx_callE q_wlen (gx_itef (nI_nleE (a := 15) (b := i) rfl rfl hi (by omega)) (gx_callE rfl (gx_callE (q_wld hi) (gx_callE (q_wp hI hi) (gx_ite (fun c => ?_) (fun c => ?_)))))))
    · have e : kwN i = v := (fb_lN_inj (by omega) (by omega)).mp (lcmp_0.mp c)
      refine gx_retZ (Or.inr rfl) ⟨?_, rfl⟩
      unfold isKw
      rw [k2 (decide_eq_true e)]; rfl
    · rw [nI_1]
      exact k1 (decide_eq_false (fun q => c (by rw [q]; exact lcmp_0.mpr rfl)))
  · intro ih hn
    show gx (bX8_isKeyword_2 N ih (lN v) (nI 15) G z) _
    unfold bX8_isKeyword_2
    refine gx_callE rfl (gx_callE q_wlen (gx_itet (by decide) (gx_retZ (Or.inl rfl) ⟨?_, rfl⟩)))
    unfold isKw
    rw [hn]; rfl
theorem lN_tI {v : Nat} : (lN v).toInt32 = nI v := by
  apply Int32.toBitVec_inj.mp
  apply BitVec.eq_of_toNat_eq
  show (BitVec.signExtend 32 (BitVec.ofNat 64 v)).toNat = (BitVec.ofNat 32 v).toNat
  rw [BitVec.signExtend_eq_setWidth_of_le _ (by decide), BitVec.toNat_setWidth, BitVec.toNat_ofNat, BitVec.toNat_ofNat]
  omega
section
variable {b : Nat → Nat} {L i : Nat}
theorem tK_cs (h : i ≤ L) : (0 < tN b L i ∧ tK b L i = 1) ∨ (tN b L i = 0 ∧ L ≤ tS b L i ∧ tK b L i = 0) ∨ (tN b L i = 0 ∧ tS b L i < L ∧ b (tS b L i) = 59 ∧ tK b L i = 2) ∨ (tN b L i = 0 ∧ tS b L i < L ∧ ¬ b (tS b L i) = 59 ∧ tK b L i = 3) := by
  unfold tK
  by_cases q : 0 < tN b L i
  · rw [if_pos q]; exact Or.inl ⟨q, rfl⟩
  · rw [if_neg q]
    by_cases q2 : L ≤ tS b L i
    · rw [if_pos q2]; exact Or.inr (Or.inl ⟨by omega, q2, rfl⟩)
    · rw [if_neg q2]
      by_cases q3 : b (tS b L i) = 59
      · rw [if_pos q3]; exact Or.inr (Or.inr (Or.inl ⟨by omega, by omega, q3, rfl⟩))
      · rw [if_neg q3]; exact Or.inr (Or.inr (Or.inr ⟨by omega, by omega, q3, rfl⟩))
theorem tK_1 (h : i ≤ L) : nI (tK b L i) = (1 : Int32) ↔ 0 < tN b L i := by
  rcases tK_cs (b := b) h with ⟨q, e⟩ | ⟨q, _, e⟩ | ⟨q, _, _, e⟩ | ⟨q, _, _, e⟩ <;> rw [e]
  · exact ⟨fun _ => q, fun _ => rfl⟩
  · exact ⟨fun c => absurd c (by decide), fun c => by omega⟩
  · exact ⟨fun c => absurd c (by decide), fun c => by omega⟩
  · exact ⟨fun c => absurd c (by decide), fun c => by omega⟩
theorem tK_2 (h : i ≤ L) : nI (tK b L i) = (2 : Int32) ↔ tK b L i = 2 := by
  rcases tK_cs (b := b) h with ⟨q, e⟩ | ⟨q, _, e⟩ | ⟨q, _, _, e⟩ | ⟨q, _, _, e⟩ <;> rw [e] <;> decide
theorem tK_0 (h : i ≤ L) : nI (tK b L i) = (0 : Int32) ↔ L ≤ tS b L i := by
  obtain ⟨w1, w2⟩ := tW_le (b := b) h
  rcases tK_cs (b := b) h with ⟨q, e⟩ | ⟨q, q2, e⟩ | ⟨q, q2, _, e⟩ | ⟨q, q2, _, e⟩ <;> rw [e]
  · exact ⟨fun c => absurd c (by decide), fun c => by unfold tN at q; omega⟩
  · exact ⟨fun _ => q2, fun _ => rfl⟩
  · exact ⟨fun c => absurd c (by decide), fun c => by omega⟩
  · exact ⟨fun c => absurd c (by decide), fun c => by omega⟩
end
def txB (b : Nat → Nat) (W : Nat → Nat → Nat → Int32) : Prop := ∀ k, k < 1000 → b k < 256 ∧ W 0 0 k = (nI (b k)).toInt8.toInt32
def TW (z : osS) (x : Nat) (ad : Nat → Nat) (W : Nat → Nat → Nat → Int32) (D : osS) (C : Nat → Nat → Int32) (E : Nat → Nat → Int64) : Prop := WD z x ad W D ∧ rX7 z (x + 6) (x + 1) C E
def MW (z : osS) (x : Nat) (ad : Nat → Nat) (W : Nat → Nat → Nat → Int32) (D : osS) (C : Nat → Nat → Int32) (E : Nat → Nat → Int64) : Prop := WD z x ad W D ∧ rX3 z (x + 4) (x + 1) C E
section
variable {G : osG} {z z1 : osS} {N x i j L : Nat} {b : Nat → Nat} {ad : Nat → Nat} {W : Nat → Nat → Nat → Int32} {D : osS} {C C1 : Nat → Nat → Int32} {E E1 : Nat → Nat → Int64}
theorem WD.r7 (h : WD z x ad W D) (hf : osFr (x + 6) (x + 6 + 1) z z1) (h7 : rX7 z1 (x + 6) (x + 1) C1 E1) : TW z1 x ad W D C1 E1 := by
  obtain ⟨ha, hz, ⟨h9, h4, h1, h2, hb, hs, hn, hdr, ⟨f, hp, hp2⟩, hpa, ⟨t3, A3, D3, h3⟩, _⟩, hr, ho⟩ := h
  have hb9 := ha.b
  have hs9 := ha.s
  exact ⟨⟨ha, hz.tr (hf.wide (by omega) (by omega)), ⟨h9.keep hf (by omega), h4.keep hf (by omega), h1.keep hf (by omega), h2.keep hf (by omega), hb.keep hf (by omega), hs.keep hf (by omega), hn.keep hf (by omega), hdr.keep hf (by omega), ⟨f, hf.at (by omega) hp, hp2⟩, fun i hi => (hpa i hi).keep hf (by have := ha.p hi; omega), ⟨t3, A3, D3, h3.keep hf (by omega)⟩, x + 1, C1, E1, h7⟩, trivial, trivial⟩, h7⟩
theorem TW.r (h : TW z x ad W D C E) (hf : osFr (x + 6) (x + 6 + 1) z z1) (h7 : rX7 z1 (x + 6) (x + 1) C1 E1) : TW z1 x ad W D C1 E1 := h.1.r7 hf h7
theorem TW.d (h : TW z x ad W D C E) {R : Nat → Nat → Int32} (hf : osFr (ad 3) (ad 3 + 12) z z1) (hc : rX5 z1 (ad 3) R) : TW z1 x ad (Ws W 4 R) D C E := ⟨h.1.cd hf hc, h.2.keep hf (by have := h.1.ok.s; omega)⟩
theorem TW.s (h : TW z x ad W D C E) {R : Nat → Nat → Int32} (hf : osFr (ad 1) (ad 1 + 6) z z1) (hc : rX0 z1 (ad 1) R) : TW z1 x ad (Ws W 2 R) D C E := ⟨h.1.cs hf hc, h.2.keep hf (by have := h.1.ok.b; omega)⟩
theorem c_adv_X7 (h : TW z x ad W D C E) (hb : txB b W) (tk : tkC b L i C E) (hL : L ≤ 1000) (hi : i ≤ L) (hA : G.2.2.1 ≤ x) (hN : 5000 < N) : gx (qX6_advance N (x + 6) G z) (fun _ z' => ∃ C' E', TW z' x ad W D C' E' ∧ tkC b L (tX b L i) C' E' ∧ k789 C C') :=
  gx_mono (adv_X7 h.2 h.1.x9.a0 hb hL (tX_le hi).2 (by omega) (by omega) hN tk.2.2.1 tk.1) (fun _ z' ⟨f, C', E', r, t, k⟩ => ⟨C', E', h.r f r, t, k⟩)
theorem c_take0_X7 (h : TW z x ad W D C E) (tk : tkC b L i C E) (hi : i ≤ L) (hI : osInj G) (hj : j < 15) (hk : kwb b L i j = false) : qX6_take N (x + 6) (G.2.2.2.1 j) G z = some (0, z) := by
  refine gx_eq ?_
  unfold qX6_take qX6_take_20
  refine gx_gI h.2.o (by decide) rfl ?_
  rw [tk.2.1]
  by_cases q : 0 < tN b L i
  · refine gx_itet ((tK_1 hi).mpr q) (gx_gJ h.2.o (by decide) rfl (gx_callE (q_wp hI hj) (gx_itef (fun c => ?_) (gx_retZ (Or.inl rfl) ⟨rfl, rfl⟩))))
    have c := lcmp_0.mp c
    rw [tk.2.2.2.2.2] at c
    have hl := pk8_lt (b := b) hi
    obtain ⟨_, k0, k35⟩ := kw_pk j hj
    have e := (pk8_kw hi q k0 k35).mp ((fb_lN_inj (by omega) (by omega)).mp c)
    rw [kwb_v q, decide_eq_true e] at hk
    cases hk
  · exact gx_itef (fun c => q ((tK_1 hi).mp c)) (gx_retZ (Or.inl rfl) ⟨rfl, rfl⟩)
theorem c_take1_X7 (h : TW z x ad W D C E) (hb : txB b W) (tk : tkC b L i C E) (hL : L ≤ 1000) (hi : i ≤ L) (hA : G.2.2.1 ≤ x) (hN : 5000 < N) (hI : osInj G) (hj : j < 15) (hk : kwb b L i j = true) : gx (qX6_take N (x + 6) (G.2.2.2.1 j) G z) (fun r z' => r = 1 ∧ ∃ C' E', TW z' x ad W D C' E' ∧ tkC b L (tX b L i) C' E' ∧ k789 C C') := by
  unfold kwb at hk
  simp only [Bool.and_eq_true, decide_eq_true_eq] at hk
  obtain ⟨q, e⟩ := hk
  unfold qX6_take
  refine gx_gI h.2.o (by decide) rfl ?_
  rw [tk.2.1]
  obtain ⟨_, k0, k35⟩ := kw_pk j hj
  refine gx_itet ((tK_1 hi).mpr q) (gx_gJ h.2.o (by decide) rfl (gx_callE (q_wp hI hj) (gx_itet ?_ (gx_recvQ h.2.o (by decide) (c_adv_X7 h hb tk hL hi hA hN) (fun _ z' p => gx_retZ (Or.inr rfl) ⟨rfl, p⟩)))))
  rw [tk.2.2.2.2.2, (pk8_kw hi q k0 k35).mpr e]
  exact lcmp_0.mpr rfl
theorem c_fail_X7 (h : TW z x ad W D C E) (hA : G.2.2.1 ≤ x) {u v : Int32} : gx (qX6_fail N (x + 6) u v G z) (fun r z' => r = 0 ∧ TW z' x ad W D (cset (cset C 8 fun _ => u) 9 fun _ => v) E) := by
  unfold qX6_fail
  exact h.2.p8 (by decide) (by omega) (fun z1 f1 r1 => r1.p9 (by decide) (by omega) (fun z2 f2 r2 => gx_retZ (Or.inl rfl) ⟨rfl, (h.r f1 r1).r f2 r2⟩))
theorem c_takeF0_X7 (h : TW z x ad W D C E) (tk : tkC b L i C E) (hi : i ≤ L) (hA : G.2.2.1 ≤ x) (hI : osInj G) (hj : j < 15) (hk : kwb b L i j = false) : gx (qX6_takeOrFail N (x + 6) (G.2.2.2.1 j) G z) (fun r z' => r = 0 ∧ TW z' x ad W D (cset (cset C 8 fun _ => (1 : Int32)) 9 fun _ => nI (tS b L i)) E) := by
  unfold qX6_takeOrFail qX6_takeOrFail_25
  refine gx_recvE h.2.o (by decide) (c_take0_X7 h tk hi hI hj hk) (gx_itet rfl (gx_gI h.2.o (by decide) rfl (gx_recvQ h.2.o (by decide) (c_fail_X7 h hA) (fun r z' ⟨e, p⟩ => gx_itet e (gx_retZ (Or.inl rfl) ⟨rfl, ?_⟩)))))
  rw [tk.2.2.2.2.1] at p
  exact p
theorem c_takeF1_X7 (h : TW z x ad W D C E) (hb : txB b W) (tk : tkC b L i C E) (hL : L ≤ 1000) (hi : i ≤ L) (hA : G.2.2.1 ≤ x) (hN : 5000 < N) (hI : osInj G) (hj : j < 15) (hk : kwb b L i j = true) : gx (qX6_takeOrFail N (x + 6) (G.2.2.2.1 j) G z) (fun r z' => r = 1 ∧ ∃ C' E', TW z' x ad W D C' E' ∧ tkC b L (tX b L i) C' E' ∧ k789 C C') := by
  unfold qX6_takeOrFail qX6_takeOrFail_20 qX6_takeOrFail_25
  refine gx_recvQ h.2.o (by decide) (c_take1_X7 h hb tk hL hi hA hN hI hj hk) (fun r z' ⟨e, p⟩ => gx_itef (by rw [e]; decide) (gx_retZ (Or.inr rfl) ⟨rfl, p⟩))
theorem c_semi0_X7 (h : TW z x ad W D C E) (tk : tkC b L i C E) (hi : i ≤ L) (hA : G.2.2.1 ≤ x) (hk : ¬ tK b L i = 2) : gx (qX6_takeSemicolon N (x + 6) G z) (fun r z' => r = 0 ∧ TW z' x ad W D (cset (cset C 8 fun _ => (1 : Int32)) 9 fun _ => nI (tS b L i)) E) := by
  unfold qX6_takeSemicolon
  refine gx_gI h.2.o (by decide) rfl ?_
  rw [tk.2.1]
  refine gx_itef (fun c => hk ((tK_2 hi).mp c)) (gx_gI h.2.o (by decide) rfl (gx_recvQ h.2.o (by decide) (c_fail_X7 h hA) (fun r z' ⟨e, p⟩ => gx_retZ (Or.inl e) ⟨e, ?_⟩)))
  rw [tk.2.2.2.2.1] at p
  exact p
theorem c_semi1_X7 (h : TW z x ad W D C E) (hb : txB b W) (tk : tkC b L i C E) (hL : L ≤ 1000) (hi : i ≤ L) (hA : G.2.2.1 ≤ x) (hN : 5000 < N) (hk : tK b L i = 2) : gx (qX6_takeSemicolon N (x + 6) G z) (fun r z' => r = 1 ∧ ∃ C' E', TW z' x ad W D C' E' ∧ tkC b L (tX b L i) C' E' ∧ k789 C C') := by
  unfold qX6_takeSemicolon
  refine gx_gI h.2.o (by decide) rfl ?_
  rw [tk.2.1]
  exact gx_itet ((tK_2 hi).mpr hk) (gx_recvQ h.2.o (by decide) (c_adv_X7 h hb tk hL hi hA hN) (fun _ z' p => gx_retZ (Or.inr rfl) ⟨rfl, p⟩))
theorem c_isEnd_X7 (h : TW z x ad W D C E) (tk : tkC b L i C E) (hi : i ≤ L) : qX6_isAtEnd N (x + 6) G z = some (b2i (decide (L ≤ tS b L i)), z) := by
  refine gx_eq ?_
  unfold qX6_isAtEnd qX6_isAtEnd_12
  refine gx_gI h.2.o (by decide) rfl ?_
  rw [tk.2.1]
  refine gx_ite (fun c => gx_retZ (Or.inr rfl) ⟨?_, rfl⟩) (fun c => gx_retZ (Or.inl rfl) ⟨?_, rfl⟩)
  · rw [decide_eq_true ((tK_0 hi).mp c)]; rfl
  · rw [decide_eq_false (fun q => c ((tK_0 hi).mpr q))]; rfl
theorem c_isWord_X7 (h : TW z x ad W D C E) (tk : tkC b L i C E) (hi : i ≤ L) : qX6_isAtWord N (x + 6) G z = some (b2i (decide (0 < tN b L i)), z) := by
  refine gx_eq ?_
  unfold qX6_isAtWord qX6_isAtWord_13
  refine gx_gI h.2.o (by decide) rfl ?_
  rw [tk.2.1]
  refine gx_ite (fun c => gx_retZ (Or.inr rfl) ⟨?_, rfl⟩) (fun c => gx_retZ (Or.inl rfl) ⟨?_, rfl⟩)
  · rw [decide_eq_true ((tK_1 hi).mp c)]; rfl
  · rw [decide_eq_false (fun q => c ((tK_1 hi).mpr q))]; rfl
theorem c_name_X7 (h : TW z x ad W D C E) (hb : txB b W) (tk : tkC b L i C E) (hL : L ≤ 1000) (hi : i ≤ L) (hA : G.2.2.1 ≤ x) (hN : 5000 < N) (hI : osInj G) : gx (qX6_takeName N (x + 6) G z) (fun r z' => ∃ C' E', TW z' x ad W D C' E' ∧ C' 7 0 = nI (tS b L i) ∧ ((tM b L i = none ∧ r = 0 ∧ C' 8 0 = 1 ∧ C' 9 0 = nI (tS b L i)) ∨ ∃ v, tM b L i = some v ∧ r = nI v ∧ tkC b L (tX b L i) C' E' ∧ C' 8 = C 8 ∧ C' 9 = C 9)) := by
  unfold qX6_takeName
  refine gx_gI h.2.o (by decide) rfl (h.2.p7 (by decide) (by omega) (fun z1 f1 r1 => ?_))
  have h1 := h.r f1 r1
  have tk1 : tkC b L i (cset C 7 fun _ => C 6 0) E := tk
  have bad : tM b L i = none → gx (qX6_takeName_34 N (x + 6) G z1) (fun r z' => ∃ C' E', TW z' x ad W D C' E' ∧ C' 7 0 = nI (tS b L i) ∧ ((tM b L i = none ∧ r = 0 ∧ C' 8 0 = 1 ∧ C' 9 0 = nI (tS b L i)) ∨ ∃ v, tM b L i = some v ∧ r = nI v ∧ tkC b L (tX b L i) C' E' ∧ C' 8 = C 8 ∧ C' 9 = C 9)) := fun q => by
    unfold qX6_takeName_34
    refine gx_gI r1.o (by decide) rfl (gx_recvQ r1.o (by decide) (c_fail_X7 h1 hA) (fun r z' ⟨e, p⟩ => gx_ret ⟨_, _, p, ?_, Or.inl ⟨q, rfl, rfl, ?_⟩⟩))
    · exact tk.2.2.2.2.1
    · exact tk.2.2.2.2.1
  refine gx_gI r1.o (by decide) rfl ?_
  rw [show (cset C 7 fun _ => C 6 0) 2 0 = nI (tK b L i) from tk.2.1]
  by_cases q : 0 < tN b L i
  · refine gx_itet ((tK_1 hi).mpr q) (gx_gI r1.o (by decide) rfl ?_)
    rw [show (cset C 7 fun _ => C 6 0) 4 0 = nI (tN b L i) from tk.2.2.2.1]
    have hn9 : tN b L i ≤ 1000 := by have := (tW_le (b := b) hi).2; unfold tN; omega
    by_cases q5 : 5 < tN b L i
    · refine gx_itet ((nI_ltI (a := 5) (by omega) (by omega)).mpr q5) (bad ?_)
      unfold tM
      rw [decide_eq_false (show ¬ tN b L i ≤ 5 by omega), Bool.false_and, Bool.and_false]; rfl
    · obtain ⟨v1, v2, v3⟩ := tV_5 (b := b) hi (by omega) q
      have e5 : E 5 0 = lN (tV b L i) := by rw [← v3]; exact tk.2.2.2.2.2
      refine gx_itef (fun c => q5 ((nI_ltI (a := 5) (by omega) (by omega)).mp c)) (gx_gJ r1.o (by decide) rfl ?_)
      rw [e5]
      refine gx_callE (q_isKeyword hI (by omega) hN) ?_
      cases ek : isKw (tV b L i)
      · refine gx_itet rfl (gx_gJ r1.o (by decide) rfl (gx_recvQ r1.o (by decide) (c_adv_X7 h1 hb tk1 hL hi hA hN) (fun _ z' ⟨C', E', h', t', k7, k8, k9⟩ => gx_ret ⟨C', E', h', ?_, Or.inr ⟨tV b L i, ?_, ?_, t', k8, k9⟩⟩)))
        · rw [k7]; exact tk.2.2.2.2.1
        · unfold tM
          rw [ek, decide_eq_true q, decide_eq_true (show tN b L i ≤ 5 by omega)]; rfl
        · rw [e5]; exact lN_tI
      · refine gx_itef (by decide) (bad ?_)
        unfold tM
        rw [ek, Bool.not_true, Bool.and_false, Bool.and_false]; rfl
  · refine gx_itef (fun c => q ((tK_1 hi).mp c)) (bad ?_)
    unfold tM
    rw [decide_eq_false q, Bool.false_and]; rfl
theorem c_area_X7 (h : TW z x ad W D C E) (hb : txB b W) (tk : tkC b L i C E) (hL : L ≤ 1000) (hi : i ≤ L) (hA : G.2.2.1 ≤ x) (hN : 5000 < N) (hI : osInj G) {a n : Nat} {B : Nat → Nat → Int32} (hB : ∀ z1 C1 E1, TW z1 x ad W D C1 E1 → rX0 z1 a B) (b0 : B 0 0 = nI n) (h16 : n ≤ 16) : gx (qX6_takeArea N (x + 6) a G z) (fun r z' => ∃ C' E', TW z' x ad W D C' E' ∧ C' 7 0 = nI (tS b L i) ∧ ((tM b L i = none ∧ r = -1 ∧ C' 8 0 = 1 ∧ C' 9 0 = nI (tS b L i)) ∨ ∃ v, tM b L i = some v ∧ v < 2 ^ 25 ∧ 0 < v ∧ ((fd (fun k => decide (B 5 k = nI v)) 0 n = none ∧ r = -1 ∧ C' 8 0 = 2 ∧ C' 9 0 = nI (tS b L i)) ∨ ∃ k, fd (fun k => decide (B 5 k = nI v)) 0 n = some k ∧ k < n ∧ r = nI k ∧ tkC b L (tX b L i) C' E' ∧ C' 8 = C 8 ∧ C' 9 = C 9))) := by
  unfold qX6_takeArea qX6_takeArea_32
  refine gx_recvQ h.2.o (by decide) (c_name_X7 h hb tk hL hi hA hN hI) ?_
  rintro r z1 ⟨C1, E1, h1, e7, ⟨q, rfl, e8, e9⟩ | ⟨v, q, rfl, t1, e8, e9⟩⟩
  · exact gx_itet rfl (gx_ret ⟨C1, E1, h1, e7, Or.inl ⟨q, rfl, e8, e9⟩⟩)
  · obtain ⟨m1, m2, m3, m4⟩ := tM_some q
    obtain ⟨v1, v2, _⟩ := tV_5 (b := b) hi m2 m1
    rw [← m4] at v1 v2
    have hb1 := hB z1 C1 E1 h1
    refine gx_itef (fun c => by have := (nI_00 (by omega)).mp c; omega) (gx_recvE hb1.o (by decide) (q_findArea hb1 b0 h16 (by omega)) ?_)
    cases ef : fd (fun k => decide (B 5 k = nI v)) 0 n with
    | none =>
      refine gx_itet rfl (gx_gI h1.2.o (by decide) rfl (gx_recvQ h1.2.o (by decide) (c_fail_X7 h1 hA) (fun r z2 ⟨_, p⟩ => gx_ret ⟨_, _, p, e7, Or.inr ⟨v, q, v1, v2, Or.inl ⟨ef, rfl, rfl, ?_⟩⟩⟩)))
      exact e7
    | some k =>
      have hk := (fd_some ef).2.1
      exact gx_itef (nI_m1 (by omega)) (gx_ret ⟨C1, E1, h1, e7, Or.inr ⟨v, q, v1, v2, Or.inr ⟨k, ef, by omega, rfl, t1, e8, e9⟩⟩⟩)
end
section
variable {G : osG} {z z1 : osS} {N x i j L : Nat} {b : Nat → Nat} {ad : Nat → Nat} {W : Nat → Nat → Nat → Int32} {D : osS} {C C1 : Nat → Nat → Int32} {E E1 : Nat → Nat → Int64}
theorem WD.r3 (h : WD z x ad W D) (hf : osFr (x + 4) (x + 4 + 1) z z1) (h7 : rX3 z1 (x + 4) (x + 1) C1 E1) : MW z1 x ad W D C1 E1 := by
  obtain ⟨ha, hz, ⟨h9, h4, h1, h2, hb, hs, hn, hdr, ⟨f, hp, hp2⟩, hpa, _, t3, A3, D3, h3⟩, hr, ho⟩ := h
  have hb9 := ha.b
  have hs9 := ha.s
  exact ⟨⟨ha, hz.tr (hf.wide (by omega) (by omega)), ⟨h9.keep hf (by omega), h4.keep hf (by omega), h1.keep hf (by omega), h2.keep hf (by omega), hb.keep hf (by omega), hs.keep hf (by omega), hn.keep hf (by omega), hdr.keep hf (by omega), ⟨f, hf.at (by omega) hp, hp2⟩, fun i hi => (hpa i hi).keep hf (by have := ha.p hi; omega), ⟨x + 1, C1, E1, h7⟩, t3, A3, D3, h3.keep hf (by omega)⟩, trivial, trivial⟩, h7⟩
theorem MW.r (h : MW z x ad W D C E) (hf : osFr (x + 4) (x + 4 + 1) z z1) (h7 : rX3 z1 (x + 4) (x + 1) C1 E1) : MW z1 x ad W D C1 E1 := h.1.r3 hf h7
theorem MW.d (h : MW z x ad W D C E) {R : Nat → Nat → Int32} (hf : osFr (ad 3) (ad 3 + 12) z z1) (hc : rX5 z1 (ad 3) R) : MW z1 x ad (Ws W 4 R) D C E := ⟨h.1.cd hf hc, h.2.keep hf (by have := h.1.ok.s; omega)⟩
theorem MW.s (h : MW z x ad W D C E) {R : Nat → Nat → Int32} (hf : osFr (ad 1) (ad 1 + 6) z z1) (hc : rX0 z1 (ad 1) R) : MW z1 x ad (Ws W 2 R) D C E := ⟨h.1.cs hf hc, h.2.keep hf (by have := h.1.ok.b; omega)⟩
theorem c_adv_X3 (h : MW z x ad W D C E) (hb : txB b W) (tk : tkC b L i C E) (hL : L ≤ 1000) (hi : i ≤ L) (hA : G.2.2.1 ≤ x) (hN : 5000 < N) : gx (qX6_advance N (x + 4) G z) (fun _ z' => ∃ C' E', MW z' x ad W D C' E' ∧ tkC b L (tX b L i) C' E' ∧ k789 C C') :=
  gx_mono (adv_X3 h.2 h.1.x9.a0 hb hL (tX_le hi).2 (by omega) (by omega) hN tk.2.2.1 tk.1) (fun _ z' ⟨f, C', E', r, t, k⟩ => ⟨C', E', h.r f r, t, k⟩)
theorem c_take0_X3 (h : MW z x ad W D C E) (tk : tkC b L i C E) (hi : i ≤ L) (hI : osInj G) (hj : j < 15) (hk : kwb b L i j = false) : qX6_take N (x + 4) (G.2.2.2.1 j) G z = some (0, z) := by
  refine gx_eq ?_
  unfold qX6_take qX6_take_20
  refine gx_gI h.2.o (by decide) rfl ?_
  rw [tk.2.1]
  by_cases q : 0 < tN b L i
  · refine gx_itet ((tK_1 hi).mpr q) (gx_gJ h.2.o (by decide) rfl (gx_callE (q_wp hI hj) (gx_itef (fun c => ?_) (gx_retZ (Or.inl rfl) ⟨rfl, rfl⟩))))
    have c := lcmp_0.mp c
    rw [tk.2.2.2.2.2] at c
    have hl := pk8_lt (b := b) hi
    obtain ⟨_, k0, k35⟩ := kw_pk j hj
    have e := (pk8_kw hi q k0 k35).mp ((fb_lN_inj (by omega) (by omega)).mp c)
    rw [kwb_v q, decide_eq_true e] at hk
    cases hk
  · exact gx_itef (fun c => q ((tK_1 hi).mp c)) (gx_retZ (Or.inl rfl) ⟨rfl, rfl⟩)
theorem c_take1_X3 (h : MW z x ad W D C E) (hb : txB b W) (tk : tkC b L i C E) (hL : L ≤ 1000) (hi : i ≤ L) (hA : G.2.2.1 ≤ x) (hN : 5000 < N) (hI : osInj G) (hj : j < 15) (hk : kwb b L i j = true) : gx (qX6_take N (x + 4) (G.2.2.2.1 j) G z) (fun r z' => r = 1 ∧ ∃ C' E', MW z' x ad W D C' E' ∧ tkC b L (tX b L i) C' E' ∧ k789 C C') := by
  unfold kwb at hk
  simp only [Bool.and_eq_true, decide_eq_true_eq] at hk
  obtain ⟨q, e⟩ := hk
  unfold qX6_take
  refine gx_gI h.2.o (by decide) rfl ?_
  rw [tk.2.1]
  obtain ⟨_, k0, k35⟩ := kw_pk j hj
  refine gx_itet ((tK_1 hi).mpr q) (gx_gJ h.2.o (by decide) rfl (gx_callE (q_wp hI hj) (gx_itet ?_ (gx_recvQ h.2.o (by decide) (c_adv_X3 h hb tk hL hi hA hN) (fun _ z' p => gx_retZ (Or.inr rfl) ⟨rfl, p⟩)))))
  rw [tk.2.2.2.2.2, (pk8_kw hi q k0 k35).mpr e]
  exact lcmp_0.mpr rfl
theorem c_fail_X3 (h : MW z x ad W D C E) (hA : G.2.2.1 ≤ x) {u v : Int32} : gx (qX6_fail N (x + 4) u v G z) (fun r z' => r = 0 ∧ MW z' x ad W D (cset (cset C 8 fun _ => u) 9 fun _ => v) E) := by
  unfold qX6_fail
  exact h.2.p8 (by decide) (by omega) (fun z1 f1 r1 => r1.p9 (by decide) (by omega) (fun z2 f2 r2 => gx_retZ (Or.inl rfl) ⟨rfl, (h.r f1 r1).r f2 r2⟩))
theorem c_takeF0_X3 (h : MW z x ad W D C E) (tk : tkC b L i C E) (hi : i ≤ L) (hA : G.2.2.1 ≤ x) (hI : osInj G) (hj : j < 15) (hk : kwb b L i j = false) : gx (qX6_takeOrFail N (x + 4) (G.2.2.2.1 j) G z) (fun r z' => r = 0 ∧ MW z' x ad W D (cset (cset C 8 fun _ => (1 : Int32)) 9 fun _ => nI (tS b L i)) E) := by
  unfold qX6_takeOrFail qX6_takeOrFail_25
  refine gx_recvE h.2.o (by decide) (c_take0_X3 h tk hi hI hj hk) (gx_itet rfl (gx_gI h.2.o (by decide) rfl (gx_recvQ h.2.o (by decide) (c_fail_X3 h hA) (fun r z' ⟨e, p⟩ => gx_itet e (gx_retZ (Or.inl rfl) ⟨rfl, ?_⟩)))))
  rw [tk.2.2.2.2.1] at p
  exact p
theorem c_takeF1_X3 (h : MW z x ad W D C E) (hb : txB b W) (tk : tkC b L i C E) (hL : L ≤ 1000) (hi : i ≤ L) (hA : G.2.2.1 ≤ x) (hN : 5000 < N) (hI : osInj G) (hj : j < 15) (hk : kwb b L i j = true) : gx (qX6_takeOrFail N (x + 4) (G.2.2.2.1 j) G z) (fun r z' => r = 1 ∧ ∃ C' E', MW z' x ad W D C' E' ∧ tkC b L (tX b L i) C' E' ∧ k789 C C') := by
  unfold qX6_takeOrFail qX6_takeOrFail_20 qX6_takeOrFail_25
  refine gx_recvQ h.2.o (by decide) (c_take1_X3 h hb tk hL hi hA hN hI hj hk) (fun r z' ⟨e, p⟩ => gx_itef (by rw [e]; decide) (gx_retZ (Or.inr rfl) ⟨rfl, p⟩))
theorem c_semi0_X3 (h : MW z x ad W D C E) (tk : tkC b L i C E) (hi : i ≤ L) (hA : G.2.2.1 ≤ x) (hk : ¬ tK b L i = 2) : gx (qX6_takeSemicolon N (x + 4) G z) (fun r z' => r = 0 ∧ MW z' x ad W D (cset (cset C 8 fun _ => (1 : Int32)) 9 fun _ => nI (tS b L i)) E) := by
  unfold qX6_takeSemicolon
  refine gx_gI h.2.o (by decide) rfl ?_
  rw [tk.2.1]
  refine gx_itef (fun c => hk ((tK_2 hi).mp c)) (gx_gI h.2.o (by decide) rfl (gx_recvQ h.2.o (by decide) (c_fail_X3 h hA) (fun r z' ⟨e, p⟩ => gx_retZ (Or.inl e) ⟨e, ?_⟩)))
  rw [tk.2.2.2.2.1] at p
  exact p
theorem c_semi1_X3 (h : MW z x ad W D C E) (hb : txB b W) (tk : tkC b L i C E) (hL : L ≤ 1000) (hi : i ≤ L) (hA : G.2.2.1 ≤ x) (hN : 5000 < N) (hk : tK b L i = 2) : gx (qX6_takeSemicolon N (x + 4) G z) (fun r z' => r = 1 ∧ ∃ C' E', MW z' x ad W D C' E' ∧ tkC b L (tX b L i) C' E' ∧ k789 C C') := by
  unfold qX6_takeSemicolon
  refine gx_gI h.2.o (by decide) rfl ?_
  rw [tk.2.1]
  exact gx_itet ((tK_2 hi).mpr hk) (gx_recvQ h.2.o (by decide) (c_adv_X3 h hb tk hL hi hA hN) (fun _ z' p => gx_retZ (Or.inr rfl) ⟨rfl, p⟩))
theorem c_isEnd_X3 (h : MW z x ad W D C E) (tk : tkC b L i C E) (hi : i ≤ L) : qX6_isAtEnd N (x + 4) G z = some (b2i (decide (L ≤ tS b L i)), z) := by
  refine gx_eq ?_
  unfold qX6_isAtEnd qX6_isAtEnd_12
  refine gx_gI h.2.o (by decide) rfl ?_
  rw [tk.2.1]
  refine gx_ite (fun c => gx_retZ (Or.inr rfl) ⟨?_, rfl⟩) (fun c => gx_retZ (Or.inl rfl) ⟨?_, rfl⟩)
  · rw [decide_eq_true ((tK_0 hi).mp c)]; rfl
  · rw [decide_eq_false (fun q => c ((tK_0 hi).mpr q))]; rfl
theorem c_isWord_X3 (h : MW z x ad W D C E) (tk : tkC b L i C E) (hi : i ≤ L) : qX6_isAtWord N (x + 4) G z = some (b2i (decide (0 < tN b L i)), z) := by
  refine gx_eq ?_
  unfold qX6_isAtWord qX6_isAtWord_13
  refine gx_gI h.2.o (by decide) rfl ?_
  rw [tk.2.1]
  refine gx_ite (fun c => gx_retZ (Or.inr rfl) ⟨?_, rfl⟩) (fun c => gx_retZ (Or.inl rfl) ⟨?_, rfl⟩)
  · rw [decide_eq_true ((tK_1 hi).mp c)]; rfl
  · rw [decide_eq_false (fun q => c ((tK_1 hi).mpr q))]; rfl
theorem c_name_X3 (h : MW z x ad W D C E) (hb : txB b W) (tk : tkC b L i C E) (hL : L ≤ 1000) (hi : i ≤ L) (hA : G.2.2.1 ≤ x) (hN : 5000 < N) (hI : osInj G) : gx (qX6_takeName N (x + 4) G z) (fun r z' => ∃ C' E', MW z' x ad W D C' E' ∧ C' 7 0 = nI (tS b L i) ∧ ((tM b L i = none ∧ r = 0 ∧ C' 8 0 = 1 ∧ C' 9 0 = nI (tS b L i)) ∨ ∃ v, tM b L i = some v ∧ r = nI v ∧ tkC b L (tX b L i) C' E' ∧ C' 8 = C 8 ∧ C' 9 = C 9)) := by
  unfold qX6_takeName
  refine gx_gI h.2.o (by decide) rfl (h.2.p7 (by decide) (by omega) (fun z1 f1 r1 => ?_))
  have h1 := h.r f1 r1
  have tk1 : tkC b L i (cset C 7 fun _ => C 6 0) E := tk
  have bad : tM b L i = none → gx (qX6_takeName_34 N (x + 4) G z1) (fun r z' => ∃ C' E', MW z' x ad W D C' E' ∧ C' 7 0 = nI (tS b L i) ∧ ((tM b L i = none ∧ r = 0 ∧ C' 8 0 = 1 ∧ C' 9 0 = nI (tS b L i)) ∨ ∃ v, tM b L i = some v ∧ r = nI v ∧ tkC b L (tX b L i) C' E' ∧ C' 8 = C 8 ∧ C' 9 = C 9)) := fun q => by
    unfold qX6_takeName_34
    refine gx_gI r1.o (by decide) rfl (gx_recvQ r1.o (by decide) (c_fail_X3 h1 hA) (fun r z' ⟨e, p⟩ => gx_ret ⟨_, _, p, ?_, Or.inl ⟨q, rfl, rfl, ?_⟩⟩))
    · exact tk.2.2.2.2.1
    · exact tk.2.2.2.2.1
  refine gx_gI r1.o (by decide) rfl ?_
  rw [show (cset C 7 fun _ => C 6 0) 2 0 = nI (tK b L i) from tk.2.1]
  by_cases q : 0 < tN b L i
  · refine gx_itet ((tK_1 hi).mpr q) (gx_gI r1.o (by decide) rfl ?_)
    rw [show (cset C 7 fun _ => C 6 0) 4 0 = nI (tN b L i) from tk.2.2.2.1]
    have hn9 : tN b L i ≤ 1000 := by have := (tW_le (b := b) hi).2; unfold tN; omega
    by_cases q5 : 5 < tN b L i
    · refine gx_itet ((nI_ltI (a := 5) (by omega) (by omega)).mpr q5) (bad ?_)
      unfold tM
      rw [decide_eq_false (show ¬ tN b L i ≤ 5 by omega), Bool.false_and, Bool.and_false]; rfl
    · obtain ⟨v1, v2, v3⟩ := tV_5 (b := b) hi (by omega) q
      have e5 : E 5 0 = lN (tV b L i) := by rw [← v3]; exact tk.2.2.2.2.2
      refine gx_itef (fun c => q5 ((nI_ltI (a := 5) (by omega) (by omega)).mp c)) (gx_gJ r1.o (by decide) rfl ?_)
      rw [e5]
      refine gx_callE (q_isKeyword hI (by omega) hN) ?_
      cases ek : isKw (tV b L i)
      · refine gx_itet rfl (gx_gJ r1.o (by decide) rfl (gx_recvQ r1.o (by decide) (c_adv_X3 h1 hb tk1 hL hi hA hN) (fun _ z' ⟨C', E', h', t', k7, k8, k9⟩ => gx_ret ⟨C', E', h', ?_, Or.inr ⟨tV b L i, ?_, ?_, t', k8, k9⟩⟩)))
        · rw [k7]; exact tk.2.2.2.2.1
        · unfold tM
          rw [ek, decide_eq_true q, decide_eq_true (show tN b L i ≤ 5 by omega)]; rfl
        · rw [e5]; exact lN_tI
      · refine gx_itef (by decide) (bad ?_)
        unfold tM
        rw [ek, Bool.not_true, Bool.and_false, Bool.and_false]; rfl
  · refine gx_itef (fun c => q ((tK_1 hi).mp c)) (bad ?_)
    unfold tM
    rw [decide_eq_false q, Bool.false_and]; rfl
theorem c_area_X3 (h : MW z x ad W D C E) (hb : txB b W) (tk : tkC b L i C E) (hL : L ≤ 1000) (hi : i ≤ L) (hA : G.2.2.1 ≤ x) (hN : 5000 < N) (hI : osInj G) {a n : Nat} {B : Nat → Nat → Int32} (hB : ∀ z1 C1 E1, MW z1 x ad W D C1 E1 → rX0 z1 a B) (b0 : B 0 0 = nI n) (h16 : n ≤ 16) : gx (qX6_takeArea N (x + 4) a G z) (fun r z' => ∃ C' E', MW z' x ad W D C' E' ∧ C' 7 0 = nI (tS b L i) ∧ ((tM b L i = none ∧ r = -1 ∧ C' 8 0 = 1 ∧ C' 9 0 = nI (tS b L i)) ∨ ∃ v, tM b L i = some v ∧ v < 2 ^ 25 ∧ 0 < v ∧ ((fd (fun k => decide (B 5 k = nI v)) 0 n = none ∧ r = -1 ∧ C' 8 0 = 2 ∧ C' 9 0 = nI (tS b L i)) ∨ ∃ k, fd (fun k => decide (B 5 k = nI v)) 0 n = some k ∧ k < n ∧ r = nI k ∧ tkC b L (tX b L i) C' E' ∧ C' 8 = C 8 ∧ C' 9 = C 9))) := by
  unfold qX6_takeArea qX6_takeArea_32
  refine gx_recvQ h.2.o (by decide) (c_name_X3 h hb tk hL hi hA hN hI) ?_
  rintro r z1 ⟨C1, E1, h1, e7, ⟨q, rfl, e8, e9⟩ | ⟨v, q, rfl, t1, e8, e9⟩⟩
  · exact gx_itet rfl (gx_ret ⟨C1, E1, h1, e7, Or.inl ⟨q, rfl, e8, e9⟩⟩)
  · obtain ⟨m1, m2, m3, m4⟩ := tM_some q
    obtain ⟨v1, v2, _⟩ := tV_5 (b := b) hi m2 m1
    rw [← m4] at v1 v2
    have hb1 := hB z1 C1 E1 h1
    refine gx_itef (fun c => by have := (nI_00 (by omega)).mp c; omega) (gx_recvE hb1.o (by decide) (q_findArea hb1 b0 h16 (by omega)) ?_)
    cases ef : fd (fun k => decide (B 5 k = nI v)) 0 n with
    | none =>
      refine gx_itet rfl (gx_gI h1.2.o (by decide) rfl (gx_recvQ h1.2.o (by decide) (c_fail_X3 h1 hA) (fun r z2 ⟨_, p⟩ => gx_ret ⟨_, _, p, e7, Or.inr ⟨v, q, v1, v2, Or.inl ⟨ef, rfl, rfl, ?_⟩⟩⟩)))
      exact e7
    | some k =>
      have hk := (fd_some ef).2.1
      exact gx_itef (nI_m1 (by omega)) (gx_ret ⟨C1, E1, h1, e7, Or.inr ⟨v, q, v1, v2, Or.inr ⟨k, ef, by omega, rfl, t1, e8, e9⟩⟩⟩)
end
