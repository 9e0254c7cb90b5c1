/-! a part of the class' world changed; feed (by program) -/
section
variable {z z1 : osS} {x : Nat} {ad : Nat → Nat} {W : Nat → Nat → Nat → Int32} {D : osS}
theorem WD.c9 (h : WD z x ad W D) {R : Nat → Nat → Int32} (hf : osFr (x) (x + 2) z z1) (hc : rX9 z1 x (ad 0) (ad 1) (ad 2) (ad 3) R) : WD z1 x ad (Ws W 0 R) D := by
  obtain ⟨ha, hz, ⟨h9, h4, h1, h2, hb, hs, hn, hdr, ⟨f, hp, hp2⟩, hpa, ⟨t3, A3, D3, h3⟩, t7, A7, D7, h7⟩, hr, ho⟩ := h
  have hb9 := ha.b
  have hs9 := ha.s
  refine ⟨ha, hz.tr (hf.wide (by omega) (by omega)), ⟨by rw [Ws_eq]; exact hc, by rw [Ws_ne (by omega)]; exact h4.keep hf (by omega), by rw [Ws_ne (by omega)]; exact h1.keep hf (by omega), by rw [Ws_ne (by omega)]; exact h2.keep hf (by omega), by rw [Ws_ne (by omega)]; exact hb.keep hf (by omega), by rw [Ws_ne (by omega)]; exact hs.keep hf (by omega), by rw [Ws_ne (by omega)]; exact hn.keep hf (by omega), by rw [Ws_ne (by omega)]; exact hdr.keep hf (by omega), ⟨f, hf.at (by omega) hp, hp2⟩, fun i hi => by rw [Ws_ne (by omega)]; exact (hpa i hi).keep hf (by have := ha.p hi; omega), ⟨t3, A3, D3, h3.keep hf (by omega)⟩, t7, A7, D7, h7.keep hf (by omega)⟩, trivial, trivial⟩
theorem WD.c4 (h : WD z x ad W D) {R : Nat → Nat → Int32} (hf : osFr (x + 2) (x + 4) z z1) (hc : rX4 z1 (x + 2) R) : WD z1 x ad (Ws W 7 R) D := by
  obtain ⟨ha, hz, ⟨h9, h4, h1, h2, hb, hs, hn, hdr, ⟨f, hp, hp2⟩, hpa, ⟨t3, A3, D3, h3⟩, t7, A7, D7, h7⟩, hr, ho⟩ := h
  have hb9 := ha.b
  have hs9 := ha.s
  refine ⟨ha, hz.tr (hf.wide (by omega) (by omega)), ⟨by rw [Ws_ne (by omega)]; exact h9.keep hf (by omega), by rw [Ws_eq]; exact hc, by rw [Ws_ne (by omega)]; exact h1.keep hf (by omega), by rw [Ws_ne (by omega)]; exact h2.keep hf (by omega), by rw [Ws_ne (by omega)]; exact hb.keep hf (by omega), by rw [Ws_ne (by omega)]; exact hs.keep hf (by omega), by rw [Ws_ne (by omega)]; exact hn.keep hf (by omega), by rw [Ws_ne (by omega)]; exact hdr.keep hf (by omega), ⟨f, hf.at (by omega) hp, hp2⟩, fun i hi => by rw [Ws_ne (by omega)]; exact (hpa i hi).keep hf (by have := ha.p hi; omega), ⟨t3, A3, D3, h3.keep hf (by omega)⟩, t7, A7, D7, h7.keep hf (by omega)⟩, trivial, trivial⟩
theorem WD.c1 (h : WD z x ad W D) {R : Nat → Nat → Int32} (hf : osFr (x + 8) (x + 9) z z1) (hc : rX1 z1 (x + 8) R) : WD z1 x ad (Ws W 5 R) D := by
  obtain ⟨ha, hz, ⟨h9, h4, h1, h2, hb, hs, hn, hdr, ⟨f, hp, hp2⟩, hpa, ⟨t3, A3, D3, h3⟩, t7, A7, D7, h7⟩, hr, ho⟩ := h
  have hb9 := ha.b
  have hs9 := ha.s
  refine ⟨ha, hz.tr (hf.wide (by omega) (by omega)), ⟨by rw [Ws_ne (by omega)]; exact h9.keep hf (by omega), by rw [Ws_ne (by omega)]; exact h4.keep hf (by omega), by rw [Ws_eq]; exact hc, by rw [Ws_ne (by omega)]; exact h2.keep hf (by omega), by rw [Ws_ne (by omega)]; exact hb.keep hf (by omega), by rw [Ws_ne (by omega)]; exact hs.keep hf (by omega), by rw [Ws_ne (by omega)]; exact hn.keep hf (by omega), by rw [Ws_ne (by omega)]; exact hdr.keep hf (by omega), ⟨f, hf.at (by omega) hp, hp2⟩, fun i hi => by rw [Ws_ne (by omega)]; exact (hpa i hi).keep hf (by have := ha.p hi; omega), ⟨t3, A3, D3, h3.keep hf (by omega)⟩, t7, A7, D7, h7.keep hf (by omega)⟩, trivial, trivial⟩
theorem WD.c2 (h : WD z x ad W D) {R : Nat → Nat → Int32} (hf : osFr (x + 9) (x + 20) z z1) (hc : rX2 z1 (x + 9) R) : WD z1 x ad (Ws W 6 R) D := by
  obtain ⟨ha, hz, ⟨h9, h4, h1, h2, hb, hs, hn, hdr, ⟨f, hp, hp2⟩, hpa, ⟨t3, A3, D3, h3⟩, t7, A7, D7, h7⟩, hr, ho⟩ := h
  have hb9 := ha.b
  have hs9 := ha.s
  refine ⟨ha, hz.tr (hf.wide (by omega) (by omega)), ⟨by rw [Ws_ne (by omega)]; exact h9.keep hf (by omega), by rw [Ws_ne (by omega)]; exact h4.keep hf (by omega), by rw [Ws_ne (by omega)]; exact h1.keep hf (by omega), by rw [Ws_eq]; exact hc, by rw [Ws_ne (by omega)]; exact hb.keep hf (by omega), by rw [Ws_ne (by omega)]; exact hs.keep hf (by omega), by rw [Ws_ne (by omega)]; exact hn.keep hf (by omega), by rw [Ws_ne (by omega)]; exact hdr.keep hf (by omega), ⟨f, hf.at (by omega) hp, hp2⟩, fun i hi => by rw [Ws_ne (by omega)]; exact (hpa i hi).keep hf (by have := ha.p hi; omega), ⟨t3, A3, D3, h3.keep hf (by omega)⟩, t7, A7, D7, h7.keep hf (by omega)⟩, trivial, trivial⟩
theorem WD.cb (h : WD z x ad W D) {R : Nat → Nat → Int32} (hf : osFr (ad 0) (ad 0 + 6) z z1) (hc : rX0 z1 (ad 0) R) : WD z1 x ad (Ws W 1 R) D := by
  obtain ⟨ha, hz, ⟨h9, h4, h1, h2, hb, hs, hn, hdr, ⟨f, hp, hp2⟩, hpa, ⟨t3, A3, D3, h3⟩, t7, A7, D7, h7⟩, hr, ho⟩ := h
  have hb9 := ha.b
  have hs9 := ha.s
  refine ⟨ha, hz.tr (hf.wide (by omega) (by omega)), ⟨by rw [Ws_ne (by omega)]; exact h9.keep hf (by omega), by rw [Ws_ne (by omega)]; exact h4.keep hf (by omega), by rw [Ws_ne (by omega)]; exact h1.keep hf (by omega), by rw [Ws_ne (by omega)]; exact h2.keep hf (by omega), by rw [Ws_eq]; exact hc, by rw [Ws_ne (by omega)]; exact hs.keep hf (by omega), by rw [Ws_ne (by omega)]; exact hn.keep hf (by omega), by rw [Ws_ne (by omega)]; exact hdr.keep hf (by omega), ⟨f, hf.at (by omega) hp, hp2⟩, fun i hi => by rw [Ws_ne (by omega)]; exact (hpa i hi).keep hf (by have := ha.p hi; omega), ⟨t3, A3, D3, h3.keep hf (by omega)⟩, t7, A7, D7, h7.keep hf (by omega)⟩, trivial, trivial⟩
theorem WD.cs (h : WD z x ad W D) {R : Nat → Nat → Int32} (hf : osFr (ad 1) (ad 1 + 6) z z1) (hc : rX0 z1 (ad 1) R) : WD z1 x ad (Ws W 2 R) D := by
  obtain ⟨ha, hz, ⟨h9, h4, h1, h2, hb, hs, hn, hdr, ⟨f, hp, hp2⟩, hpa, ⟨t3, A3, D3, h3⟩, t7, A7, D7, h7⟩, hr, ho⟩ := h
  have hb9 := ha.b
  have hs9 := ha.s
  refine ⟨ha, hz.tr (hf.wide (by omega) (by omega)), ⟨by rw [Ws_ne (by omega)]; exact h9.keep hf (by omega), by rw [Ws_ne (by omega)]; exact h4.keep hf (by omega), by rw [Ws_ne (by omega)]; exact h1.keep hf (by omega), by rw [Ws_ne (by omega)]; exact h2.keep hf (by omega), by rw [Ws_ne (by omega)]; exact hb.keep hf (by omega), by rw [Ws_eq]; exact hc, by rw [Ws_ne (by omega)]; exact hn.keep hf (by omega), by rw [Ws_ne (by omega)]; exact hdr.keep hf (by omega), ⟨f, hf.at (by omega) hp, hp2⟩, fun i hi => by rw [Ws_ne (by omega)]; exact (hpa i hi).keep hf (by have := ha.p hi; omega), ⟨t3, A3, D3, h3.keep hf (by omega)⟩, t7, A7, D7, h7.keep hf (by omega)⟩, trivial, trivial⟩
theorem WD.cn (h : WD z x ad W D) {R : Nat → Nat → Int32} (hf : osFr (ad 2) (ad 2 + 12) z z1) (hc : rX5 z1 (ad 2) R) : WD z1 x ad (Ws W 3 R) D := by
  obtain ⟨ha, hz, ⟨h9, h4, h1, h2, hb, hs, hn, hdr, ⟨f, hp, hp2⟩, hpa, ⟨t3, A3, D3, h3⟩, t7, A7, D7, h7⟩, hr, ho⟩ := h
  have hb9 := ha.b
  have hs9 := ha.s
  refine ⟨ha, hz.tr (hf.wide (by omega) (by omega)), ⟨by rw [Ws_ne (by omega)]; exact h9.keep hf (by omega), by rw [Ws_ne (by omega)]; exact h4.keep hf (by omega), by rw [Ws_ne (by omega)]; exact h1.keep hf (by omega), by rw [Ws_ne (by omega)]; exact h2.keep hf (by omega), by rw [Ws_ne (by omega)]; exact hb.keep hf (by omega), by rw [Ws_ne (by omega)]; exact hs.keep hf (by omega), by rw [Ws_eq]; exact hc, by rw [Ws_ne (by omega)]; exact hdr.keep hf (by omega), ⟨f, hf.at (by omega) hp, hp2⟩, fun i hi => by rw [Ws_ne (by omega)]; exact (hpa i hi).keep hf (by have := ha.p hi; omega), ⟨t3, A3, D3, h3.keep hf (by omega)⟩, t7, A7, D7, h7.keep hf (by omega)⟩, trivial, trivial⟩
theorem WD.cd (h : WD z x ad W D) {R : Nat → Nat → Int32} (hf : osFr (ad 3) (ad 3 + 12) z z1) (hc : rX5 z1 (ad 3) R) : WD z1 x ad (Ws W 4 R) D := by
  obtain ⟨ha, hz, ⟨h9, h4, h1, h2, hb, hs, hn, hdr, ⟨f, hp, hp2⟩, hpa, ⟨t3, A3, D3, h3⟩, t7, A7, D7, h7⟩, hr, ho⟩ := h
  have hb9 := ha.b
  have hs9 := ha.s
  refine ⟨ha, hz.tr (hf.wide (by omega) (by omega)), ⟨by rw [Ws_ne (by omega)]; exact h9.keep hf (by omega), by rw [Ws_ne (by omega)]; exact h4.keep hf (by omega), by rw [Ws_ne (by omega)]; exact h1.keep hf (by omega), by rw [Ws_ne (by omega)]; exact h2.keep hf (by omega), by rw [Ws_ne (by omega)]; exact hb.keep hf (by omega), by rw [Ws_ne (by omega)]; exact hs.keep hf (by omega), by rw [Ws_ne (by omega)]; exact hn.keep hf (by omega), by rw [Ws_eq]; exact hc, ⟨f, hf.at (by omega) hp, hp2⟩, fun i hi => by rw [Ws_ne (by omega)]; exact (hpa i hi).keep hf (by have := ha.p hi; omega), ⟨t3, A3, D3, h3.keep hf (by omega)⟩, t7, A7, D7, h7.keep hf (by omega)⟩, trivial, trivial⟩
theorem WD.cp {j : Nat} (hj : j < 6) (h : WD z x ad W D) {R : Nat → Nat → Int32} (hf : osFr (ad (4 + j)) (ad (4 + j) + 12) z z1) (hc : rX5 z1 (ad (4 + j)) R) : WD z1 x ad (Ws W (8 + j) R) D := by
  obtain ⟨ha, hz, ⟨h9, h4, h1, h2, hb, hs, hn, hdr, ⟨f, hp, hp2⟩, hpa, ⟨t3, A3, D3, h3⟩, t7, A7, D7, h7⟩, hr, ho⟩ := h
  have hb9 := ha.b
  have hs9 := ha.s
  have hj9 := ha.p hj
  refine ⟨ha, hz.tr (hf.wide (by omega) (by omega)), ⟨by rw [Ws_ne (by omega)]; exact h9.keep hf (by omega), by rw [Ws_ne (by omega)]; exact h4.keep hf (by omega), by rw [Ws_ne (by omega)]; exact h1.keep hf (by omega), by rw [Ws_ne (by omega)]; exact h2.keep hf (by omega), by rw [Ws_ne (by omega)]; exact hb.keep hf (by omega), by rw [Ws_ne (by omega)]; exact hs.keep hf (by omega), by rw [Ws_ne (by omega)]; exact hn.keep hf (by omega), by rw [Ws_ne (by omega)]; exact hdr.keep hf (by omega), ⟨f, hf.at (by omega) hp, hp2⟩, fun i hi => ?_, ⟨t3, A3, D3, h3.keep hf (by omega)⟩, t7, A7, D7, h7.keep hf (by omega)⟩, trivial, trivial⟩
  by_cases q : i = j
  · subst q; rw [Ws_eq]; exact hc
  · rw [Ws_ne (by omega)]; exact (hpa i hi).keep hf (by have := ha.pp hi hj q; omega)
end
def shf : Nat → Int32
  | 0 => 24
  | 1 => 16
  | 2 => 8
  | 3 => 0
  | _ => -8
theorem shf_n {i : Nat} (h : i < 4) : ¬ shf i < 0 ∧ shf i + (-8 : Int32) = shf (i + 1) ∧ shf i - (8 : Int32) = shf (i + 1) := by
  rcases (show i = 0 ∨ i = 1 ∨ i = 2 ∨ i = 3 by omega) with e | e | e | e <;> subst e <;> decide
def ocA (v : Int32) (k : Nat) : Int32 := osshr v (shf k)
def apC (E : Nat → Nat → Int32) (b : Nat) (v : Int32) (i : Nat) (E' : Nat → Nat → Int32) : Prop := E' 1 0 = nI (b + i) ∧ (∀ k, E' 0 k = if b ≤ k ∧ k < b + i then vp_nar .byte ((ocA v (k - b)).toInt8.toInt32) else E 0 k) ∧ ∀ r, ¬ r = 0 → ¬ r = 1 → E' r = E r
def apR (M : Nat → Nat → Int32) (b : Nat) (v : Int32) (i : Nat) (M' : Nat → Nat → Int32) : Prop := M' 10 0 = nI (b + i) ∧ (∀ k, M' 9 k = if b ≤ k ∧ k < b + i then ocA v (k - b) &&& (255 : Int32) else M 9 k) ∧ ∀ r, ¬ r = 9 → ¬ r = 10 → M' r = M r
theorem upd_if {α : Type} {g h : Nat → α} {u : Nat → α} {b i : Nat} (hg : ∀ k, g k = if b ≤ k ∧ k < b + i then u (k - b) else h k) (k : Nat) : (if k = b + i then u i else g k) = if b ≤ k ∧ k < b + (i + 1) then u (k - b) else h k := by
  by_cases e : k = b + i
  · subst e
    rw [if_pos rfl, if_pos (by omega), show b + i - b = i by omega]
  · rw [if_neg e, hg]
    by_cases e2 : b ≤ k ∧ k < b + i
    · rw [if_pos e2, if_pos (by omega)]
    · rw [if_neg e2, if_neg (by omega)]
section
variable {G : osG} {z : osS} {N x bd sp nw dr b : Nat} {E M : Nat → Nat → Int32} {D : Nat → Nat → Int64} {v : Int32}
theorem q_X9_append (h : rX9 z x bd sp nw dr E) (h1 : E 1 0 = nI b) (hb : b + 4 ≤ 1000) (hA : G.2.2.1 ≤ x) (hN : 5000 < N) : gx (qX9_append N x v G z) (fun _ z' => osFr x (x + 2) z z' ∧ ∃ E', rX9 z' x bd sp nw dr E' ∧ apC E b v 4 E') := by
  unfold qX9_append
  refine gx_loop 4 (fun i p z' => p = (x, v, shf i) ∧ osFr x (x + 2) z z' ∧ ∃ E', rX9 z' x bd sp nw dr E' ∧ apC E b v i E') ?_ ?_ N 0 _ z (Nat.zero_le _) (by omega) ⟨rfl, osFr.rf, E, h, h1, fun k => (if_neg (by omega)).symm, fun _ _ _ => rfl⟩
  · rintro ih i p z' hi ⟨rfl, fr, E', h', e1, e0, er⟩ k
    show gx (bX9_append_3 N ih x v (shf i) G z') _
    unfold bX9_append_3 qX9_append_40
    obtain ⟨s1, s2, _⟩ := shf_n hi
    refine gx_itef s1 (gx_gI h'.o (by decide) rfl ?_)
    rw [e1]
    refine gx_itef (nI_ge (a := b + i) (b := 1000) (by omega) (by omega)) (gx_gR h'.o (by decide) rfl (gx_gI h'.o (by decide) rfl (h'.s0 e1 (by omega) hA (fun z2 f2 h2 => gx_gI h2.o (by decide) rfl (h2.p1 (by decide) hA (fun z3 f3 h3 => k _ _ ⟨by rw [s2], fr.tr (f2.tr f3), _, h3, ?_, fun k => ?_, fun r q0 q1 => ?_⟩))))))
    · show E' 1 0 + (1 : Int32) = _
      rw [e1]; exact nI_sum (a := b + i) (b := 1) rfl rfl
    · exact upd_if (u := fun j => vp_nar .byte ((ocA v j).toInt8.toInt32)) e0 k
    · show (if r = 1 then _ else if r = 0 then _ else E' r) = _
      rw [if_neg q1, if_neg q0]; exact er r q0 q1
  · rintro ih p z' ⟨rfl, fr, E', h', ap⟩
    show gx (bX9_append_3 N ih x v (shf 4) G z') _
    unfold bX9_append_3
    exact gx_itet (by decide) (gx_ret ⟨fr, E', h', ap⟩)
end
theorem oct_cp (x : Int32) : ∃ w, w < 256 ∧ x &&& (255 : Int32) = nI w ∧ vp_nar .byte (x.toInt8.toInt32) = (nI w).toInt8.toInt32 := by
  refine ⟨x.toBitVec.toNat % 256, Nat.mod_lt _ (by decide), ?_, ?_⟩
  · apply Int32.toBitVec_inj.mp
    apply BitVec.eq_of_toNat_eq
    rw [Int32.toBitVec_and, BitVec.toNat_and]
    show x.toBitVec.toNat &&& 255 = (BitVec.ofNat 32 (x.toBitVec.toNat % 256)).toNat
    rw [show (255 : Nat) = 2 ^ 8 - 1 from rfl, Nat.and_two_pow_sub_one_eq_mod, BitVec.toNat_ofNat]
    omega
  · rw [vp_nar_byte]
    have e : (nI (x.toBitVec.toNat % 256)).toInt8 = x.toInt8 := by
      apply Int8.toBitVec_inj.mp
      apply BitVec.eq_of_toNat_eq
      show (BitVec.signExtend 8 (BitVec.ofNat 32 (x.toBitVec.toNat % 256))).toNat = (BitVec.signExtend 8 x.toBitVec).toNat
      rw [BitVec.signExtend_eq_setWidth_of_le _ (by decide), BitVec.signExtend_eq_setWidth_of_le _ (by decide), BitVec.toNat_setWidth, BitVec.toNat_setWidth, BitVec.toNat_ofNat]
      omega
    rw [e, Int8.toInt8_toInt32]
def fedC : List Int32 → Nat → (Nat → Nat → Int32) → (Nat → Nat → Int32) → Prop
  | [], _, E, E' => E' = E
  | v :: vs, b, E, E' => ∃ E1, apC E b v 4 E1 ∧ fedC vs (b + 4) E1 E'
def fedR : List Int32 → Nat → (Nat → Nat → Int32) → (Nat → Nat → Int32) → Prop
  | [], _, E, E' => E' = E
  | v :: vs, b, E, E' => ∃ E1, apR E b v 4 E1 ∧ fedR vs (b + 4) E1 E'
def cpI (E M : Nat → Nat → Int32) : Prop := ∀ k, k < 1000 → ∃ v, v < 256 ∧ M 9 k = nI v ∧ E 0 k = (nI v).toInt8.toInt32
theorem fed_cp : ∀ (vs : List Int32) (b : Nat) (E M E' M' : Nat → Nat → Int32), E 1 0 = nI b → M 10 0 = nI b → cpI E M → fedC vs b E E' → fedR vs b M M' → (E' 1 0 = nI (b + 4 * vs.length) ∧ M' 10 0 = nI (b + 4 * vs.length)) ∧ cpI E' M' ∧ (∀ r, ¬ r = 0 → ¬ r = 1 → E' r = E r) ∧ ∀ r, ¬ r = 9 → ¬ r = 10 → M' r = M r
  | [], b, E, M, E', M', h1, h2, h3, h4, h5 => by
    have e4 : E' = E := h4
    have e5 : M' = M := h5
    subst e4; subst e5
    exact ⟨⟨h1, h2⟩, h3, fun _ _ _ => rfl, fun _ _ _ => rfl⟩
  | v :: vs, b, E, M, E', M', h1, h2, h3, h4, h5 => by
    obtain ⟨E1, ⟨a1, a2, a3⟩, h4⟩ := h4
    obtain ⟨M1, ⟨b1, b2, b3⟩, h5⟩ := h5
    have hc : cpI E1 M1 := fun k hk => by
      rw [a2 k, b2 k]
      by_cases e : b ≤ k ∧ k < b + 4
      · rw [if_pos e, if_pos e]; exact oct_cp _
      · rw [if_neg e, if_neg e]; exact h3 k hk
    obtain ⟨⟨c1, c2⟩, c3, c4, c5⟩ := fed_cp vs (b + 4) E1 M1 E' M' a1 b1 hc h4 h5
    have e : b + 4 + 4 * vs.length = b + 4 * (v :: vs).length := by rw [List.length_cons]; omega
    exact ⟨⟨by rw [c1, e], by rw [c2, e]⟩, c3, fun r q0 q1 => (c4 r q0 q1).trans (a3 r q0 q1), fun r q0 q1 => (c5 r q0 q1).trans (b3 r q0 q1)⟩
