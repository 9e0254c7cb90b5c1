/-! the law's own steps (2): a text typed into the input -/
theorem bt_nI32 {v k : Nat} (hk : k < 32) : bt (nI v) k = v.testBit k := by
  unfold bt
  show (BitVec.ofNat 32 v).getLsbD k = _
  rw [BitVec.getLsbD_ofNat, decide_eq_true hk, Bool.true_and]
theorem shr_nI {p s : Nat} (hp : p < 2 ^ 31) (hs : s < 32) : osshr (nI p) (nI s) = nI (p / 2 ^ s) := by
  refine b_ext (fun i hi => ?_)
  unfold osshr
  rw [b_sshr s hs (nI p) hi, bt_nI32 hi, Nat.testBit_div_two_pow, Nat.add_comm i s]
  by_cases q : s + i < 32
  · rw [if_pos q, bt_nI32 q]
  · rw [if_neg q, bt_nI32 (k := 31) (by omega), Nat.testBit_lt_two_pow hp, Nat.testBit_lt_two_pow (Nat.lt_of_lt_of_le hp (Nat.pow_le_pow_right (by omega) (by omega)))]
theorem shl_or {q c : Nat} (hc : c < 256) : osshl (nI q) (8 : Int32) ||| nI c = nI (q * 256 + c) := by
  refine b_ext (fun i hi => ?_)
  have e : q * 256 + c = 2 ^ 8 * q + c := by omega
  rw [b_or, bt_nI32 hi, bt_nI32 hi, e, Nat.testBit_two_pow_mul_add _ (show c < 2 ^ 8 from hc)]
  unfold osshl
  rw [b_shl8 _ hi]
  by_cases h : i < 8
  · rw [if_pos h, decide_eq_false (show ¬ 8 ≤ i by omega), Bool.false_and, Bool.false_or]
  · rw [if_neg h, decide_eq_true (show 8 ≤ i by omega), Bool.true_and, bt_nI32 (by omega), Nat.testBit_lt_two_pow (Nat.lt_of_lt_of_le (show c < 2 ^ 8 from hc) (Nat.pow_le_pow_right (by omega) (by omega))), Bool.or_false]
/-- four letters in a number -/
def pkw (ch : Nat → Nat) (w : Nat) : Nat → Nat
  | 0 => 0
  | m + 1 => pkw ch w m * 256 + ch (4 * w + m)
theorem pkw_lt {ch : Nat → Nat} (h : ∀ i, ch i < 128) (w : Nat) : pkw ch w 0 = 0 ∧ pkw ch w 1 < 2 ^ 7 ∧ pkw ch w 2 < 2 ^ 15 ∧ pkw ch w 3 < 2 ^ 23 ∧ pkw ch w 4 < 2 ^ 31 := by
  have h0 := h (4 * w + 0)
  have h1 := h (4 * w + 1)
  have h2 := h (4 * w + 2)
  have h3 := h (4 * w + 3)
  refine ⟨rfl, ?_, ?_, ?_, ?_⟩ <;> simp only [pkw] <;> omega
theorem nI8 {a b : Nat} (h : a % 256 = b % 256) : (nI a).toInt8.toInt32 = (nI b).toInt8.toInt32 := by
  have e : (nI a).toInt8 = (nI b).toInt8 := by
    apply Int8.toBitVec_inj.mp
    apply BitVec.eq_of_toNat_eq
    show (BitVec.signExtend 8 (BitVec.ofNat 32 a)).toNat = (BitVec.signExtend 8 (BitVec.ofNat 32 b)).toNat
    rw [BitVec.signExtend_eq_setWidth_of_le _ (by decide), BitVec.signExtend_eq_setWidth_of_le _ (by decide), BitVec.toNat_setWidth, BitVec.toNat_setWidth, BitVec.toNat_ofNat, BitVec.toNat_ofNat]
    omega
  rw [e]
theorem narr (x : Int32) : vp_nar .byte (x.toInt8.toInt32) = x.toInt8.toInt32 := by rw [vp_nar_byte, Int8.toInt8_toInt32]
theorem pkw_by {ch : Nat → Nat} (h : ∀ i, ch i < 128) {w i : Nat} (hi : i < 4) : vp_nar .byte ((ocA (nI (pkw ch w 4)) i).toInt8.toInt32) = (nI (ch (4 * w + i))).toInt8.toInt32 := by
  have hp := (pkw_lt h w).2.2.2.2
  have h0 := h (4 * w + 0)
  have h1 := h (4 * w + 1)
  have h2 := h (4 * w + 2)
  have h3 := h (4 * w + 3)
  have e : pkw ch w 4 = ((ch (4 * w + 0) * 256 + ch (4 * w + 1)) * 256 + ch (4 * w + 2)) * 256 + ch (4 * w + 3) := by
    simp only [pkw]; omega
  rw [narr]
  unfold ocA
  rcases (show i = 0 ∨ i = 1 ∨ i = 2 ∨ i = 3 by omega) with q | q | q | q <;> subst q
  · rw [show osshr (nI (pkw ch w 4)) (shf 0) = nI (pkw ch w 4 / 2 ^ 24) from shr_nI (s := 24) hp (by decide)]
    exact nI8 (by omega)
  · rw [show osshr (nI (pkw ch w 4)) (shf 1) = nI (pkw ch w 4 / 2 ^ 16) from shr_nI (s := 16) hp (by decide)]
    exact nI8 (by omega)
  · rw [show osshr (nI (pkw ch w 4)) (shf 2) = nI (pkw ch w 4 / 2 ^ 8) from shr_nI (s := 8) hp (by decide)]
    exact nI8 (by omega)
  · rw [show osshr (nI (pkw ch w 4)) (shf 3) = nI (pkw ch w 4 / 2 ^ 0) from shr_nI (s := 0) hp (by decide)]
    exact nI8 (by omega)
section
variable {G : osG} {z : osS} {N x b : Nat} {ad : Nat → Nat} {W : Nat → Nat → Nat → Int32} {D : osS} {v1 v2 v3 v4 v5 : Int32}
theorem q_X9_feed (hw : WD z x ad W D) (e1 : W 0 1 0 = nI b) (hb : b + 20 ≤ 1000) (hA : G.2.2.1 ≤ x) (hN : 5000 < N) : gx (qX9_feed N x v1 v2 v3 v4 v5 G z) (fun r z' => r = .inr (nI (b + 20)) ∧ ∃ E', fedC [v1, v2, v3, v4, v5] b (W 0) E' ∧ WD z' x ad (Ws W 0 E') D) := by
  have e20 : nI b + (20 : Int32) = nI (b + 20) := nI_sum rfl rfl
  unfold qX9_feed
  refine gx_gI hw.x9.o (by decide) rfl ?_
  rw [e1, e20]
  refine gx_itet ((nI_leI (b := 1000) (by omega) (by omega)).mpr hb) ?_
  refine gx_recvQ hw.x9.o (by decide) (q_X9_append hw.x9 e1 (by omega) hA hN) (fun _ z1 ⟨f1, E1, x1, a1⟩ => ?_)
  refine gx_recvQ x1.o (by decide) (q_X9_append x1 a1.1 (by omega) hA hN) (fun _ z2 ⟨f2, E2, x2, a2⟩ => ?_)
  refine gx_recvQ x2.o (by decide) (q_X9_append x2 a2.1 (by omega) hA hN) (fun _ z3 ⟨f3, E3, x3, a3⟩ => ?_)
  refine gx_recvQ x3.o (by decide) (q_X9_append x3 a3.1 (by omega) hA hN) (fun _ z4 ⟨f4, E4, x4, a4⟩ => ?_)
  refine gx_recvQ x4.o (by decide) (q_X9_append x4 a4.1 (by omega) hA hN) (fun _ z5 ⟨f5, E5, x5, a5⟩ => ?_)
  exact gx_gI x5.o (by decide) rfl (gx_Rt (gx_ret ⟨by rw [a5.1], E5, ⟨E1, a1, E2, a2, E3, a3, E4, a4, E5, a5, rfl⟩, hw.c9 (f1.tr (f2.tr (f3.tr (f4.tr f5)))) x5⟩))
end
/-- what twenty letters leave -/
theorem fed_20 {ch : Nat → Nat} (h : ∀ i, ch i < 128) {b : Nat} {E E' : Nat → Nat → Int32} (hf : fedC [nI (pkw ch 0 4), nI (pkw ch 1 4), nI (pkw ch 2 4), nI (pkw ch 3 4), nI (pkw ch 4 4)] b E E') : E' 1 0 = nI (b + 20) ∧ (∀ k, E' 0 k = if b ≤ k ∧ k < b + 20 then (nI (ch (k - b))).toInt8.toInt32 else E 0 k) ∧ ∀ r, ¬ r = 0 → ¬ r = 1 → E' r = E r := by
  obtain ⟨E1, ⟨_, a1, c1⟩, E2, ⟨_, a2, c2⟩, E3, ⟨_, a3, c3⟩, E4, ⟨_, a4, c4⟩, E5, ⟨l5, a5, c5⟩, rfl⟩ := hf
  refine ⟨by rw [l5], fun k => ?_, fun r h0 h1 => by rw [c5 r h0 h1, c4 r h0 h1, c3 r h0 h1, c2 r h0 h1, c1 r h0 h1]⟩
  have go : ∀ w i, w < 5 → i < 4 → k = b + 4 * w + i → (nI (ch (k - b))).toInt8.toInt32 = vp_nar .byte ((ocA (nI (pkw ch w 4)) i).toInt8.toInt32) := fun w i _ hi e => by
    rw [pkw_by h hi]; congr 4; omega
  rw [a5, a4, a3, a2, a1]
  by_cases c : b ≤ k ∧ k < b + 20
  · rw [if_pos c]
    rcases (show k < b + 4 ∨ (b + 4 ≤ k ∧ k < b + 8) ∨ (b + 8 ≤ k ∧ k < b + 12) ∨ (b + 12 ≤ k ∧ k < b + 16) ∨ b + 16 ≤ k by omega) with q | q | q | q | q
    · rw [if_neg (by omega), if_neg (by omega), if_neg (by omega), if_neg (by omega), if_pos (by omega), go 0 (k - b) (by omega) (by omega) (by omega)]
    · rw [if_neg (by omega), if_neg (by omega), if_neg (by omega), if_pos (by omega), go 1 (k - (b + 4)) (by omega) (by omega) (by omega)]
    · rw [if_neg (by omega), if_neg (by omega), if_pos (by omega), go 2 (k - (b + 4 + 4)) (by omega) (by omega) (by omega)]
    · rw [if_neg (by omega), if_pos (by omega), go 3 (k - (b + 4 + 4 + 4)) (by omega) (by omega) (by omega)]
    · rw [if_pos (by omega), go 4 (k - (b + 4 + 4 + 4 + 4)) (by omega) (by omega) (by omega)]
  · rw [if_neg c, if_neg (by omega), if_neg (by omega), if_neg (by omega), if_neg (by omega), if_neg (by omega)]
