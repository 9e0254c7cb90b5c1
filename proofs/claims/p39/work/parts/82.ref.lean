/-! the reference's settling: ones; outcomes by their numbers (by program) -/
theorem exn_shift {P : Nat → Bool} : ∀ {n : Nat}, exn P (n + 1) = (P 0 || exn (fun k => P (k + 1)) n)
  | 0 => by simp [exn]
  | n + 1 => by
    show (exn P (n + 1) || P (n + 1)) = (P 0 || (exn (fun k => P (k + 1)) n || P (n + 1)))
    rw [exn_shift (n := n), Bool.or_assoc]
theorem inc_bit : ∀ (j y : Nat), (y + 1).testBit j = (y.testBit j ^^ !exn (fun k => !y.testBit k) j)
  | 0, y => by
    rw [Nat.testBit_zero, Nat.testBit_zero]
    simp only [exn, Bool.not_false, Bool.xor_true]
    rcases (show y % 2 = 0 ∨ y % 2 = 1 by omega) with h | h
    · rw [decide_eq_true (show (y + 1) % 2 = 1 by omega), decide_eq_false (show ¬ y % 2 = 1 by omega)]; rfl
    · rw [decide_eq_false (show ¬ (y + 1) % 2 = 1 by omega), decide_eq_true (show y % 2 = 1 by omega)]; rfl
  | j + 1, y => by
    rw [Nat.testBit_succ, Nat.testBit_succ, exn_shift, Nat.testBit_zero]
    have hc : exn (fun k => !y.testBit (k + 1)) j = exn (fun k => !(y / 2).testBit k) j := exn_cong (fun k _ => by rw [Nat.testBit_succ])
    rw [hc]
    rcases (show y % 2 = 0 ∨ y % 2 = 1 by omega) with h | h
    · rw [show (y + 1) / 2 = y / 2 by omega, decide_eq_false (show ¬ y % 2 = 1 by omega)]; simp
    · rw [show (y + 1) / 2 = y / 2 + 1 by omega, decide_eq_true (show y % 2 = 1 by omega), inc_bit j (y / 2)]; simp
/-- clearing the lowest bit -/
theorem low_bit : ∀ (w k : Nat), 0 < k → k < 2 ^ w → fb_ct (fun i => k.testBit i && (k - 1).testBit i) w + 1 = fb_ct (fun i => k.testBit i) w
  | 0, k, h1, h2 => by simp at h2; omega
  | w + 1, k, h1, h2 => by
    rw [show w + 1 = 1 + w by omega, fb_ct_split, fb_ct_split]
    have e1 : ∀ p : Nat → Bool, fb_ct p 1 = if p 0 = true then 1 else 0 := fun p => by
      rw [show (1 : Nat) = 0 + 1 from rfl, fb_ct_succ]
      show 0 + _ = _
      rw [Nat.zero_add]
    rw [e1, e1, Nat.testBit_zero, Nat.testBit_zero]
    have hp : k < 2 * 2 ^ w := by rw [Nat.pow_succ] at h2; omega
    have t1 : fb_ct (fun i => k.testBit (1 + i)) w = fb_ct (fun i => (k / 2).testBit i) w := fb_ct_cong (fun i _ => by rw [show 1 + i = i + 1 by omega, Nat.testBit_succ])
    have t2 : fb_ct (fun i => k.testBit (1 + i) && (k - 1).testBit (1 + i)) w = fb_ct (fun i => (k / 2).testBit i && ((k - 1) / 2).testBit i) w := fb_ct_cong (fun i _ => by rw [show 1 + i = i + 1 by omega, Nat.testBit_succ, Nat.testBit_succ])
    rw [t1, t2]
    rcases (show k % 2 = 0 ∨ k % 2 = 1 by omega) with h | h
    · rw [show (k - 1) / 2 = k / 2 - 1 by omega, decide_eq_false (show ¬ k % 2 = 1 by omega)]
      have := low_bit w (k / 2) (by omega) (by omega)
      simp only [Bool.false_and, Bool.false_eq_true, reduceIte]
      omega
    · rw [show (k - 1) / 2 = k / 2 by omega, decide_eq_true (show k % 2 = 1 by omega), decide_eq_false (show ¬ (k - 1) % 2 = 1 by omega)]
      simp only [Bool.and_self, Bool.and_false, Bool.false_eq_true, reduceIte]
      omega
theorem bt_nI {k i : Nat} (hk : k < 65536) : bt (nI k) i = k.testBit i := by
  rw [bt_tb]
  show (BitVec.ofNat 32 k).toNat.testBit i = _
  rw [BitVec.toNat_ofNat, Nat.mod_eq_of_lt (by omega)]
theorem hi0_nat {x : Int32} (h : hi0 x) : ∃ k, k < 65536 ∧ x = nI k := ⟨x.toBitVec.toNat, bt_small h, Int32.toBitVec_inj.mp (by show _ = BitVec.ofNat 32 _; simp)⟩
theorem low_I {x : Int32} (h : hi0 x) (h0 : ¬ x = 0) : hi0 (x &&& (x - (1 : Int32))) ∧ cnt (x &&& (x - (1 : Int32))) + 1 = cnt x := by
  refine ⟨and_hi h, ?_⟩
  obtain ⟨k, hk, rfl⟩ := hi0_nat h
  have hk0 : 0 < k := by
    rcases Nat.eq_zero_or_pos k with q | q
    · subst q; exact absurd rfl h0
    · exact q
  have e1 : nI k - (1 : Int32) = nI (k - 1) := nI_sub (a := k) (b := 1) hk0
  rw [e1]
  unfold cnt
  have := low_bit 16 k hk0 hk
  rw [show fb_ct (bt (nI k)) 16 = fb_ct (fun i => k.testBit i) 16 from fb_ct_cong (fun i _ => bt_nI hk), ← this]
  congr 1
  exact fb_ct_cong (fun i _ => by rw [b_and, bt_nI hk, bt_nI (by omega)])
theorem cnt_z : cnt 0 = 0 := fb_ct_zero.mpr (fun k _ => b_0 k)
section
variable {S : Nat → Nat → Int32}
theorem ct_ixa {P : Nat → Bool} : ∀ k, fb_ct P (fb_ct (mv S) k) = fb_ct (fun a => mv S a && P (ix S a)) k
  | 0 => rfl
  | k + 1 => by
    rw [fb_ct_succ, fb_ct_succ, ← ct_ixa k]
    cases hm : mv S k
    · simp
    · rw [if_pos rfl, fb_ct_succ]; rfl
theorem exn_ixa {P : Nat → Bool} : ∀ k, exn P (fb_ct (mv S) k) = exn (fun a => mv S a && P (ix S a)) k
  | 0 => rfl
  | k + 1 => by
    rw [fb_ct_succ]
    show _ = (exn (fun a => mv S a && P (ix S a)) k || (mv S k && P (ix S k)))
    rw [← exn_ixa k]
    cases hm : mv S k
    · simp
    · rw [if_pos rfl]; rfl
theorem mset_bt {a : Nat} : bt (mset S) a = (decide (a < 16) && mv S a) := by
  by_cases h : a < 32
  · exact b_bset _ (by omega) h
  · rw [b_big (by omega), decide_eq_false (by omega)]; rfl
/-- the next subset, bit by bit -/
theorem next_bit {x m : Int32} (hx : ∀ a, bt x a = true → bt m a = true) {a : Nat} (ha : a < 32) : bt ((x - m) &&& m) a = (bt m a && (bt x a ^^ !exn (fun k => bt m k && !bt x k) a)) := by
  rw [b_and]
  cases hm : bt m a
  · simp
  · rw [Bool.and_true, Bool.true_and]
    show (x - m).toBitVec.getLsbD a = _
    rw [Int32.toBitVec_sub, BitVec.sub_eq_add_neg, BitVec.neg_eq_not_add, ← BitVec.add_assoc]
    have h0 : x.toBitVec &&& ~~~m.toBitVec = 0#32 := BitVec.eq_of_getLsbD_eq (fun i hi => by
      rw [BitVec.getLsbD_and, BitVec.getLsbD_not, BitVec.getLsbD_zero]
      cases h : x.toBitVec.getLsbD i
      · rfl
      · have : m.toBitVec.getLsbD i = true := hx i h
        rw [this]; simp)
    rw [BitVec.add_eq_or_of_and_eq_zero _ _ h0]
    have hY : ∀ k, k < 32 → (x.toBitVec ||| ~~~m.toBitVec).toNat.testBit k = (bt x k || !bt m k) := fun k hk => by
      show (x.toBitVec ||| ~~~m.toBitVec).getLsbD k = _
      rw [BitVec.getLsbD_or, BitVec.getLsbD_not, decide_eq_true hk, Bool.true_and]; rfl
    generalize hy : (x.toBitVec ||| ~~~m.toBitVec) = Y at hY
    show (Y + 1#32).toNat.testBit a = _
    rw [BitVec.toNat_add, Nat.testBit_mod_two_pow, decide_eq_true ha, Bool.true_and]
    show (Y.toNat + 1).testBit a = _
    rw [inc_bit, hY a ha, hm]
    have : exn (fun k => !Y.toNat.testBit k) a = exn (fun k => bt m k && !bt x k) a := exn_cong (fun k hk => by rw [hY k (by omega)]; cases bt x k <;> cases bt m k <;> rfl)
    rw [this]; simp
/-- the i-th subset of the moving areas, by the number i -/
theorem sub_bits {h12 : fb_ct (mv S) 16 ≤ 12} : ∀ i, i < 2 ^ fb_ct (mv S) 16 → ∀ a, bt (sub (mset S) i) a = oX S (nI i) a
  | 0, _, a => by
    unfold sub oX
    rw [b_0, show (nI 0 : Int32) = 0 from rfl, b_0]; simp
  | i + 1, hi, a => by
    have h64 : 2 ^ fb_ct (mv S) 16 ≤ 4096 := Nat.le_trans (Nat.pow_le_pow_right (by omega) h12) (by decide)
    have ih := sub_bits (h12 := h12) i (by omega)
    unfold sub
    by_cases h32 : a < 32
    · rw [next_bit (fun k h => sub_in h) h32, mset_bt, ih a]
      have he : exn (fun k => bt (mset S) k && !bt (sub (mset S) i) k) a = exn (fun k => bt (mset S) k && !oX S (nI i) k) a := exn_cong (fun k _ => by rw [ih k])
      rw [he]
      by_cases h16 : a < 16
      · have he2 : exn (fun k => bt (mset S) k && !oX S (nI i) k) a = exn (fun s => !i.testBit s) (ix S a) := by
          show _ = exn (fun s => !i.testBit s) (fb_ct (mv S) a)
          rw [exn_ixa a]
          refine exn_cong (fun k hk => ?_)
          rw [mset_bt, oX_in (by omega), bt_nI (by omega), decide_eq_true (show k < 16 by omega)]
          cases mv S k <;> simp
        rw [he2, oX_in h16, oX_in h16, bt_nI (by omega), bt_nI (by omega), inc_bit, decide_eq_true h16]
        cases mv S a <;> simp
      · unfold oX
        rw [decide_eq_false h16]; rfl
    · rw [b_big (by omega)]
      unfold oX
      rw [decide_eq_false (by omega)]; rfl
theorem sub_X {h12 : fb_ct (mv S) 16 ≤ 12} {i : Nat} (hi : i < 2 ^ fb_ct (mv S) 16) : bt (sub (mset S) i) = oX S (nI i) := funext (fun a => sub_bits (h12 := h12) i hi a)
theorem cnt_oX {h12 : fb_ct (mv S) 16 ≤ 12} {i : Nat} (hi : i < 2 ^ fb_ct (mv S) 16) : cnt (sub (mset S) i) = cnt (nI i) := by
  have h64 : 2 ^ fb_ct (mv S) 16 ≤ 4096 := Nat.le_trans (Nat.pow_le_pow_right (by omega) h12) (by decide)
  unfold cnt
  rw [sub_X (h12 := h12) hi, fb_ct_cut (q := bt (nI i)) (n := fb_ct (mv S) 16) (by omega) (fun j h1 h2 => by
    rw [bt_nI (by omega)]
    exact Nat.testBit_lt_two_pow (Nat.lt_of_lt_of_le hi (Nat.pow_le_pow_right (by omega) h1))), ct_ixa 16]
  exact fb_ct_cong (fun a ha => oX_in ha)
end
