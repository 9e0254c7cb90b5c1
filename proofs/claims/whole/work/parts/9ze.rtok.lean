/-! the reference's tokens (by program) -/
def rTx (b : Nat → Nat) (L : Nat) (M : Nat → Nat → Int32) : Prop := M 12 0 = nI L ∧ ∀ k, k < 1000 → M 9 k = nI (b k)
def tkR (b : Nat → Nat) (L i : Nat) (M : Nat → Nat → Int32) : Prop := rTx b L M ∧ ∃ t, t ≤ L ∧ tS b L t = tS b L i ∧ M 11 0 = nI t
def rk2 (M M' : Nat → Nat → Int32) : Prop := ∀ k, ¬ (k = 11 ∨ k = 13 ∨ k = 14 ∨ k = 15) → M' k = M k
def rk (M M' : Nat → Nat → Int32) : Prop := ∀ k, ¬ (k = 11 ∨ k = 13 ∨ k = 14 ∨ k = 15 ∨ k = 16 ∨ k = 17 ∨ k = 19) → M' k = M k
def dk (D D' : Nat → Nat → Int64) : Prop := ∀ k, ¬ k = 18 → D' k = D k
theorem rk2_rf {M : Nat → Nat → Int32} : rk2 M M := fun _ _ => rfl
theorem rk_rf {M : Nat → Nat → Int32} : rk M M := fun _ _ => rfl
theorem dk_rf {D : Nat → Nat → Int64} : dk D D := fun _ _ => rfl
theorem rk2_tr {M M1 M2 : Nat → Nat → Int32} (h : rk2 M M1) (h2 : rk2 M1 M2) : rk2 M M2 := fun k hk => (h2 k hk).trans (h k hk)
theorem rk_tr {M M1 M2 : Nat → Nat → Int32} (h : rk M M1) (h2 : rk M1 M2) : rk M M2 := fun k hk => (h2 k hk).trans (h k hk)
theorem dk_tr {D D1 D2 : Nat → Nat → Int64} (h : dk D D1) (h2 : dk D1 D2) : dk D D2 := fun k hk => (h2 k hk).trans (h k hk)
theorem rk2_rk {M M1 : Nat → Nat → Int32} (h : rk2 M M1) : rk M M1 := fun k hk => h k (by omega)
theorem rTx_k {b : Nat → Nat} {L : Nat} {M M' : Nat → Nat → Int32} (h : rTx b L M) (hk : rk M M') : rTx b L M' := by
  unfold rTx
  rw [hk 12 (by omega), hk 9 (by omega)]; exact h
def bat (b : Nat → Nat) (L k : Nat) : Int32 := if k < L then nI (b k) else -1
section
variable {b : Nat → Nat} {L k : Nat}
theorem bat_32 (hb : ∀ k, k < 1000 → b k < 256) (hL : L ≤ 1000) : (bat b L k = 32 ↔ k < L ∧ b k = 32) ∧ (bat b L k = 10 ↔ k < L ∧ b k = 10) ∧ (bat b L k = 59 ↔ k < L ∧ b k = 59) ∧ (bat b L k = -1 ↔ L ≤ k) ∧ (!decide (bat b L k < 97) && !decide (122 < bat b L k)) = (decide (k < L) && isLt (b k)) := by
  unfold bat
  by_cases q : k < L
  · obtain ⟨o1, o2, o3, o4, o5⟩ := oct_r (b k) (hb k (by omega))
    rw [if_pos q, decide_eq_true q, Bool.true_and]
    exact ⟨⟨fun c => ⟨q, o1.mp c⟩, fun c => o1.mpr c.2⟩, ⟨fun c => ⟨q, o2.mp c⟩, fun c => o2.mpr c.2⟩, ⟨fun c => ⟨q, o3.mp c⟩, fun c => o3.mpr c.2⟩, ⟨fun c => absurd c o4, fun c => by omega⟩, o5⟩
  · rw [if_neg q, decide_eq_false q, Bool.false_and]
    exact ⟨⟨fun c => absurd c (by decide), fun c => absurd c.1 q⟩, ⟨fun c => absurd c (by decide), fun c => absurd c.1 q⟩, ⟨fun c => absurd c (by decide), fun c => absurd c.1 q⟩, ⟨fun _ => by omega, fun _ => rfl⟩, by decide⟩
end
section
variable {G : osG} {N m L i : Nat} {b : Nat → Nat} {M : Nat → Nat → Int32} {D : Nat → Nat → Int64} {Q : Int32 → (Nat → Nat → Int32) → (Nat → Nat → Int64) → Prop}
theorem r_byteAt (hT : rTx b L M) (hL : L ≤ 1000) {k : Nat} (hk : k ≤ L) {x : Int32} (e : x = nI k) : ∀ z, rX10 z m M D → qX10_byteAt N m x G z = some (bat b L k, z) := by
  intro z hz
  subst e
  refine gx_eq ?_
  unfold qX10_byteAt qX10_byteAt_18
  refine gx_gI hz.o (by decide) rfl ?_
  rw [hT.1]
  by_cases q : k < L
  · refine gx_itef (nI_nleE (a := L) (b := k) rfl rfl q (by omega)) (gx_gR hz.o (by decide) rfl (gx_aE (i := k) hz.a9 rfl (by omega) (Nat.le_of_ble_eq_true rfl) (gx_ret ⟨?_, rfl⟩)))
    rw [hT.2 k (by omega)]
    unfold bat; rw [if_pos q]
  · refine gx_itet ((nI_leI (by omega) (by omega)).mpr (by omega)) (gx_ret ⟨?_, rfl⟩)
    unfold bat; rw [if_neg q]
theorem ux_peek (tk : tkR b L i M) (hb : ∀ k, k < 1000 → b k < 256) (hL : L ≤ 1000) (hA : G.2.2.1 ≤ m) (hN : 5000 < N) (hi : i ≤ L) (kk : ∀ M', tkR b L i M' → M' 11 0 = nI (tS b L i) → M' 13 0 = nI (tS b L i) → (∀ k, ¬ k = 11 → ¬ k = 13 → M' k = M k) → Q (bat b L (tS b L i)) M' D) : ux G m (qX10_peek N m) M D Q := by
  obtain ⟨hT, t, ht, es, e11⟩ := tk
  unfold qX10_peek qX10_peek_0
  have out : ∀ (ih : Nat → osM Int32) (M1 : Nat → Nat → Int32), M1 11 0 = nI (tS b L i) → (∀ k, ¬ k = 11 → M1 k = M k) → ux G m (bX10_peek_0 N ih m) M1 D Q := by
    intro ih M1 e1 ek
    have hT1 : rTx b L M1 := by unfold rTx; rw [ek 12 (by omega), ek 9 (by omega)]; exact hT
    obtain ⟨s1, s2⟩ := tS_le (b := b) hi
    obtain ⟨c1, c2, _⟩ := bat_32 (b := b) (L := L) (k := tS b L i) hb hL
    have hno : tS b L i < L → isSp (b (tS b L i)) = false := (sc_all (p := fun k => isSp (b k)) rfl hi).2.2.1
    unfold isSp at hno
    simp only [Bool.or_eq_false_iff, decide_eq_false_iff_not] at hno
    unfold bX10_peek_0
    refine ux_gI rfl (ux_rE (r_byteAt hT1 hL s2 e1) (ux_itef (fun c => (hno (c1.mp c).1).1 (c1.mp c).2) (ux_gI rfl (ux_rE (r_byteAt hT1 hL s2 e1) (ux_itef (fun c => (hno (c2.mp c).1).2 (c2.mp c).2) (ux_gI rfl (ux_p13 hA (ux_gI rfl (ux_rE (r_byteAt (k := tS b L i) (M := cset M1 13 fun _ => M1 11 0) hT1 hL s2 e1) (ux_ret ?_))))))))))
    refine kk _ ⟨hT1, tS b L i, s2, tS_again hi, e1⟩ e1 e1 (fun k k1 k3 => ?_)
    rw [cset_ne k3]; exact ek k k1
  refine ux_loop (L - t) (fun j p M1 D1 => p = m ∧ D1 = D ∧ M1 11 0 = nI (t + j) ∧ t + j ≤ L ∧ sc (fun k => isSp (b k)) L (t + j) = tS b L i ∧ ∀ k, ¬ k = 11 → M1 k = M k) ?_ ?_ N 0 _ M D (Nat.zero_le _) (by omega) ⟨rfl, rfl, e11, by omega, es, fun _ _ => rfl⟩
  · rintro ih j p M1 D1 hj ⟨rfl, rfl, e1, hl, e2, ek⟩ k
    show ux G p (bX10_peek_0 N ih p) M1 D1 Q
    cases hs : isSp (b (t + j))
    · refine out ih M1 ?_ ek
      rw [e1, ← e2, sc_no (p := fun k => isSp (b k)) (fun _ => hs)]
    · have hT1 : rTx b L M1 := by unfold rTx; rw [ek 12 (by omega), ek 9 (by omega)]; exact hT
      obtain ⟨c1, c2, _⟩ := bat_32 (b := b) (L := L) (k := t + j) hb hL
      have go : ux G p (qX10_peek_26 N ih p) M1 D1 Q := by
        unfold qX10_peek_26
        refine ux_gI rfl (ux_p11 hA (k _ _ _ ⟨rfl, rfl, ?_, by omega, ?_, fun r hr => ?_⟩))
        · show M1 11 0 + (1 : Int32) = _
          rw [e1]; exact nI_sum (b := 1) rfl rfl
        · rw [← e2]; exact (sc_go (p := fun k => isSp (b k)) (by omega) hs).symm
        · rw [cset_ne hr]; exact ek r hr
      unfold bX10_peek_0
      refine ux_gI rfl (ux_rE (r_byteAt hT1 hL (by omega) e1) (ux_ite (fun _ => go) (fun c => ux_gI rfl (ux_rE (r_byteAt hT1 hL (by omega) e1) (ux_itet ?_ go)))))
      unfold isSp at hs
      rw [Bool.or_eq_true, decide_eq_true_eq, decide_eq_true_eq] at hs
      rcases hs with q | q
      · exact absurd (c1.mpr ⟨by omega, q⟩) c
      · exact c2.mpr ⟨by omega, q⟩
  · rintro ih p M1 D1 ⟨rfl, rfl, e1, hl, e2, ek⟩
    refine out ih M1 ?_ ek
    rw [e1, ← e2, sc_no (p := fun k => isSp (b k)) (fun q => by omega)]
theorem ux_sees (tk : tkR b L i M) (hb : ∀ k, k < 1000 → b k < 256) (hL : L ≤ 1000) (hA : G.2.2.1 ≤ m) (hN : 5000 < N) (hi : i ≤ L) (k0 : tN b L i = 0 → ∀ M', tkR b L i M' → M' 13 0 = nI (tS b L i) → rk2 M M' → Q 0 M' D) (k1 : 0 < tN b L i → ∀ M' D', tkR b L i M' → M' 13 0 = nI (tS b L i) → M' 14 0 = nI (tW b L i) → M' 15 0 = nI (tN b L i) → D' 18 0 = lN (tV b L i) → rk2 M M' → dk D D' → Q 1 M' D') : ux G m (qX10_seesWord N m) M D Q := by
  obtain ⟨s1, s2⟩ := tS_le (b := b) hi
  obtain ⟨w1, w2⟩ := tW_le (b := b) hi
  unfold qX10_seesWord
  refine ux_call (ux_peek tk hb hL hA hN hi (fun M1 t1 a1 a3 ek => ux_E (fun z _ => q_X10_isLetter) ?_))
  obtain ⟨_, _, _, _, c5⟩ := bat_32 (b := b) (L := L) (k := tS b L i) hb hL
  rw [c5]
  have ek2 : rk2 M M1 := fun k hk => ek k (by omega) (by omega)
  by_cases q : tN b L i = 0
  · have : (decide (tS b L i < L) && isLt (b (tS b L i))) = false := by
      by_cases q2 : tS b L i < L
      · rw [t_no hi q q2, Bool.and_false]
      · rw [decide_eq_false q2, Bool.false_and]
    rw [this]
    exact ux_itet rfl (ux_retZ (Or.inl rfl) (k0 q M1 t1 a3 ek2))
  · have hl : isLt (b (tS b L i)) = true := t_lt (b := b) hi (k := 0) (by omega)
    have hs : tS b L i < L := by unfold tN at q; omega
    rw [hl, decide_eq_true hs]
    refine ux_itef (by decide) (ux_gI rfl (ux_p14 hA (ux_p18 hA ?_)))
    unfold qX10_seesWord_25
    refine ux_loop (L - tS b L i) (fun j p M2 D2 => p = m ∧ M2 14 0 = nI (tS b L i + j) ∧ M2 13 0 = nI (tS b L i) ∧ tS b L i + j ≤ L ∧ sc (fun k => isLt (b k)) L (tS b L i + j) = tW b L i ∧ D2 18 0 = lN (if j ≤ 7 then pkn b (tS b L i) j else 0) ∧ tkR b L i M2 ∧ rk2 M M2 ∧ dk D D2) ?_ ?_ N 0 _ _ _ (Nat.zero_le _) (by omega) ⟨rfl, a3, a3, by omega, rfl, rfl, ?_, ?_, ?_⟩
    · rintro ih j p M2 D2 hj ⟨rfl, e14, e13, hl2, ew, e18, t2, r2, d2⟩ k
      show ux G p (bX10_seesWord_25 N ih p) M2 D2 Q
      unfold bX10_seesWord_25
      obtain ⟨_, _, _, _, c5⟩ := bat_32 (b := b) (L := L) (k := tS b L i + j) hb hL
      refine ux_gI rfl (ux_rE (r_byteAt t2.1 hL hl2 e14) (ux_E (fun z _ => q_X10_isLetter) ?_))
      rw [c5, decide_eq_true (show tS b L i + j < L by omega), Bool.true_and]
      cases hlt : isLt (b (tS b L i + j))
      · have ee : tS b L i + j = tW b L i := by rw [← ew]; exact (sc_no (p := fun k => isLt (b k)) (fun _ => hlt)).symm
        have en : tN b L i = j := by unfold tN; omega
        refine ux_itet rfl (ux_gI rfl (ux_gI rfl (ux_p15 hA (ux_retZ (Or.inr rfl) (k1 (by omega) _ _ ⟨t2.1, t2.2⟩ e13 ?_ ?_ ?_ (fun k hk => ?_) d2)))))
        · show M2 14 0 = _
          rw [e14, ee]
        · show M2 14 0 - M2 13 0 = _
          rw [e14, e13, nI_sub (by omega), en]; congr 1; omega
        · rw [e18]; unfold tV; rw [en]
        · rw [cset_ne (by omega)]; exact r2 k hk
      · have hb9 := hb (tS b L i + j) (by omega)
        have hl9 := hlt
        unfold isLt at hl9
        simp only [Bool.and_eq_true, decide_eq_true_eq] at hl9
        have go : ∀ v : Int64, v = lN (if j + 1 ≤ 7 then pkn b (tS b L i) (j + 1) else 0) → ux G p (qX10_seesWord_80 N ih p v p) M2 D2 Q := fun v ev => by
          unfold qX10_seesWord_80
          refine ux_p18 hA (ux_gI rfl (ux_p14 hA (k _ _ _ ⟨rfl, ?_, e13, by omega, ?_, ev, ⟨t2.1, t2.2⟩, fun k hk => ?_, fun k hk => ?_⟩)))
          · show M2 14 0 + (1 : Int32) = _
            rw [e14]; exact nI_sum (b := 1) rfl rfl
          · rw [← ew]; exact (sc_go (p := fun k => isLt (b k)) (by omega) hlt).symm
          · rw [cset_ne (by omega)]; exact r2 k hk
          · rw [cset_ne hk]; exact d2 k hk
        refine ux_itef (by decide) (ux_gI rfl (ux_gI rfl ?_))
        rw [e14, e13, nI_sub (by omega), show tS b L i + j - tS b L i = j by omega]
        by_cases q7 : 7 ≤ j
        · refine ux_itet ((nI_leI (a := 7) (b := j) (by omega) (by omega)).mpr q7) (go _ ?_)
          rw [if_neg (by omega)]; rfl
        · refine ux_itef (fun c => q7 ((nI_leI (a := 7) (b := j) (by omega) (by omega)).mp c)) (ux_gJ rfl (ux_gI rfl (ux_rE (r_byteAt t2.1 hL hl2 e14) (go _ ?_))))
          rw [e18, if_pos (show j ≤ 7 by omega), if_pos (show j + 1 ≤ 7 by omega)]
          unfold bat
          rw [if_pos (show tS b L i + j < L by omega)]
          show lN 32 * lN _ + (nI (b (tS b L i + j))).toInt64 - lN 96 = _
          rw [nI_l (by omega), lN_mul, lN_add, lN_sub (by omega)]
          show lN _ = lN (32 * pkn b (tS b L i) j + (b (tS b L i + j) - 96))
          congr 1; omega
    · rintro ih p M2 D2 ⟨rfl, e14, e13, hl2, ew, e18, t2, r2, d2⟩
      show ux G p (bX10_seesWord_25 N ih p) M2 D2 Q
      unfold bX10_seesWord_25
      obtain ⟨_, _, _, _, c5⟩ := bat_32 (b := b) (L := L) (k := tS b L i + (L - tS b L i)) hb hL
      refine ux_gI rfl (ux_rE (r_byteAt t2.1 hL hl2 e14) (ux_E (fun z _ => q_X10_isLetter) ?_))
      rw [c5, decide_eq_false (show ¬ tS b L i + (L - tS b L i) < L by omega), Bool.false_and]
      have ee : tS b L i + (L - tS b L i) = tW b L i := by rw [← ew]; exact (sc_no (p := fun k => isLt (b k)) (fun q => by omega)).symm
      have en : tN b L i = L - tS b L i := by unfold tN; omega
      refine ux_itet rfl (ux_gI rfl (ux_gI rfl (ux_p15 hA (ux_retZ (Or.inr rfl) (k1 (by omega) _ _ ⟨t2.1, t2.2⟩ e13 ?_ ?_ ?_ (fun k hk => ?_) d2)))))
      · show M2 14 0 = _
        rw [e14, ee]
      · show M2 14 0 - M2 13 0 = _
        rw [e14, e13, nI_sub (by omega), en]; congr 1; omega
      · rw [e18]; unfold tV; rw [en]
      · rw [cset_ne (by omega)]; exact r2 k hk
    · exact ⟨t1.1, t1.2⟩
    · intro k hk
      rw [cset_ne (by omega)]; exact ek2 k hk
    · intro k hk
      rw [cset_ne hk]
theorem ux_passes {k : Nat} (hT : rTx b L M) (hk : k ≤ L) (e14 : M 14 0 = nI k) (hA : G.2.2.1 ≤ m) (kk : ∀ M', tkR b L k M' → (∀ r, ¬ r = 11 → M' r = M r) → Q 1 M' D) : ux G m (qX10_passes N m) M D Q := by
  unfold qX10_passes
  exact ux_gI rfl (ux_p11 hA (ux_retZ (Or.inr rfl) (kk _ ⟨hT, k, hk, rfl, e14⟩ (fun r hr => cset_ne hr))))
theorem ux_fails {u v : Int32} (hA : G.2.2.1 ≤ m) (kk : ∀ M', M' 16 0 = u → M' 17 0 = v → (∀ r, ¬ r = 16 → ¬ r = 17 → M' r = M r) → Q 0 M' D) : ux G m (qX10_fails N m u v) M D Q := by
  unfold qX10_fails
  exact ux_p16 hA (ux_p17 hA (ux_retZ (Or.inl rfl) (kk _ rfl rfl (fun r h1 h2 => by rw [cset_ne h2, cset_ne h1]))))
theorem ux_word (tk : tkR b L i M) (hb : ∀ k, k < 1000 → b k < 256) (hL : L ≤ 1000) (hA : G.2.2.1 ≤ m) (hN : 5000 < N) (hi : i ≤ L) (k0 : tN b L i = 0 → ∀ M', M' 16 0 = 1 → M' 17 0 = nI (tS b L i) → rk M M' → Q 0 M' D) (k1 : 0 < tN b L i → ∀ M' D', tkR b L (tX b L i) M' → M' 13 0 = nI (tS b L i) → M' 15 0 = nI (tN b L i) → D' 18 0 = lN (tV b L i) → rk2 M M' → dk D D' → Q 1 M' D') : ux G m (qX10_readWord N m) M D Q := by
  unfold qX10_readWord qX10_readWord_23
  refine ux_call (ux_sees tk hb hL hA hN hi (fun q M1 t1 a3 r1 => ?_) (fun q M1 D1 t1 a3 a4 a5 a8 r1 d1 => ?_))
  · refine ux_itet rfl (ux_gI rfl (ux_call (ux_fails hA (fun M2 b6 b7 r2 => ux_retZ (Or.inl rfl) (k0 q M2 b6 (b7.trans a3) (fun k hk => ?_))))))
    rw [r2 k (by omega) (by omega)]; exact r1 k (by omega)
  · refine ux_itef (by decide) (ux_call (ux_passes t1.1 (tW_le hi).2 a4 hA (fun M2 t2 r2 => ux_retZ (Or.inr rfl) (k1 q M2 D1 ?_ ?_ ?_ a8 (fun k hk => ?_) d1))))
    · rw [(tX_w hi q).1]; exact t2
    · rw [r2 13 (by omega)]; exact a3
    · rw [r2 15 (by omega)]; exact a5
    · rw [r2 k (by omega)]; exact r1 k hk
theorem r_sees {j : Nat} {w : Int64} (hj : j < 15) (ew : w = lN (kwN j)) (tk : tkR b L i M) (hb : ∀ k, k < 1000 → b k < 256) (hL : L ≤ 1000) (hA : G.2.2.1 ≤ m) (hN : 5000 < N) (hi : i ≤ L) (k0 : kwb b L i j = false → ∀ M' D', tkR b L i M' → M' 13 0 = nI (tS b L i) → rk2 M M' → dk D D' → Q 0 M' D') (k1 : kwb b L i j = true → ∀ M' D', tkR b L i M' → M' 13 0 = nI (tS b L i) → M' 14 0 = nI (tW b L i) → rk2 M M' → dk D D' → Q 1 M' D') : ux G m (qX10_sees N m w) M D Q := by
  subst ew
  unfold qX10_sees qX10_sees_20 qX10_sees_21
  refine ux_call (ux_sees tk hb hL hA hN hi (fun q M1 t1 a3 r1 => ux_itet rfl (ux_retZ (Or.inl rfl) (k0 (kwb_n q) M1 D t1 a3 r1 dk_rf))) (fun q M1 D1 t1 a3 a4 a5 a8 r1 d1 => ux_itef (by decide) (ux_gJ rfl ?_)))
  rw [a8]
  have h1 := tV_lt (b := b) hi
  have h2 := (kw_pk j hj).2.2
  refine ux_ite (fun c => ux_retZ (Or.inr rfl) (k1 ?_ M1 D1 t1 a3 a4 r1 d1)) (fun c => ux_retZ (Or.inl rfl) (k0 ?_ M1 D1 t1 a3 r1 d1))
  · rw [kwb_v q]; exact decide_eq_true ((fb_lN_inj (by omega) (by omega)).mp (lcmp_0.mp c))
  · rw [kwb_v q]; exact decide_eq_false (fun e => c (by rw [e]; exact lcmp_0.mpr rfl))
theorem ux_takesIf {j : Nat} {w : Int64} (hj : j < 15) (ew : w = lN (kwN j)) (tk : tkR b L i M) (hb : ∀ k, k < 1000 → b k < 256) (hL : L ≤ 1000) (hA : G.2.2.1 ≤ m) (hN : 5000 < N) (hi : i ≤ L) (k0 : kwb b L i j = false → ∀ M' D', tkR b L i M' → M' 13 0 = nI (tS b L i) → rk2 M M' → dk D D' → Q 0 M' D') (k1 : kwb b L i j = true → ∀ M' D', tkR b L (tX b L i) M' → M' 13 0 = nI (tS b L i) → rk2 M M' → dk D D' → Q 1 M' D') : ux G m (qX10_takesIf N m w) M D Q := by
  unfold qX10_takesIf qX10_takesIf_19 qX10_takesIf_20
  refine ux_call (r_sees hj ew tk hb hL hA hN hi (fun q M1 D1 t1 a3 r1 d1 => ux_itet rfl (ux_retZ (Or.inl rfl) (k0 q M1 D1 t1 a3 r1 d1))) (fun q M1 D1 t1 a3 a4 r1 d1 => ux_itef (by decide) (ux_call (ux_passes t1.1 (tW_le hi).2 a4 hA (fun M2 t2 r2 => ux_itef (by decide) (ux_retZ (Or.inr rfl) (k1 q M2 D1 ?_ ?_ (fun k hk => ?_) d1)))))))
  · have : 0 < tN b L i := by
      unfold kwb at q
      simp only [Bool.and_eq_true, decide_eq_true_eq] at q
      exact q.1
    rw [(tX_w hi this).1]; exact t2
  · rw [r2 13 (by omega)]; exact a3
  · rw [r2 k (by omega)]; exact r1 k hk
theorem ux_takesWord {j : Nat} {w : Int64} (hj : j < 15) (ew : w = lN (kwN j)) (tk : tkR b L i M) (hb : ∀ k, k < 1000 → b k < 256) (hL : L ≤ 1000) (hA : G.2.2.1 ≤ m) (hN : 5000 < N) (hi : i ≤ L) (k0 : kwb b L i j = false → ∀ M' D', M' 16 0 = 1 → M' 17 0 = nI (tS b L i) → rk M M' → dk D D' → Q 0 M' D') (k1 : kwb b L i j = true → ∀ M' D', tkR b L (tX b L i) M' → M' 13 0 = nI (tS b L i) → rk2 M M' → dk D D' → Q 1 M' D') : ux G m (qX10_takesWord N m w) M D Q := by
  unfold qX10_takesWord qX10_takesWord_24
  refine ux_call (r_sees hj ew tk hb hL hA hN hi (fun q M1 D1 t1 a3 r1 d1 => ux_itet rfl (ux_gI rfl (ux_call (ux_fails hA (fun M2 b6 b7 r2 => ux_retZ (Or.inl rfl) (k0 q M2 D1 b6 (b7.trans a3) (fun k hk => ?_) d1)))))) (fun q M1 D1 t1 a3 a4 r1 d1 => ux_itef (by decide) (ux_call (ux_passes t1.1 (tW_le hi).2 a4 hA (fun M2 t2 r2 => ux_retZ (Or.inr rfl) (k1 q M2 D1 ?_ ?_ (fun k hk => ?_) d1))))))
  · rw [r2 k (by omega) (by omega)]; exact r1 k (by omega)
  · have : 0 < tN b L i := by
      unfold kwb at q
      simp only [Bool.and_eq_true, decide_eq_true_eq] at q
      exact q.1
    rw [(tX_w hi this).1]; exact t2
  · rw [r2 13 (by omega)]; exact a3
  · rw [r2 k (by omega)]; exact r1 k hk
theorem ux_semi (tk : tkR b L i M) (hb : ∀ k, k < 1000 → b k < 256) (hL : L ≤ 1000) (hA : G.2.2.1 ≤ m) (hN : 5000 < N) (hi : i ≤ L) (k0 : ¬ tK b L i = 2 → ∀ M', M' 16 0 = 1 → M' 17 0 = nI (tS b L i) → rk M M' → Q 0 M' D) (k1 : tK b L i = 2 → ∀ M', tkR b L (tX b L i) M' → rk2 M M' → Q 1 M' D) : ux G m (qX10_readSemicolon N m) M D Q := by
  unfold qX10_readSemicolon
  refine ux_call (ux_peek tk hb hL hA hN hi (fun M1 t1 a1 a3 ek => ?_))
  obtain ⟨_, _, c3, _, _⟩ := bat_32 (b := b) (L := L) (k := tS b L i) hb hL
  refine ux_ite (fun c => ux_gI rfl (ux_p11 hA (ux_retZ (Or.inr rfl) ?_))) (fun c => ux_gI rfl (ux_call (ux_fails hA (fun M2 b6 b7 r2 => ux_retZ (Or.inl rfl) (k0 ?_ M2 b6 (b7.trans a3) (fun k hk => ?_))))))
  · obtain ⟨c, c'⟩ := c3.mp c
    have hk : tK b L i = 2 := by
      rcases tK_cs (b := b) hi with ⟨q, e⟩ | ⟨q, q2, e⟩ | ⟨q, _, _, e⟩ | ⟨q, _, q2, e⟩
      · have := t_lt (b := b) hi q
        rw [Nat.add_zero, c'] at this
        exact absurd this (by decide)
      · omega
      · exact e
      · exact absurd c' q2
    refine k1 hk _ ⟨t1.1, tX b L i, (tX_le hi).2, rfl, ?_⟩ (fun k hk => ?_)
    · show M1 13 0 + (1 : Int32) = _
      rw [a3, (tX_s hi hk).1]; exact nI_sum (b := 1) rfl rfl
    · rw [cset_ne (by omega)]; exact ek k (by omega) (by omega)
  · intro hk
    obtain ⟨_, _, h3, h4, _⟩ := tX_s hi hk
    exact c (c3.mpr ⟨h3, h4⟩)
  · rw [r2 k (by omega) (by omega)]; exact ek k (by omega) (by omega)
theorem q_X10_isKeyword {v : Nat} (e : D 18 0 = lN v) (hv : v < 2 ^ 35) : ∀ z, rX10 z m M D → qX10_isKeyword N m G z = some (b2i (isKw v), z) := by
  intro z hz
  refine gx_eq ?_
  have yes : ∀ j, j < 15 → lg_cmp (lN v) (lN (kwN j)) = 0 → isKw v = true := fun j hj c => by
    have h2 := (kw_pk j hj).2.2
    exact exn_iff.mpr ⟨j, hj, decide_eq_true ((fb_lN_inj (by omega) (by omega)).mp (lcmp_0.mp c)).symm⟩
  have y88 : isKw v = true → gx (qX10_isKeyword_88 N m G z) (fun a z' => a = b2i (isKw v) ∧ z' = z) := fun q => by
    unfold qX10_isKeyword_88 qX10_isKeyword_93 qX10_isKeyword_175 qX10_isKeyword_180
    exact gx_itef (by decide) (gx_retZ (Or.inr rfl) ⟨by rw [q]; rfl, rfl⟩)
  have y175 : isKw v = true → gx (qX10_isKeyword_175 N G z) (fun a z' => a = b2i (isKw v) ∧ z' = z) := fun q => by
    unfold qX10_isKeyword_175 qX10_isKeyword_180
    exact gx_retZ (Or.inr rfl) ⟨by rw [q]; rfl, rfl⟩
  unfold qX10_isKeyword
  refine gx_gJ hz.o (by decide) rfl ?_
  rw [e]
  refine gx_ite (fun c => y88 (yes 0 (by omega) c)) (fun c0 => ?_)
  refine gx_gJ hz.o (by decide) rfl ?_
  rw [e]
  refine gx_ite (fun c => y88 (yes 1 (by omega) c)) (fun c1 => ?_)
  refine gx_gJ hz.o (by decide) rfl ?_
  rw [e]
  refine gx_ite (fun c => y88 (yes 2 (by omega) c)) (fun c2 => ?_)
  refine gx_gJ hz.o (by decide) rfl ?_
  rw [e]
  refine gx_ite (fun c => y88 (yes 3 (by omega) c)) (fun c3 => ?_)
  refine gx_gJ hz.o (by decide) rfl ?_
  rw [e]
  refine gx_ite (fun c => y88 (yes 4 (by omega) c)) (fun c4 => ?_)
  refine gx_gJ hz.o (by decide) rfl ?_
  rw [e]
  refine gx_ite (fun c => y88 (yes 5 (by omega) c)) (fun c5 => ?_)
  refine gx_gJ hz.o (by decide) rfl ?_
  rw [e]
  refine gx_ite (fun c => y88 (yes 6 (by omega) c)) (fun c6 => ?_)
  refine gx_gJ hz.o (by decide) rfl ?_
  rw [e]
  refine gx_ite (fun c => y88 (yes 7 (by omega) c)) (fun c7 => ?_)
  unfold qX10_isKeyword_93
  refine gx_itet rfl ?_
  refine gx_gJ hz.o (by decide) rfl ?_
  rw [e]
  refine gx_ite (fun c => y175 (yes 8 (by omega) c)) (fun c8 => ?_)
  refine gx_gJ hz.o (by decide) rfl ?_
  rw [e]
  refine gx_ite (fun c => y175 (yes 9 (by omega) c)) (fun c9 => ?_)
  refine gx_gJ hz.o (by decide) rfl ?_
  rw [e]
  refine gx_ite (fun c => y175 (yes 10 (by omega) c)) (fun c10 => ?_)
  refine gx_gJ hz.o (by decide) rfl ?_
  rw [e]
  refine gx_ite (fun c => y175 (yes 11 (by omega) c)) (fun c11 => ?_)
  refine gx_gJ hz.o (by decide) rfl ?_
  rw [e]
  refine gx_ite (fun c => y175 (yes 12 (by omega) c)) (fun c12 => ?_)
  refine gx_gJ hz.o (by decide) rfl ?_
  rw [e]
  refine gx_ite (fun c => y175 (yes 13 (by omega) c)) (fun c13 => ?_)
  refine gx_gJ hz.o (by decide) rfl ?_
  rw [e]
  refine gx_ite (fun c => y175 (yes 14 (by omega) c)) (fun c14 => ?_)
  unfold qX10_isKeyword_180
  refine gx_retZ (Or.inl rfl) ⟨?_, rfl⟩
  have no : isKw v = false := exn_no.mpr (fun j hj => decide_eq_false (fun q => by
    rcases (show j = 0 ∨ j = 1 ∨ j = 2 ∨ j = 3 ∨ j = 4 ∨ j = 5 ∨ j = 6 ∨ j = 7 ∨ j = 8 ∨ j = 9 ∨ j = 10 ∨ j = 11 ∨ j = 12 ∨ j = 13 ∨ j = 14 by omega) with h | h | h | h | h | h | h | h | h | h | h | h | h | h | h <;> subst h <;> rw [← q] at c0 c1 c2 c3 c4 c5 c6 c7 c8 c9 c10 c11 c12 c13 c14
    · exact c0 (lcmp_0.mpr rfl)
    · exact c1 (lcmp_0.mpr rfl)
    · exact c2 (lcmp_0.mpr rfl)
    · exact c3 (lcmp_0.mpr rfl)
    · exact c4 (lcmp_0.mpr rfl)
    · exact c5 (lcmp_0.mpr rfl)
    · exact c6 (lcmp_0.mpr rfl)
    · exact c7 (lcmp_0.mpr rfl)
    · exact c8 (lcmp_0.mpr rfl)
    · exact c9 (lcmp_0.mpr rfl)
    · exact c10 (lcmp_0.mpr rfl)
    · exact c11 (lcmp_0.mpr rfl)
    · exact c12 (lcmp_0.mpr rfl)
    · exact c13 (lcmp_0.mpr rfl)
    · exact c14 (lcmp_0.mpr rfl)))
  rw [no]; rfl
theorem ux_name (tk : tkR b L i M) (hb : ∀ k, k < 1000 → b k < 256) (hL : L ≤ 1000) (hA : G.2.2.1 ≤ m) (hN : 5000 < N) (hi : i ≤ L) (k0 : tM b L i = none → ∀ M' D', M' 16 0 = 1 → M' 17 0 = nI (tS b L i) → rk M M' → dk D D' → Q 0 M' D') (k1 : ∀ v, tM b L i = some v → ∀ M' D', tkR b L (tX b L i) M' → M' 13 0 = nI (tS b L i) → D' 18 0 = lN v → rk2 M M' → dk D D' → Q 1 M' D') : ux G m (qX10_readName N m) M D Q := by
  unfold qX10_readName
  refine ux_call (ux_word tk hb hL hA hN hi (fun q M1 b6 b7 r1 => ?_) (fun q M1 D1 t1 a3 a5 a8 r1 d1 => ?_))
  · unfold qX10_readName_38 qX10_readName_39
    refine ux_itet rfl (ux_retZ (Or.inl rfl) (k0 ?_ M1 D b6 b7 r1 dk_rf))
    unfold tM; rw [q]; rfl
  · have bad : tM b L i = none → ux G m (qX10_readName_22 N m) M1 D1 Q := fun q2 => by
      unfold qX10_readName_22 qX10_readName_38 qX10_readName_39
      refine ux_gI rfl (ux_call (ux_fails hA (fun M2 b6 b7 r2 => ux_itet rfl (ux_retZ (Or.inl rfl) (k0 q2 M2 D1 b6 (b7.trans a3) (fun k hk => ?_) d1)))))
      rw [r2 k (by omega) (by omega)]; exact r1 k (by omega)
    have hn9 : tN b L i ≤ 1000 := by have := (tW_le (b := b) hi).2; unfold tN; omega
    refine ux_itef (by decide) (ux_gI rfl ?_)
    rw [a5]
    by_cases q5 : 5 < tN b L i
    · refine ux_itet ((nI_ltI (a := 5) (by omega) (by omega)).mpr q5) (bad ?_)
      unfold tM
      rw [decide_eq_false (show ¬ tN b L i ≤ 5 by omega), Bool.false_and, Bool.and_false]; rfl
    · refine ux_itef (fun c => q5 ((nI_ltI (a := 5) (by omega) (by omega)).mp c)) (ux_rE (q_X10_isKeyword a8 (tV_lt hi)) ?_)
      cases ek : isKw (tV b L i)
      · unfold qX10_readName_34 qX10_readName_39
        refine ux_itet rfl (ux_retZ (Or.inr rfl) (k1 (tV b L i) ?_ M1 D1 t1 a3 a8 r1 d1))
        unfold tM
        rw [ek, decide_eq_true q, decide_eq_true (show tN b L i ≤ 5 by omega)]; rfl
      · refine ux_itef (by decide) (bad ?_)
        unfold tM
        rw [ek, Bool.not_true, Bool.and_false, Bool.and_false]; rfl
theorem ux_area {w n f : Nat} (hw : ∀ M' D' z, rX10 z m M' D' → z.1 w = some (.inl (2, (20, .inr (.inl (D' f)))))) (hf : ¬ f = 18) (hn : n ≤ 16) (tk : tkR b L i M) (hb : ∀ k, k < 1000 → b k < 256) (hL : L ≤ 1000) (hA : G.2.2.1 ≤ m) (hN : 5000 < N) (hi : i ≤ L) (k0 : tM b L i = none → ∀ M' D', M' 16 0 = 1 → M' 17 0 = nI (tS b L i) → rk M M' → dk D D' → Q 0 M' D') (k1 : ∀ v, tM b L i = some v → fd (fun k => decide (D f (0 + k) = lN v)) 0 n = none → ∀ M' D', M' 16 0 = 2 → M' 17 0 = nI (tS b L i) → rk M M' → dk D D' → Q 0 M' D') (k2 : ∀ v k, tM b L i = some v → fd (fun k => decide (D f (0 + k) = lN v)) 0 n = some k → ∀ M' D', tkR b L (tX b L i) M' → M' 13 0 = nI (tS b L i) → M' 19 0 = nI k → M' 16 = M 16 → M' 17 = M 17 → rk M M' → dk D D' → Q 1 M' D') : ux G m (qX10_readArea N m w (nI n)) M D Q := by
  unfold qX10_readArea
  refine ux_call (ux_name tk hb hL hA hN hi (fun q M1 D1 b6 b7 r1 d1 => ux_itet rfl (ux_retZ (Or.inl rfl) (k0 q M1 D1 b6 b7 r1 d1))) (fun v q M1 D1 t1 a3 a8 r1 d1 => ux_itef (by decide) (ux_gJ rfl ?_)))
  rw [a8]
  refine ux_E (fun z hz => q_X10_numberOf (f := 0) (n := n) (hw M1 D1 z hz) (by omega) (by omega) (by omega)) (ux_p19 hA (ux_gI rfl ?_))
  rw [d1 f hf]
  cases ef : fd (fun k => decide (D f (0 + k) = lN v)) 0 n with
  | none =>
    unfold qX10_readArea_48
    refine ux_itet rfl (ux_gI rfl (ux_call (ux_fails hA (fun M2 b6 b7 r2 => ux_itet rfl (ux_retZ (Or.inl rfl) (k1 v q ef M2 D1 b6 (b7.trans a3) (fun k hk => ?_) d1))))))
    rw [r2 k (by omega) (by omega), cset_ne (by omega)]; exact r1 k (by omega)
  | some k =>
    have hk := (fd_some ef).2.1
    unfold qX10_readArea_43 qX10_readArea_48
    refine ux_itef (nI_m1 (by omega)) (ux_retZ (Or.inr rfl) (k2 v k q ef _ D1 ⟨t1.1, t1.2⟩ a3 rfl ?_ ?_ (fun r hr => ?_) d1))
    · rw [cset_ne (by omega)]; exact r1 16 (by omega)
    · rw [cset_ne (by omega)]; exact r1 17 (by omega)
    · rw [cset_ne (by omega)]; exact r1 r (by omega)
end
