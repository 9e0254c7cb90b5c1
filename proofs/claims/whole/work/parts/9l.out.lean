/-! the output: bytes, names, texts (by program) -/
theorem s_l64 : ∀ n, n < 64 → (((nI n).toInt64 &&& 63).toBitVec.smod 64).toNat = n := by decide +kernel
theorem sr32 {w s : Nat} (hw : w < 2 ^ 25) (hs : s < 32) : osshr (nI w) (nI s) = nI (w / 2 ^ s) := by
  refine b_ext (fun i hi => ?_)
  unfold osshr
  rw [b_sshr s hs (nI w) hi]
  have e : ∀ k v, k < 32 → bt (nI v) k = v.testBit k := fun k v hk => by
    unfold bt
    show (BitVec.ofNat 32 v).getLsbD k = _
    rw [BitVec.getLsbD_ofNat, decide_eq_true hk, Bool.true_and]
  rw [e i _ hi, Nat.testBit_div_two_pow, Nat.add_comm i s]
  by_cases q : s + i < 32
  · rw [if_pos q, e _ _ q]
  · rw [if_neg q, e 31 _ (by omega), Nat.testBit_lt_two_pow (Nat.lt_of_lt_of_le hw (Nat.pow_le_pow_right (by omega) (by omega))), Nat.testBit_lt_two_pow (Nat.lt_of_lt_of_le hw (Nat.pow_le_pow_right (by omega) (by omega)))]
theorem sr64 {w s : Nat} (hw : w < 2 ^ 40) (hs : s < 64) : oslshr (lN w) (nI s) = lN (w / 2 ^ s) := by
  apply Int64.toBitVec_inj.mp
  unfold oslshr
  rw [Int64.toBitVec_shiftRight]
  show (lN w).toBitVec.sshiftRight (((nI s).toInt64 &&& 63).toBitVec.smod 64).toNat = _
  rw [s_l64 s hs]
  apply BitVec.eq_of_getLsbD_eq
  intro i hi
  rw [BitVec.getLsbD_sshiftRight, BitVec.msb_eq_getLsbD_last]
  show (!decide (64 ≤ i) && if s + i < 64 then (BitVec.ofNat 64 w).getLsbD (s + i) else (BitVec.ofNat 64 w).getLsbD (64 - 1)) = (BitVec.ofNat 64 (w / 2 ^ s)).getLsbD i
  rw [decide_eq_false (show ¬ 64 ≤ i by omega), BitVec.getLsbD_ofNat, BitVec.getLsbD_ofNat, BitVec.getLsbD_ofNat, decide_eq_true hi, Nat.testBit_div_two_pow, Nat.add_comm i s]
  by_cases q : s + i < 64
  · rw [if_pos q, decide_eq_true q]; simp
  · rw [if_neg q, Nat.testBit_lt_two_pow (Nat.lt_of_lt_of_le hw (Nat.pow_le_pow_right (by omega) (by omega))), Nat.testBit_lt_two_pow (Nat.lt_of_lt_of_le hw (Nat.pow_le_pow_right (by omega) (by omega)))]; simp
theorem an32 {a : Nat} : nI a &&& (31 : Int32) = nI (a % 32) := by
  have := nx_and a 31
  rw [show a &&& 31 = a % 32 from Nat.and_two_pow_sub_one_eq_mod a 5] at this
  exact this
theorem an64 {a : Nat} : lN a &&& (31 : Int64) = lN (a % 32) := by
  apply Int64.toBitVec_inj.mp
  show BitVec.ofNat 64 a &&& BitVec.ofNat 64 31 = BitVec.ofNat 64 (a % 32)
  rw [← show a &&& 31 = a % 32 from Nat.and_two_pow_sub_one_eq_mod a 5]
  apply BitVec.eq_of_getLsbD_eq
  intro i hi
  simp [hi]
theorem lnI : ∀ b, b < 32 → (lN b).toInt32 = nI b := by decide +kernel
/-- what has been written: the bytes bs -/
def oL (O : Nat → Nat → Int32) (bs : List Int32) : Prop := O 1 0 = nI bs.length ∧ ∀ k, k < bs.length → O 0 k = bs.getD k 0
def rL (M : Nat → Nat → Int32) (bs : List Int32) : Prop := M 42 0 = nI bs.length ∧ ∀ k, k < bs.length → M 41 k = bs.getD k 0
theorem app_1 {bs : List Int32} {v : Int32} {f : Nat → Int32} (h : ∀ k, k < bs.length → f k = bs.getD k 0) (k : Nat) (hk : k < (bs ++ [v]).length) : (if k = bs.length then v else f k) = (bs ++ [v]).getD k 0 := by
  have hk' : k < bs.length + 1 := by rw [List.length_append] at hk; exact hk
  by_cases e : k = bs.length
  · subst e
    rw [if_pos rfl]
    simp [List.getD]
  · rw [if_neg e, h k (by omega)]
    simp [List.getD, List.getElem?_append_left (show k < bs.length by omega)]
theorem by_cv : ∀ b, b < 128 → vp_nar .byte ((nI b).toInt8.toInt32) = nI b := by decide +kernel
section
variable {G : osG} {z : osS} {N o m : Nat} {O M : Nat → Nat → Int32} {D : Nat → Nat → Int64} {bs : List Int32}
theorem q_X4_putByte (h : rX4 z o O) (hb : oL O bs) (hl : bs.length < 360) {b : Nat} (h128 : b < 128) (hA : G.2.2.1 ≤ o) : gx (qX4_putByte N o (nI b) G z) (fun _ z' => osFr o (o + 2) z z' ∧ ∃ O', rX4 z' o O' ∧ oL O' (bs ++ [nI b])) := by
  unfold qX4_putByte qX4_putByte_38
  obtain ⟨e1, e0⟩ := hb
  refine gx_gI h.o (by decide) rfl ?_
  rw [e1]
  refine gx_itef (nI_pos (by omega)) (gx_gI h.o (by decide) rfl ?_)
  rw [e1]
  refine gx_itef (nI_ge (a := bs.length) (b := 360) hl (by omega)) (gx_gR h.o (by decide) rfl (gx_gI h.o (by decide) rfl (h.s0 e1 hl hA (fun z2 f2 h2 => gx_gI h2.o (by decide) rfl (h2.p1 (by decide) hA (fun z3 f3 h3 => gx_ret ⟨f2.tr f3, _, h3, ?_, fun k hk => ?_⟩))))))
  · show O 1 0 + (1 : Int32) = _
    rw [e1, List.length_append]; exact nI_sum (b := 1) rfl rfl
  · show (if k = bs.length then vp_nar .byte ((nI b).toInt8.toInt32) else O 0 k) = _
    rw [by_cv b h128]; exact app_1 e0 k hk
theorem q_X10_writes (h : rX10 z m M D) (hb : rL M bs) (hl : bs.length < 600) {v : Int32} (hA : G.2.2.1 ≤ m) : gx (qX10_writes N m v G z) (fun _ z' => osFr m (m + 21) z z' ∧ ∃ M', rX10 z' m M' D ∧ rL M' (bs ++ [v]) ∧ ∀ k, ¬ k = 41 → ¬ k = 42 → M' k = M k) := by
  unfold qX10_writes
  obtain ⟨e1, e0⟩ := hb
  refine gx_gR h.o (by decide) rfl (gx_gI h.o (by decide) rfl (h.s41 e1 hl hA (fun z2 f2 h2 => gx_gI h2.o (by decide) rfl (h2.p42 (by decide) hA (fun z3 f3 h3 => gx_ret ⟨f2.tr f3, _, h3, ⟨?_, fun k hk => ?_⟩, fun k q1 q2 => ?_⟩)))))
  · show M 42 0 + (1 : Int32) = _
    rw [e1, List.length_append]; exact nI_sum (b := 1) rfl rfl
  · show (if k = bs.length then v else M 41 k) = _
    exact app_1 e0 k hk
  · rw [cset_ne q2, cset_ne q1]
/-- a name's letters, from the first group of five bits on -/
def nGr (w i : Nat) : Nat := w / 2 ^ (20 - 5 * i) % 32
def nmL (w : Nat) : Nat → List Int32
  | 0 => []
  | i + 1 => nmL w i ++ (if nGr w i = 0 then [] else [nI (96 + nGr w i)])
theorem nmL_le {w : Nat} : ∀ i, (nmL w i).length ≤ i
  | 0 => Nat.le_refl 0
  | i + 1 => by
    have := nmL_le (w := w) i
    unfold nmL
    rw [List.length_append]
    split <;> simp <;> omega
def shN : Nat → Int32
  | 0 => 20
  | 1 => 15
  | 2 => 10
  | 3 => 5
  | 4 => 0
  | _ => -5
theorem shN_n {i : Nat} (h : i < 5) : shN i = nI (20 - 5 * i) ∧ shN i + (-5 : Int32) = shN (i + 1) := by
  rcases (show i = 0 ∨ i = 1 ∨ i = 2 ∨ i = 3 ∨ i = 4 by omega) with e | e | e | e | e <;> subst e <;> decide
theorem q_X4_putName (h : rX4 z o O) (hb : oL O bs) {w : Nat} (hw : w < 2 ^ 25) (hl : bs.length + 5 ≤ 360) (hA : G.2.2.1 ≤ o) (hN : 5000 < N) : gx (qX4_putName N o (nI w) G z) (fun _ z' => osFr o (o + 2) z z' ∧ ∃ O', rX4 z' o O' ∧ oL O' (bs ++ nmL w 5)) := by
  unfold qX4_putName
  refine gx_loop 5 (fun i p z' => p = (o, nI w, shN i) ∧ osFr o (o + 2) z z' ∧ ∃ O', rX4 z' o O' ∧ oL O' (bs ++ nmL w i)) ?_ ?_ N 0 _ z (Nat.zero_le _) (by omega) ⟨rfl, osFr.rf, O, h, by rw [show nmL w 0 = [] from rfl, List.append_nil]; exact hb⟩
  · rintro ih i p z' hi ⟨rfl, fr, O', h', e⟩ k
    show gx (bX4_putName_3 N ih o (nI w) (shN i) G z') _
    unfold bX4_putName_3 qX4_putName_28
    obtain ⟨s1, s2⟩ := shN_n hi
    have hg : nGr w i < 32 := Nat.mod_lt _ (by decide)
    rw [s2, s1]
    refine gx_itef (nI_pos (by omega)) (gx_retb ?_)
    rw [sr32 hw (by omega), an32]
    show gx (osite (nI (nGr w i) = 0) _ _ G z') _
    refine gx_ite (fun c => k _ _ ⟨rfl, fr, O', h', ?_⟩) (fun c => ?_)
    · have c := (nI_00 (by omega)).mp c
      rw [nmL, if_pos c, List.append_nil]; exact e
    · have c' : ¬ nGr w i = 0 := fun q => c ((nI_00 (by omega)).mpr q)
      have hle := nmL_le (w := w) i
      have e97 : (97 : Int32) + nI (w / 2 ^ (20 - 5 * i) % 32) - (1 : Int32) = nI (96 + nGr w i) := by
        rw [show (97 : Int32) + nI (w / 2 ^ (20 - 5 * i) % 32) = nI (97 + nGr w i) from nI_sum rfl rfl, show nI (97 + nGr w i) - (1 : Int32) = nI (97 + nGr w i - 1) from nI_sub (a := 97 + nGr w i) (b := 1) (by omega), show 97 + nGr w i - 1 = 96 + nGr w i by omega]
      rw [e97]
      refine gx_recvQ h'.o (by decide) (q_X4_putByte h' e (by rw [List.length_append]; omega) (by omega) hA) (fun _ z2 ⟨f2, O2, h2, e2⟩ => k _ _ ⟨rfl, fr.tr f2, O2, h2, ?_⟩)
      rw [nmL, if_neg c', ← List.append_assoc]; exact e2
  · rintro ih p z' ⟨rfl, fr, O', h', e⟩
    show gx (bX4_putName_3 N ih o (nI w) (shN 5) G z') _
    unfold bX4_putName_3
    exact gx_itet (by decide) (gx_ret ⟨fr, O', h', e⟩)
end
