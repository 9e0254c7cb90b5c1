/-! the output: texts; the reference's words (by program) -/
theorem osfind_0 {G : osG} {j : Nat} (hI : osInj G) (hj : j < 6) : osfind G 0 (G.2.2.2.2 j) = some j := by
  cases h : osfind G 0 (G.2.2.2.2 j) with
  | none =>
    unfold osfind at h
    have := List.find?_eq_none.mp h j (List.mem_range.mpr hj)
    simp at this
  | some i =>
    obtain ⟨h1, h2⟩ := osfind_some h
    rw [Nat.zero_add] at h2
    rw [hI.2.1 i j h1 hj h2]
theorem osfind_100 {G : osG} {j : Nat} (hI : osInj G) (hj : j < 6) : osfind G 100 (G.2.2.2.2 (100 + j)) = some j := by
  cases h : osfind G 100 (G.2.2.2.2 (100 + j)) with
  | none =>
    unfold osfind at h
    have := List.find?_eq_none.mp h j (List.mem_range.mpr hj)
    simp at this
  | some i =>
    obtain ⟨h1, h2⟩ := osfind_some h
    rw [hI.2.2 i j h1 hj h2]
def txt (j : Nat) : List Int32 := osTs.getD j []
theorem txt_len : ∀ j, j < 6 → (txt j).length ≤ 9 := by decide +kernel
theorem txt_sh : ∀ j, j < 6 → osshr (Int32.ofNat (txt j).length) 0 = nI (txt j).length := by decide +kernel
theorem txt_by : ∀ j, j < 6 → ∀ i, i < (txt j).length → ((((txt j).getD i 0) &&& (255 : Int32)).toUInt32 % 65536).toInt32 = (txt j).getD i 0 ∧ ((txt j).getD i 0).toUInt32.toUInt16.toUInt32.toInt32 = (txt j).getD i 0 ∧ (txt j).take (i + 1) = (txt j).take i ++ [(txt j).getD i 0] ∧ (∃ b, b < 128 ∧ (txt j).getD i 0 = nI b) := by
  intro j hj i hi
  have h : ∀ j, j < 6 → ∀ i, i < (txt j).length → ((((txt j).getD i 0) &&& (255 : Int32)).toUInt32 % 65536).toInt32 = (txt j).getD i 0 ∧ ((txt j).getD i 0).toUInt32.toUInt16.toUInt32.toInt32 = (txt j).getD i 0 ∧ (txt j).take (i + 1) = (txt j).take i ++ [(txt j).getD i 0] ∧ (tn ((txt j).getD i 0) < 128 ∧ (txt j).getD i 0 = nI (tn ((txt j).getD i 0))) := by decide +kernel
  obtain ⟨a, b, c, d⟩ := h j hj i hi
  exact ⟨a, b, c, _, d⟩
section
variable {G : osG} {z : osS} {N o m : Nat} {O M : Nat → Nat → Int32} {D : Nat → Nat → Int64} {bs : List Int32}
theorem gx_onstr {α : Type} {Q : α → osS → Prop} {g : osM α} {j : Nat} (hI : osInj G) (hj : j < 6) (k : gx (g G z) Q) : gx (osonstr (G.2.2.2.2 j) g G z) Q := by
  unfold osonstr
  rw [osfind_0 hI hj]; exact k
theorem q_length {j : Nat} (hI : osInj G) (hj : j < 6) : gx (qJ0_length_8abf5 N (G.2.2.2.2 j) G z) (fun v z' => v = nI (txt j).length ∧ z' = z) := by
  unfold qJ0_length_8abf5
  refine gx_callE (b := G.2.2.2.2 (100 + j)) (z1 := z) (by unfold ossval; rw [osfind_0 hI hj]) (gx_callE (b := Int32.ofNat (txt j).length) (z1 := z) (by unfold osblen; rw [osfind_100 hI hj]; rfl) (gx_call (gx_onstr (Q := fun v z' => v = 0 ∧ z' = z) hI hj ?_) (fun v z1 ⟨e1, e2⟩ => ?_)))
  · unfold qJ0_coder_7d493 qJ0_coder_7d493_14
    exact gx_itef (by decide) (gx_callE (b := 0) (z1 := z) (by unfold osscod; rw [osfind_0 hI hj]) ⟨0, z, by unfold osretB; rw [if_pos (by decide)], rfl, rfl⟩)
  · subst e1; subst e2
    exact gx_ret ⟨txt_sh j hj, rfl⟩
theorem q_charAt {j i : Nat} (hI : osInj G) (hj : j < 6) (hi : i < (txt j).length) : gx (qJ0_charAt_5068e N (G.2.2.2.2 j) (nI i) G z) (fun v z' => v = (txt j).getD i 0 ∧ z' = z) := by
  have h9 := txt_len j hj
  obtain ⟨b1, b2, b3, _⟩ := txt_by j hj i hi
  unfold qJ0_charAt_5068e
  refine gx_call (gx_onstr (Q := fun v z' => v = 1 ∧ z' = z) hI hj ?_) (fun v z1 ⟨e1, e2⟩ => ?_)
  · unfold qJ0_isLatin1_aae02 qJ0_isLatin1_aae02_18 qJ0_isLatin1_aae02_17
    exact gx_itef (by decide) (gx_callE (b := 0) (z1 := z) (by unfold osscod; rw [osfind_0 hI hj]) (gx_itet rfl (gx_retZ (Or.inr rfl) ⟨rfl, rfl⟩)))
  · subst e1; subst e2
    refine gx_itef (by decide) (gx_callE (b := G.2.2.2.2 (100 + j)) (z1 := z1) (by unfold ossval; rw [osfind_0 hI hj]) ?_)
    have hc : qJ1_charAt_3b067 N (G.2.2.2.2 (100 + j)) (nI i) G z1 = some ((txt j).getD i 0, z1) := by
      refine gx_eq ?_
      unfold qJ1_charAt_3b067 qJ0_checkIndex_df160 qJ3_checkIndex_8e157
      refine gx_callE (b := Int32.ofNat (txt j).length) (z1 := z1) (by unfold osblen; rw [osfind_100 hI hj]; rfl) (gx_bind (gx_bind (gx_itef (nI_pos (by omega)) (gx_itet ((nI_ltI (a := i) (b := (txt j).length) (by omega) (by omega)).mpr hi) (gx_ret (gx_ret ?_))))))
      refine gx_callE (b := (txt j).getD i 0) (z1 := z1) (by
        unfold osbld; rw [osfind_100 hI hj]
        show (if osin (nI i) (txt j).length then some ((txt j).getD (nI i).toNatClampNeg 0, z1) else none) = _
        rw [if_pos (nI_in hi (by omega)), nI_clamp (by omega)]) ?_
      rw [b1]
      exact ⟨_, z1, by unfold osretC; rw [if_pos b2], rfl, rfl⟩
    exact gx_callE hc ⟨_, z1, by unfold osretC; rw [if_pos b2], rfl, rfl⟩
theorem q_X4_putText {j : Nat} (hI : osInj G) (hj : j < 6) (h : rX4 z o O) (hb : oL O bs) (hl : bs.length + (txt j).length ≤ 360) (hA : G.2.2.1 ≤ o) (hN : 5000 < N) : gx (qX4_putText N o (G.2.2.2.2 j) G z) (fun _ z' => osFr o (o + 2) z z' ∧ ∃ O', rX4 z' o O' ∧ oL O' (bs ++ txt j)) := by
  have h9 := txt_len j hj
  unfold qX4_putText
  refine gx_loop (txt j).length (fun i p z' => p = (o, G.2.2.2.2 j, nI i) ∧ osFr o (o + 2) z z' ∧ ∃ O', rX4 z' o O' ∧ oL O' (bs ++ (txt j).take i)) ?_ ?_ N 0 _ z (Nat.zero_le _) (by omega) ⟨rfl, osFr.rf, O, h, by rw [List.take_zero, List.append_nil]; exact hb⟩
  · rintro ih i p z' hi ⟨rfl, fr, O', h', e⟩ k
    show gx (bX4_putText_2 N ih o (G.2.2.2.2 j) (nI i) G z') _
    unfold bX4_putText_2
    obtain ⟨b1, b2, b3, b, hb2, hb3⟩ := txt_by j hj i hi
    refine gx_call (gx_onstr hI hj (q_length hI hj)) (fun v z1 ⟨e1, e2⟩ => ?_)
    subst e1; subst e2
    refine gx_itef (nI_ge hi (by omega)) (gx_call (gx_onstr hI hj (q_charAt hI hj hi)) (fun v z2 ⟨e1, e2⟩ => ?_))
    subst e1; subst e2
    rw [hb3] at b3 ⊢
    refine gx_recvQ h'.o (by decide) (q_X4_putByte h' e (by rw [List.length_append, List.length_take]; omega) hb2 hA) (fun _ z3 ⟨f3, O3, h3, e3⟩ => k _ _ ⟨congrArg (fun t => (_, _, t)) (nI_sum (b := 1) rfl rfl), fr.tr f3, O3, h3, ?_⟩)
    rw [b3, ← List.append_assoc]; exact e3
  · rintro ih p z' ⟨rfl, fr, O', h', e⟩
    show gx (bX4_putText_2 N ih o (G.2.2.2.2 j) (nI (txt j).length) G z') _
    unfold bX4_putText_2
    refine gx_call (gx_onstr hI hj (q_length hI hj)) (fun v z1 ⟨e1, e2⟩ => ?_)
    subst e1; subst e2
    rw [List.take_length] at e
    exact gx_itet ((nI_leI (by omega) (by omega)).mpr (Nat.le_refl _)) (gx_ret ⟨fr, O', h', e⟩)
def shW : Nat → Int32
  | 0 => 35
  | 1 => 30
  | 2 => 25
  | 3 => 20
  | 4 => 15
  | 5 => 10
  | 6 => 5
  | 7 => 0
  | _ => -5
theorem shW_n {i : Nat} (h : i < 8) : shW i = nI (35 - 5 * i) ∧ nI (35 - 5 * i) - (5 : Int32) = shW (i + 1) := by
  rcases (show i = 0 ∨ i = 1 ∨ i = 2 ∨ i = 3 ∨ i = 4 ∨ i = 5 ∨ i = 6 ∨ i = 7 by omega) with e | e | e | e | e | e | e | e <;> subst e <;> decide
/-- the letters of a word of eight -/
def gW (w i : Nat) : Nat := w / 2 ^ (35 - 5 * i) % 32
def wrL (w : Nat) : Nat → List Int32
  | 0 => []
  | i + 1 => wrL w i ++ (if gW w i = 0 then [] else [nI (96 + gW w i)])
theorem wrL_le {w : Nat} : ∀ i, (wrL w i).length ≤ i
  | 0 => Nat.le_refl 0
  | i + 1 => by
    have := wrL_le (w := w) i
    unfold wrL
    rw [List.length_append]
    split <;> simp <;> omega
theorem wrL_nm {w : Nat} (hw : w < 2 ^ 25) : wrL w 8 = nmL w 5 := by
  have z0 : gW w 0 = 0 := by unfold gW; rw [Nat.div_eq_of_lt (Nat.lt_of_lt_of_le hw (by decide))]
  have z1 : gW w 1 = 0 := by unfold gW; rw [Nat.div_eq_of_lt (Nat.lt_of_lt_of_le hw (by decide))]
  have z2 : gW w 2 = 0 := by unfold gW; rw [Nat.div_eq_of_lt (Nat.lt_of_lt_of_le hw (by decide))]
  simp only [wrL, nmL, z0, z1, z2, if_true, List.append_nil, List.nil_append]
  rfl
theorem q_X10_writesWord {w : Nat} (h : rX10 z m M D) (hb : rL M bs) (hw : w < 2 ^ 40) (hl : bs.length + 8 ≤ 600) (hA : G.2.2.1 ≤ m) (hN : 5000 < N) : gx (qX10_writesWord N m (lN w) G z) (fun _ z' => osFr m (m + 21) z z' ∧ ∃ M', rX10 z' m M' D ∧ rL M' (bs ++ wrL w 8) ∧ ∀ k, ¬ k = 41 → ¬ k = 42 → M' k = M k) := by
  unfold qX10_writesWord
  refine gx_loop 8 (fun i p z' => p = (m, lN w, shW i) ∧ osFr m (m + 21) z z' ∧ ∃ M', rX10 z' m M' D ∧ rL M' (bs ++ wrL w i) ∧ ∀ k, ¬ k = 41 → ¬ k = 42 → M' k = M k) ?_ ?_ N 0 _ z (Nat.zero_le _) (by omega) ⟨rfl, osFr.rf, M, h, by rw [show wrL w 0 = [] from rfl, List.append_nil]; exact hb, fun _ _ _ => rfl⟩
  · rintro ih i p z' hi ⟨rfl, fr, M', h', e, er⟩ k
    show gx (bX10_writesWord_3 N ih m (lN w) (shW i) G z') _
    unfold bX10_writesWord_3 qX10_writesWord_31
    obtain ⟨s1, s2⟩ := shW_n hi
    have hg : gW w i < 32 := Nat.mod_lt _ (by decide)
    rw [s1]
    refine gx_itef (nI_pos (by omega)) (gx_retb ?_)
    rw [sr64 hw (by omega), an64, lnI _ (Nat.mod_lt _ (by decide)), s2]
    have hle := wrL_le (w := w) i
    refine gx_ite (fun c => k _ _ ⟨rfl, fr, M', h', ?_, er⟩) (fun c => gx_recvQ h'.o (by decide) (q_X10_writes h' e (by rw [List.length_append]; omega) hA) (fun _ z2 ⟨f2, M2, h2, e2, r2⟩ => k _ _ ⟨rfl, fr.tr f2, M2, h2, ?_, fun r q1 q2 => (r2 r q1 q2).trans (er r q1 q2)⟩))
    · have c : gW w i = 0 := by have := (nI_leI (a := gW w i) (b := 0) (by omega) (by omega)).mp c; omega
      rw [wrL, if_pos c, List.append_nil]; exact e
    · have c' : ¬ gW w i = 0 := fun q => c ((nI_leI (a := gW w i) (b := 0) (by omega) (by omega)).mpr (by omega))
      rw [wrL, if_neg c', ← List.append_assoc]
      have e97 : (96 : Int32) + nI (w / 2 ^ (35 - 5 * i) % 32) = nI (96 + gW w i) := nI_sum rfl rfl
      rw [e97] at e2; exact e2
  · rintro ih p z' ⟨rfl, fr, M', h', e, er⟩
    show gx (bX10_writesWord_3 N ih m (lN w) (shW 8) G z') _
    unfold bX10_writesWord_3
    exact gx_itet (by decide) (gx_ret ⟨fr, M', h', e, er⟩)
theorem q_X10_writesNext {w : Nat} (h : rX10 z m M D) (hb : rL M bs) (hw : w < 2 ^ 40) (hl : bs.length + 9 ≤ 600) (hA : G.2.2.1 ≤ m) (hN : 5000 < N) : gx (qX10_writesNext N m (lN w) G z) (fun _ z' => osFr m (m + 21) z z' ∧ ∃ M', rX10 z' m M' D ∧ rL M' (bs ++ (32 :: wrL w 8)) ∧ ∀ k, ¬ k = 41 → ¬ k = 42 → M' k = M k) := by
  unfold qX10_writesNext
  refine gx_recvQ h.o (by decide) (q_X10_writes h hb (by omega) hA) (fun _ z2 ⟨f2, M2, h2, e2, r2⟩ => gx_recvQ h2.o (by decide) (q_X10_writesWord h2 e2 hw (by rw [List.length_append]; simp; omega) hA hN) (fun _ z3 ⟨f3, M3, h3, e3, r3⟩ => gx_ret ⟨f2.tr f3, M3, h3, ?_, fun r q1 q2 => (r3 r q1 q2).trans (r2 r q1 q2)⟩))
  rw [List.append_assoc] at e3; exact e3
end
