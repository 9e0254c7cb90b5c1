/-! a State's greater writes (by program) -/
theorem nI_div {a b : Nat} (ha : a < 2 ^ 31) (hb : b < 2 ^ 31) : nI a / nI b = nI (a / b) := by
  apply Int32.toBitVec_inj.mp
  rw [Int32.toBitVec_div]
  show BitVec.sdiv (BitVec.ofNat 32 a) (BitVec.ofNat 32 b) = BitVec.ofNat 32 (a / b)
  have m1 : (BitVec.ofNat 32 a).msb = false := by rw [BitVec.msb_eq_false_iff_two_mul_lt, BitVec.toNat_ofNat, Nat.mod_eq_of_lt (by omega)]; omega
  have m2 : (BitVec.ofNat 32 b).msb = false := by rw [BitVec.msb_eq_false_iff_two_mul_lt, BitVec.toNat_ofNat, Nat.mod_eq_of_lt (by omega)]; omega
  unfold BitVec.sdiv
  rw [m1, m2]
  apply BitVec.eq_of_toNat_eq
  have h3 : a / b ≤ a := Nat.div_le_self a b
  show (BitVec.udiv (BitVec.ofNat 32 a) (BitVec.ofNat 32 b)).toNat = _
  rw [show BitVec.udiv (BitVec.ofNat 32 a) (BitVec.ofNat 32 b) = BitVec.ofNat 32 a / BitVec.ofNat 32 b from rfl, BitVec.toNat_udiv, BitVec.toNat_ofNat, BitVec.toNat_ofNat, BitVec.toNat_ofNat, Nat.mod_eq_of_lt (by omega), Nat.mod_eq_of_lt (by omega), Nat.mod_eq_of_lt (by omega)]
theorem mod_nI {a b : Nat} (ha : a < 2 ^ 31) (hb : b < 2 ^ 31) : nI a - nI a / nI b * nI b = nI (a % b) := by
  rw [nI_div ha hb, nI_prod rfl rfl, nI_sub (Nat.div_mul_le_self a b), Nat.mod_eq_sub_div_mul]
theorem mod2_nI {t : Nat} (h : t < 2 ^ 31) : nI t - nI t / (2 : Int32) * (2 : Int32) = 0 ↔ t % 2 = 0 := by
  rw [show (2 : Int32) = nI 2 from rfl, mod_nI h (by omega), show (0 : Int32) = nI 0 from rfl]
  exact nI_eq (by omega) (by omega)
theorem q_countOf16 {G : osG} {z : osS} {N a : Nat} {f : Nat → Int32} {v : Int32} (h : z.1 a = some (.inl (0, (16, .inl f)))) (hN : 16 < N) : qX5_countOf N a v G z = some (nI (ct f v), z) := q_countOf h (by omega) hN
def begun (S : Nat → Nat → Int32) : Nat → Nat → Int32 := osit (fun a W => stHA a W) 0 16 (cset (cset S 1 fun _ => S 1 0 + (1 : Int32)) 0 fun _ => (0 : Int32))
theorem q_X5_beginTurn {G : osG} {z : osS} {N : Nat} {s : Nat} {S : Nat → Nat → Int32} (h : rX5 z s S) (hA : G.2.2.1 ≤ s) (hN : 16 < N) : gx (qX5_beginTurn N s G z) (fun _ z' => osFr s (s + 12) z z' ∧ rX5 z' s (begun S)) := by
  unfold qX5_beginTurn
  exact gx_gI h.o (by decide) rfl (h.p1 (by decide) (by omega) (fun z_1 f_1 h_1 => h_1.p0 (by decide) (by omega) (fun z_2 f_2 h_2 => gx_recvQ h_2.o (by decide) (q_X5_holdAll h_2 (by omega) hN) (fun v_3 z_3 ⟨f_3, s_3⟩ => gx_ret ⟨(((f_1.wide (by omega) (by omega)).tr (f_2.wide (by omega) (by omega))).tr (f_3.wide (by omega) (by omega))), (by first | with_reducible exact s_3 | (unfold begun; with_reducible exact s_3) | exact s_3)⟩))))
def endT (C S : Nat → Nat → Int32) (np : Nat) : Nat → Nat → Int32 := if (fd (fun p => !decide (bld C S (nI p) = 0)) 0 np).isSome = true then cset S 0 fun _ => (2 : Int32) else begun S
theorem q_X5_closeTurn_61 {G : osG} {z : osS} {N s b np : Nat} {S C : Nat → Nat → Int32} (h : rX5 z s S) (hb : rX0 z b C) (hA : G.2.2.1 ≤ s) (hn : C 1 0 = nI np) (h4 : np ≤ 4) (hu12 : nu S ≤ 12) (hN : 16 < N) : gx (qX5_closeTurn_61 N (s, b, nI 0) G z) (fun _ z' => osFr s (s + 12) z z' ∧ rX5 z' s (endT C S np)) := by
  unfold qX5_closeTurn_61
  refine gx_loop np (fun i p z' => p = (s, b, nI i) ∧ z' = z ∧ fd (fun p => !decide (bld C S (nI p) = 0)) 0 np = fd (fun p => !decide (bld C S (nI p) = 0)) i (np - i)) ?_ ?_ N 0 _ z (Nat.zero_le _) (by omega) ⟨rfl, rfl, rfl⟩
  · rintro ih i p z' hi ⟨rfl, rfl, e⟩ k
    show gx (bX5_closeTurn_61 N ih s b (nI i) G z') _
    unfold bX5_closeTurn_61
    refine gx_gI hb.o (by decide) rfl (gx_itef (nI_nleE (a := np) hn rfl (by omega) (by omega)) (gx_recvE h.o (by decide) (q_countBuilds h hb hu12 hN) (gx_ite (fun c => ?_) (fun c => ?_))))
    · rw [nI_1]; exact k _ _ ⟨rfl, rfl, by rw [e, fd_miss hi (by simp [c])]⟩
    · refine h.p0 (by decide) hA (fun z1 f1 h1 => gx_ret ⟨f1, ?_⟩)
      unfold endT
      rw [e, fd_hit hi (by simp [c]), if_pos (show (some i).isSome = true from rfl)]
      exact h1
  · rintro ih p z' ⟨rfl, rfl, e⟩
    show gx (bX5_closeTurn_61 N ih s b (nI np) G z') _
    unfold bX5_closeTurn_61
    refine gx_gI hb.o (by decide) rfl (gx_itet (by rw [show C 1 0 = nI np from hn]; exact (nI_leI (by omega) (by omega)).mpr (Nat.le_refl _)) (gx_recvQ h.o (by decide) (q_X5_beginTurn h hA hN) (fun _ z1 ⟨f1, h1⟩ => gx_ret ⟨f1, ?_⟩)))
    unfold endT
    rw [e, fd_end, if_neg (by simp)]
    exact h1
def stCT (C : Nat → Nat → Int32) (a : Nat) (S : Nat → Nat → Int32) : Nat → Nat → Int32 := if bt (C 4 0) a = true then (if S 6 a = -1 then S else cset S 5 (upd (S 5) a (S 6 a))) else S
def closed (C S : Nat → Nat → Int32) (np : Nat) : Nat → Nat → Int32 := endT C (osit (fun a W => stCT C a W) 0 16 S) np
theorem stCT_6 {C S : Nat → Nat → Int32} {a : Nat} : stCT C a S 6 = S 6 := by
  unfold stCT
  split
  · split <;> rfl
  · rfl
theorem osit_stCT_6 {C S : Nat → Nat → Int32} : ∀ n, (osit (fun a W => stCT C a W) 0 n S) 6 = S 6
  | 0 => rfl
  | n + 1 => by rw [osit_last, Nat.zero_add, stCT_6, osit_stCT_6 n]
theorem nu_6 {S T : Nat → Nat → Int32} (h : S 6 = T 6) : nu S = nu T := by unfold nu; rw [h]
theorem q_X5_closeTurn_16b {G : osG} {z : osS} {N s b a : Nat} {S C : Nat → Nat → Int32} {Q : Unit → osS → Prop} {ih : Nat × Nat × Int32 → osM Unit} (h : rX5 z s S) (hb : rX0 z b C) (hA : G.2.2.1 ≤ s) (h9 : a < 16) (k : ∀ z1, osFr s (s + 12) z z1 → rX5 z1 s (stCT C a S) → gx (ih (s, b, nI a + 1) G z1) Q) : gx (bX5_closeTurn_16 N ih s b (nI a) G z) Q := by
  unfold bX5_closeTurn_16
  (repeat (first | unfold qX5_closeTurn_53))
  exact gx_itef (nI_nleE (a := 16) (rfl) (rfl) (by omega) (by omega)) (gx_gI hb.o (by decide) rfl (gx_callE (q_hasN (by omega)) (gx_iteB (fun (c_1 : (bt ((C 4 0)) a) = false) => k _ osFr.rf (by first | with_reducible exact h | (unfold stCT; with_reducible exact h) | (unfold stCT; simp only [cset_ap, c_1, Nat.reduceEqDiff, reduceIte, Bool.false_eq_true, ite_true, ite_false]; exact h) | (unfold stCT; simp [c_1]; with_reducible exact h) | (unfold stCT; simp only [c_1, if_true, if_false, ite_true, ite_false, Bool.false_eq_true, reduceIte]; exact h) | (exfalso; clear h hb; simp_all; done) | exact h)) (fun (c_1 : (bt ((C 4 0)) a) = true) => gx_recvE h.o (by decide) (q_hasUnitN h (by omega)) (gx_iteDn (fun (c_2 : S 6 a = -1) => k _ osFr.rf (by first | with_reducible exact h | (unfold stCT; with_reducible exact h) | (unfold stCT; simp only [cset_ap, if_pos c_1, if_pos c_2, Nat.reduceEqDiff, reduceIte, Bool.false_eq_true, ite_true, ite_false]; exact h) | (unfold stCT; simp [c_1, c_2]; with_reducible exact h) | (unfold stCT; simp only [c_1, c_2, if_true, if_false, ite_true, ite_false, Bool.false_eq_true, reduceIte]; exact h) | (exfalso; clear h hb; simp_all; done) | exact h)) (fun (c_2 : ¬ (S 6 a = -1)) => gx_gR h.o (by decide) rfl (gx_gR h.o (by decide) rfl (gx_aE h.a6 (rfl) (by omega) (Nat.le_of_ble_eq_true rfl) (h.s5 (rfl) (by omega) (by omega) (fun z_3 f_3 h_3 => k _ (f_3.wide (by omega) (by omega)) (by first | with_reducible exact h_3 | (unfold stCT; with_reducible exact h_3) | (unfold stCT; simp only [cset_ap, if_pos c_1, if_neg c_2, Nat.reduceEqDiff, reduceIte, Bool.false_eq_true, ite_true, ite_false]; exact h_3) | (unfold stCT; simp [c_1, c_2]; with_reducible exact h_3) | (unfold stCT; simp only [c_1, c_2, if_true, if_false, ite_true, ite_false, Bool.false_eq_true, reduceIte]; exact h_3) | (exfalso; clear h_3 hb_3; simp_all; done) | exact h_3)))))))))))
theorem q_X5_closeTurn {G : osG} {z : osS} {N s b np : Nat} {S C : Nat → Nat → Int32} (h : rX5 z s S) (hb : rX0 z b C) (hA : G.2.2.1 ≤ s) (hd : s + 12 ≤ b ∨ b + 6 ≤ s) (hn : C 1 0 = nI np) (h4 : np ≤ 4) (hu12 : nu S ≤ 12) (hN : 16 < N) {t : Nat} (ht : S 1 0 = nI t) (ht31 : t < 2 ^ 31) : gx (qX5_closeTurn N s b G z) (fun _ z' => osFr s (s + 12) z z' ∧ rX5 z' s (if t % 2 = 0 then closed C S np else begun S)) := by
  unfold qX5_closeTurn
  have key : (S 1 0 - S 1 0 / (2 : Int32) * (2 : Int32) = 0) ↔ t % 2 = 0 := by rw [ht]; exact mod2_nI ht31
  refine gx_gI h.o (by decide) rfl (gx_guard (by decide) (gx_ite (fun c => ?_) (fun c => ?_)))
  · rw [if_pos (key.mp c)]
    unfold qX5_closeTurn_16
    refine gx_loop 16 (fun i p z' => p = (s, b, nI i) ∧ osFr s (s + 12) z z' ∧ rX5 z' s (osit (fun a W => stCT C a W) 0 i S)) ?_ ?_ N 0 _ z (Nat.zero_le _) (by omega) ⟨rfl, osFr.rf, h⟩
    · rintro ih a p z' h9 ⟨rfl, f_0, h_0⟩ k
      show gx (bX5_closeTurn_16 N ih s b (nI a) G z') _
      exact q_X5_closeTurn_16b h_0 (hb.keep f_0 (by omega)) hA h9 (fun z1 f_1 h_1 => k _ _ ⟨by rw [nI_1], f_0.tr f_1, by rw [osit_last, Nat.zero_add]; exact h_1⟩)
    · rintro ih p z' ⟨rfl, f_0, h_0⟩
      show gx (bX5_closeTurn_16 N ih s b (nI 16) G z') _
      unfold bX5_closeTurn_16
      exact gx_itet le16 (gx_mono (q_X5_closeTurn_61 h_0 (hb.keep f_0 (by omega)) hA hn h4 (by rw [nu_6 (osit_stCT_6 16)]; exact hu12) hN) (fun _ z1 ⟨f1, h1⟩ => ⟨f_0.tr f1, h1⟩))
  · rw [if_neg (fun q => c (key.mpr q))]
    exact gx_recvQ h.o (by decide) (q_X5_beginTurn h hA hN) (fun _ z1 ⟨f1, h1⟩ => gx_ret ⟨f1, h1⟩)
def stDS (v : Int32) (a : Nat) (W : (Nat → Nat → Int32) × Int32) : (Nat → Nat → Int32) × Int32 := if W.1 6 a = v then (if ct (W.1 5) v < ct (W.1 6) v then (placed W.1 a (-1) (-1), W.2 + (1 : Int32)) else W) else W
def dn (i : Nat) : Int32 := nI (16 - i) + (-1)
theorem dn_16 : dn 16 < 0 := by decide
theorem dn_lt : ∀ i, i < 16 → dn i = nI (15 - i) := by decide +kernel
theorem q_X5_disbandSurplus_b {G : osG} {z : osS} {N s a : Nat} {v g : Int32} {S : Nat → Nat → Int32} {Q : Int32 → osS → Prop} {ih : Nat × Int32 × Int32 × Int32 → osM Int32} (h : rX5 z s S) (hA : G.2.2.1 ≤ s) (hN : 16 < N) (h9 : a < 16) (k : ∀ z1 g1, g1 = (stDS v a (S, g)).2 → osFr s (s + 12) z z1 → rX5 z1 s (stDS v a (S, g)).1 → gx (ih (s, v, g1, nI a + (-1)) G z1) Q) : gx (bX5_disbandSurplus_5 N ih s v g (nI a) G z) Q := by
  unfold bX5_disbandSurplus_5
  (repeat (first | unfold qX5_disbandSurplus_37))
  exact gx_itef (nI_nl0 (a := a) (rfl) (by omega)) (gx_gR h.o (by decide) rfl (gx_aE h.a6 (rfl) (by omega) (Nat.le_of_ble_eq_true rfl) (gx_ite (fun (c_1 : (S 6 a) = v) => gx_recvE h.o (by decide) (q_needsRemoval h hN) (gx_iteD (fun (c_2 : ¬ (ct (S 5) (v) < ct (S 6) (v))) => k _ _ (by first | with_reducible rfl | (unfold stDS; simp [c_1, c_2]; done)) osFr.rf (by first | with_reducible exact h | (unfold stDS; with_reducible exact h) | (unfold stDS; simp only [cset_ap, if_pos c_1, if_neg c_2, Nat.reduceEqDiff, reduceIte, Bool.false_eq_true, ite_true, ite_false]; exact h) | (unfold stDS; simp [c_1, c_2]; with_reducible exact h) | (unfold stDS; simp only [c_1, c_2, if_true, if_false, ite_true, ite_false, Bool.false_eq_true, reduceIte]; exact h) | (exfalso; clear h; simp_all; done) | exact h)) (fun (c_2 : ct (S 5) (v) < ct (S 6) (v)) => gx_recvQ h.o (by decide) (q_X5_placeUnitE h (by omega) (by first | assumption | omega | exact (hg _ (by omega) (by assumption)).2 | exact (hm (by assumption) (by assumption)).1 | exact (hm (by assumption) (by assumption)).2 | exact hz8 | exact hz10 | exact hu (by assumption) | exact (hm1 (by assumption)).1 | exact (hm1 (by assumption)).2 | simp_all) (rfl)) (fun v_3 z_3 ⟨f_3, s_3⟩ => k _ _ (by first | with_reducible rfl | (unfold stDS; simp [c_1, c_2]; done)) (f_3.wide (by omega) (by omega)) (by first | with_reducible exact s_3 | (unfold stDS; with_reducible exact s_3) | (unfold stDS; simp only [cset_ap, if_pos c_1, if_pos c_2, Nat.reduceEqDiff, reduceIte, Bool.false_eq_true, ite_true, ite_false]; exact s_3) | (unfold stDS; simp [c_1, c_2]; with_reducible exact s_3) | (unfold stDS; simp only [c_1, c_2, if_true, if_false, ite_true, ite_false, Bool.false_eq_true, reduceIte]; exact s_3) | (exfalso; clear s_3; simp_all; done) | exact s_3))))) (fun (c_1 : ¬ ((S 6 a) = v)) => k _ _ (by first | with_reducible rfl | (unfold stDS; simp [c_1]; done)) osFr.rf (by first | with_reducible exact h | (unfold stDS; with_reducible exact h) | (unfold stDS; simp only [cset_ap, if_neg c_1, Nat.reduceEqDiff, reduceIte, Bool.false_eq_true, ite_true, ite_false]; exact h) | (unfold stDS; simp [c_1]; with_reducible exact h) | (unfold stDS; simp only [c_1, if_true, if_false, ite_true, ite_false, Bool.false_eq_true, reduceIte]; exact h) | (exfalso; clear h; simp_all; done) | exact h)))))
theorem q_X5_disbandSurplus {G : osG} {z : osS} {N s : Nat} {v : Int32} {S : Nat → Nat → Int32} (h : rX5 z s S) (hA : G.2.2.1 ≤ s) (hN : 16 < N) : gx (qX5_disbandSurplus N s v G z) (fun w z' => w = (osit (fun i W => stDS v (15 - i) W) 0 16 (S, 0)).2 ∧ osFr s (s + 12) z z' ∧ rX5 z' s (osit (fun i W => stDS v (15 - i) W) 0 16 (S, 0)).1) := by
  unfold qX5_disbandSurplus qX5_disbandSurplus_5
  refine gx_loop 16 (fun i p z' => p = (s, v, (osit (fun i W => stDS v (15 - i) W) 0 i (S, 0)).2, dn i) ∧ osFr s (s + 12) z z' ∧ rX5 z' s (osit (fun i W => stDS v (15 - i) W) 0 i (S, 0)).1) ?_ ?_ N 0 _ z (Nat.zero_le _) (by omega) ⟨rfl, osFr.rf, h⟩
  · rintro ih i p z' h9 ⟨rfl, f_0, h_0⟩ k
    show gx (bX5_disbandSurplus_5 N ih s v _ (dn i) G z') _
    rw [dn_lt i h9]
    refine q_X5_disbandSurplus_b h_0 hA hN (by omega) (fun z1 g1 e1 f_1 h_1 => k _ _ ⟨?_, f_0.tr f_1, by rw [osit_last, Nat.zero_add]; exact h_1⟩)
    rw [e1, osit_last, Nat.zero_add]
    show _ = (s, v, _, nI (16 - (i + 1)) + (-1))
    rw [show 16 - (i + 1) = 15 - i by omega]
  · rintro ih p z' ⟨rfl, f_0, h_0⟩
    show gx (bX5_disbandSurplus_5 N ih s v _ (dn 16) G z') _
    unfold bX5_disbandSurplus_5
    exact gx_itet dn_16 (gx_ret ⟨by with_reducible rfl, f_0, h_0⟩)
def tn (x : Int32) : Nat := x.toNatClampNeg
def stCR (U : Nat → Nat → Int32) (a : Nat) (W : (Nat → Nat → Int32) × Int32) : (Nat → Nat → Int32) × Int32 := if U 8 a = -1 then W else if U 11 a = -1 then (W.1, W.2 + (1 : Int32)) else if nI (ct (U 11) (U 11 a)) = 1 then (placed W.1 (tn (U 11 a)) (U 8 a) (U 9 a), W.2) else (W.1, W.2 + (1 : Int32))
theorem q_X5_carryOutRetreats_b {G : osG} {z : osS} {N : Nat} {s : Nat} {S : Nat → Nat → Int32} {t : Nat} {U : Nat → Nat → Int32} (h : rX5 z s S) (hu : rX5 z t U) {a : Nat} {g : Int32} {Q : Int32 → osS → Prop} {ih : Nat × Nat × Int32 × Int32 → osM Int32} (hA : G.2.2.1 ≤ s) (hd : s + 12 ≤ t ∨ t + 12 ≤ s) (hg : ∀ a, a < 16 → ¬ U 11 a = -1 → U 11 a = nI (tn (U 11 a)) ∧ tn (U 11 a) < 16) (hN : 16 < N) (h9 : a < 16) (k : ∀ z1 g1, g1 = (stCR U a (S, g)).2 → osFr s (s + 12) z z1 → rX5 z1 s (stCR U a (S, g)).1 → gx (ih (s, t, g1, nI a + 1) G z1) Q) : gx (bX5_carryOutRetreats_4 N ih s t g (nI a) G z) Q := by
  unfold bX5_carryOutRetreats_4
  (repeat (first | unfold qX5_carryOutRetreats_69 | unfold qX5_carryOutRetreats_66))
  exact gx_itef (nI_nleE (a := 16) (rfl) (rfl) (by omega) (by omega)) (gx_recvE hu.o (by decide) (q_hasDislodgedN hu (by omega)) (gx_iteDn (fun (c_1 : U 8 a = -1) => k _ _ (by first | with_reducible rfl | (unfold stCR; simp [c_1]; done)) osFr.rf (by first | with_reducible exact h | (unfold stCR; with_reducible exact h) | (unfold stCR; simp only [cset_ap, if_pos c_1, Nat.reduceEqDiff, reduceIte, Bool.false_eq_true, ite_true, ite_false]; exact h) | (unfold stCR; simp [c_1]; with_reducible exact h) | (unfold stCR; simp only [c_1, if_true, if_false, ite_true, ite_false, Bool.false_eq_true, reduceIte]; exact h) | (exfalso; clear h hu; simp_all; done) | exact h)) (fun (c_1 : ¬ (U 8 a = -1)) => gx_gR hu.o (by decide) rfl (gx_aE hu.a11 (rfl) (by omega) (Nat.le_of_ble_eq_true rfl) (gx_ite (fun (c_2 : (U 11 a) = (-1 : Int32)) => k _ _ (by first | with_reducible rfl | (unfold stCR; simp [c_1, c_2]; done)) osFr.rf (by first | with_reducible exact h | (unfold stCR; with_reducible exact h) | (unfold stCR; simp only [cset_ap, if_neg c_1, if_pos c_2, Nat.reduceEqDiff, reduceIte, Bool.false_eq_true, ite_true, ite_false]; exact h) | (unfold stCR; simp [c_1, c_2]; with_reducible exact h) | (unfold stCR; simp only [c_1, c_2, if_true, if_false, ite_true, ite_false, Bool.false_eq_true, reduceIte]; exact h) | (exfalso; clear h hu; simp_all; done) | exact h)) (fun (c_2 : ¬ ((U 11 a) = (-1 : Int32))) => gx_gR hu.o (by decide) rfl (gx_callE (q_countOf16 hu.a11 hN) (gx_ite (fun (c_3 : nI (ct (U 11) ((U 11 a))) = (1 : Int32)) => gx_gR hu.o (by decide) rfl (gx_aE hu.a8 (rfl) (by omega) (Nat.le_of_ble_eq_true rfl) (gx_gR hu.o (by decide) rfl (gx_aE hu.a9 (rfl) (by omega) (Nat.le_of_ble_eq_true rfl) (gx_recvQ h.o (by decide) (q_X5_placeUnitE h (by omega) (by first | assumption | omega | exact (hg _ (by omega) (by assumption)).2 | exact (hm (by assumption) (by assumption)).1 | exact (hm (by assumption) (by assumption)).2 | exact hz8 | exact hz10 | exact hu (by assumption) | exact (hm1 (by assumption)).1 | exact (hm1 (by assumption)).2 | simp_all) ((hg a h9 (by assumption)).1)) (fun v_4 z_4 ⟨f_4, s_4⟩ => have hu_4 := hu.keep f_4 (by omega); k _ _ (by first | with_reducible rfl | (unfold stCR; simp [c_1, c_2, c_3]; done)) (f_4.wide (by omega) (by omega)) (by first | with_reducible exact s_4 | (unfold stCR; with_reducible exact s_4) | (unfold stCR; simp only [cset_ap, if_neg c_1, if_neg c_2, if_pos c_3, Nat.reduceEqDiff, reduceIte, Bool.false_eq_true, ite_true, ite_false]; exact s_4) | (unfold stCR; simp [c_1, c_2, c_3]; with_reducible exact s_4) | (unfold stCR; simp only [c_1, c_2, c_3, if_true, if_false, ite_true, ite_false, Bool.false_eq_true, reduceIte]; exact s_4) | (exfalso; clear s_4 hu_4; simp_all; done) | exact s_4))))))) (fun (c_3 : ¬ (nI (ct (U 11) ((U 11 a))) = (1 : Int32))) => k _ _ (by first | with_reducible rfl | (unfold stCR; simp [c_1, c_2, c_3]; done)) osFr.rf (by first | with_reducible exact h | (unfold stCR; with_reducible exact h) | (unfold stCR; simp only [cset_ap, if_neg c_1, if_neg c_2, if_neg c_3, Nat.reduceEqDiff, reduceIte, Bool.false_eq_true, ite_true, ite_false]; exact h) | (unfold stCR; simp [c_1, c_2, c_3]; with_reducible exact h) | (unfold stCR; simp only [c_1, c_2, c_3, if_true, if_false, ite_true, ite_false, Bool.false_eq_true, reduceIte]; exact h) | (exfalso; clear h hu; simp_all; done) | exact h))))))))))
theorem q_X5_carryOutRetreats {G : osG} {z : osS} {N : Nat} {s : Nat} {S : Nat → Nat → Int32} {t : Nat} {U : Nat → Nat → Int32} (h : rX5 z s S) (hu : rX5 z t U) (hA : G.2.2.1 ≤ s) (hd : s + 12 ≤ t ∨ t + 12 ≤ s) (hg : ∀ a, a < 16 → ¬ U 11 a = -1 → U 11 a = nI (tn (U 11 a)) ∧ tn (U 11 a) < 16) (hN : 16 < N) : gx (qX5_carryOutRetreats N s t G z) (fun v z' => v = (osit (fun a W => stCR U a W) 0 16 (S, 0)).2 ∧ osFr s (s + 12) z z' ∧ rX5 z' s (osit (fun a W => stCD a W) 0 16 (osit (fun a W => stCR U a W) 0 16 (S, 0)).1)) := by
  unfold qX5_carryOutRetreats qX5_carryOutRetreats_4
  refine gx_loop 16 (fun i p z' => p = (s, t, (osit (fun a W => stCR U a W) 0 i (S, 0)).2, nI i) ∧ osFr s (s + 12) z z' ∧ rX5 z' s (osit (fun a W => stCR U a W) 0 i (S, 0)).1) ?_ ?_ N 0 _ z (Nat.zero_le _) (by omega) ⟨rfl, osFr.rf, h⟩
  · rintro ih a p z' h9 ⟨rfl, f_0, h_0⟩ k
    exact q_X5_carryOutRetreats_b h_0 (hu.keep f_0 (by omega)) hA (by first | assumption | omega) (by first | assumption | omega) (by first | assumption | omega) h9 (fun z1 g1 e1 f_1 h_1 => k _ _ ⟨by rw [nI_1, e1, osit_last, Nat.zero_add], f_0.tr f_1, by rw [osit_last, Nat.zero_add]; exact h_1⟩)
  · rintro ih p z' ⟨rfl, f_0, h_0⟩
    have hu := hu.keep f_0 (by omega)
    show gx (bX5_carryOutRetreats_4 N ih s t (osit (fun a W => stCR U a W) 0 16 (S, 0)).2 (nI 16) G z') _
    unfold bX5_carryOutRetreats_4
    exact gx_itet le16 (gx_recvQ h_0.o (by decide) (q_X5_clearDislodged h_0 hA hN) (fun _ z1 ⟨f1, h1⟩ => gx_ret ⟨by with_reducible rfl, f_0.tr f1, h1⟩))
