/-! Links: prepare (by program) -/
theorem osit_keep {α β : Type} {f : Nat → α → α} {p : α → β} (h : ∀ a W, p (f a W) = p W) : ∀ {k i : Nat} {W : α}, p (osit f i k W) = p W
  | 0, _, _ => rfl
  | k + 1, i, W => by rw [osit_succ, osit_keep h, h]
/-- a row of what is done step by step -/
theorem osit_pr {f : Nat → (Nat → Nat → Int32) → (Nat → Nat → Int32)} {j : Nat} {r : Nat → (Nat → Int32) → (Nat → Int32)} (I : (Nat → Nat → Int32) → Prop) (hI : ∀ a W, I W → I (f a W)) (h : ∀ a W, I W → f a W j = r a (W j)) : ∀ {k i : Nat} {W : Nat → Nat → Int32}, I W → osit f i k W j = osit r i k (W j)
  | 0, _, _, _ => rfl
  | k + 1, i, W, w => by rw [osit_succ, osit_succ, osit_pr I hI h (hI i W w), h i W w]
theorem osit_I {f : Nat → (Nat → Nat → Int32) → (Nat → Nat → Int32)} (I : (Nat → Nat → Int32) → Prop) (hI : ∀ a W, I W → I (f a W)) : ∀ {k i : Nat} {W : Nat → Nat → Int32}, I W → I (osit f i k W)
  | 0, _, _, w => w
  | k + 1, i, W, w => by rw [osit_succ]; exact osit_I I hI (hI i W w)
def rA (P : Nat → Bool) (a : Nat) (f : Nat → Int32) : Nat → Int32 := if P a = true then fun _ => f 0 ||| sg a else f
theorem bt_rA {P : Nat → Bool} {f : Nat → Int32} : ∀ {n : Nat}, n ≤ 32 → ∀ {i : Nat}, i < 32 → bt (osit (fun a g => rA P a g) 0 n f 0) i = (bt (f 0) i || (decide (i < n) && P i))
  | 0, _, i, hi => by rw [osit_zero]; simp
  | n + 1, hn, i, hi => by
    rw [osit_last, Nat.zero_add]
    have ih := bt_rA (P := P) (f := f) (n := n) (by omega) hi
    unfold rA
    by_cases hp : P n = true
    · rw [if_pos hp]
      show bt (osit (fun a g => rA P a g) 0 n f 0 ||| sg n) i = _
      rw [b_or, ih, b_sg (by omega) hi]
      by_cases e : i = n
      · subst e; simp [hp]
      · have : decide (i < n + 1) = decide (i < n) := by simp; omega
        rw [this]; simp [e]
    · rw [if_neg hp]
      show bt (osit (fun a g => rA P a g) 0 n f 0) i = _
      rw [ih]
      by_cases e : i = n
      · subst e; simp [hp]
      · have : decide (i < n + 1) = decide (i < n) := by simp; omega
        rw [this]
def rB (P : Nat → Bool) (v : Nat → Int32) (a : Nat) (f : Nat → Int32) : Nat → Int32 := if P a = true then upd f a (v a) else f
theorem at_rB {P : Nat → Bool} {v f : Nat → Int32} : ∀ {n j : Nat}, osit (fun a g => rB P v a g) 0 n f j = if (decide (j < n) && P j) = true then v j else f j
  | 0, j => by rw [osit_zero]; simp
  | n + 1, j => by
    rw [osit_last, Nat.zero_add]
    have ih := at_rB (P := P) (v := v) (f := f) (n := n) (j := j)
    unfold rB
    by_cases hp : P n = true
    · rw [if_pos hp]
      by_cases e : j = n
      · subst e; rw [upd_eq]; simp [hp]
      · rw [upd_ne e]
        have : decide (j < n + 1) = decide (j < n) := by simp; omega
        rw [this]; exact ih
    · rw [if_neg hp]
      by_cases e : j = n
      · subst e; have := ih; simp at this; simp [hp]; exact this
      · have : decide (j < n + 1) = decide (j < n) := by simp; omega
        rw [this]; exact ih
def rC (P : Nat → Bool) (g : Nat → Nat) (a : Nat) (f : Nat → Int32) : Nat → Int32 := if P a = true then upd f (g a) (f (g a) ||| sg a) else f
theorem bt_rC {P : Nat → Bool} {g : Nat → Nat} {f : Nat → Int32} : ∀ {n : Nat}, n ≤ 32 → ∀ {i j : Nat}, i < 32 → bt (osit (fun a h => rC P g a h) 0 n f j) i = (bt (f j) i || (decide (i < n) && (P i && decide (g i = j))))
  | 0, _, i, j, hi => by rw [osit_zero]; simp
  | n + 1, hn, i, j, hi => by
    rw [osit_last, Nat.zero_add]
    have ih := bt_rC (P := P) (g := g) (f := f) (n := n) (by omega) (i := i) (j := j) hi
    unfold rC
    have ed : i ≠ n → decide (i < n + 1) = decide (i < n) := fun e => by simp; omega
    by_cases hp : P n = true
    · rw [if_pos hp]
      by_cases ej : j = g n
      · subst ej
        rw [upd_eq, b_or, b_sg (by omega) hi]
        have ih' : bt (osit (fun a h => rC P g a h) 0 n f (g n)) i = _ := ih
        unfold rC at ih'
        rw [ih']
        by_cases e : i = n
        · subst e; simp [hp]
        · rw [ed e]; simp [e]
      · rw [upd_ne ej]
        have ih' : bt (osit (fun a h => rC P g a h) 0 n f j) i = _ := ih
        unfold rC at ih'
        rw [ih']
        by_cases e : i = n
        · subst e
          have : ¬ g i = j := fun q => ej q.symm
          simp [this]
        · rw [ed e]
    · rw [if_neg hp]
      have ih' : bt (osit (fun a h => rC P g a h) 0 n f j) i = _ := ih
      unfold rC at ih'
      rw [ih']
      by_cases e : i = n
      · subst e; simp [hp]
      · rw [ed e]
def uu (S : Nat → Nat → Int32) (a : Nat) : Bool := !decide (S 6 a = -1)
def mv (S : Nat → Nat → Int32) (a : Nat) : Bool := !decide (S 6 a = -1) && decide (S 12 a = 1)
def stP1 (C S : Nat → Nat → Int32) (a : Nat) (L : Nat → Nat → Int32) : Nat → Nat → Int32 :=
  let L1 := cset L 15 (upd (L 15) a (bd C a 1))
  let L2 := if S 6 a = -1 then L1 else cset L1 0 fun _ => L1 0 0 ||| sg a
  if S 6 a = -1 then L2 else if S 12 a = 1 then stNM C S a L2 else L2
def stP2 (S : Nat → Nat → Int32) (a : Nat) (L : Nat → Nat → Int32) : Nat → Nat → Int32 := if bt (L 0 0) a = true then stLV S a (stLS S a L) else L
def stP3 (S : Nat → Nat → Int32) (a : Nat) (L : Nat → Nat → Int32) : Nat → Nat → Int32 := if bt (L 1 0) a = true then stLM S a L else L
def prep (C S L : Nat → Nat → Int32) : Nat → Nat → Int32 := osit (fun a W => stP3 S a W) 0 16 (osit (fun a W => stP2 S a W) 0 16 (osit (fun a W => stP1 C S a W) 0 16 (lclr L)))
theorem q_bX2_prepare_6 {G : osG} {z : osS} {N l b s a : Nat} {L S C : Nat → Nat → Int32} {Q : Unit → osS → Prop} {ih : Nat × Nat × Nat × Int32 → osM Unit} (hl : rX2 z l L) (hb : rX0 z b C) (h : rX5 z s S) (hA : G.2.2.1 ≤ l) (hd : l + 11 ≤ b ∨ b + 6 ≤ l) (hd2 : l + 11 ≤ s ∨ s + 12 ≤ l) (hm : ¬ S 6 a = -1 → S 12 a = 1 → S 13 a = nI (gof S a) ∧ gof S a < 16) (h9 : a < 16) (k : ∀ z1, osFr l (l + 11) z z1 → rX2 z1 l (stP1 C S a L) → gx (ih (l, b, s, nI a + 1) G z1) Q) : gx (bX2_prepare_6 N ih l b s (nI a) G z) Q := by
  unfold bX2_prepare_6
  (repeat (first | unfold qX2_prepare_45 | unfold qX2_prepare_70))
  exact gx_itef (nI_nleE (a := 16) (rfl) (rfl) (by omega) (by omega)) (gx_gR hl.o (by decide) rfl (gx_recvE hb.o (by decide) (q_bordersOfE hb rfl (by omega)) (hl.s15 (rfl) (by omega) (by omega) (fun z_1 f_1 hl_1 => have hb_1 := hb.keep f_1 (by omega); have h_1 := h.keep f_1 (by omega); gx_recvE h_1.o (by decide) (q_hasUnitE h_1 rfl (by omega)) (gx_iteDn (fun (c_2 : S 6 a = -1) => gx_recvE h_1.o (by decide) (q_hasUnitE h_1 rfl (by omega)) (gx_iteDn (fun (c_3 : S 6 a = -1) => k _ (f_1.wide (by omega) (by omega)) (by first | with_reducible exact hl_1 | (unfold stP1; with_reducible exact hl_1) | (unfold stP1; simp only [cset_ap, if_pos c_2, if_pos c_3, Nat.reduceEqDiff, reduceIte, Bool.false_eq_true, ite_true, ite_false]; exact hl_1) | (unfold stP1; simp [c_2, c_3, stNM]; with_reducible exact hl_1) | (unfold stP1; simp only [c_2, c_3, stNM, if_true, if_false, ite_true, ite_false, Bool.false_eq_true, reduceIte]; exact hl_1) | (exfalso; clear hl_1 hb_1 h_1; simp_all; done) | exact hl_1)) (fun (c_3 : ¬ (S 6 a = -1)) => gx_gR h_1.o (by decide) rfl (gx_aE h_1.a12 (rfl) (by omega) (Nat.le_of_ble_eq_true rfl) (gx_ite (fun (c_4 : (S 12 a) = (1 : Int32)) => gx_recvQ hl_1.o (by decide) (q_X2_noteMoveE hl_1 hb_1 h_1 (by omega) (by omega) (by omega) (by first | assumption | omega | exact (hg _ (by omega) (by assumption)).2 | exact (hm (by assumption) (by assumption)).1 | exact (hm (by assumption) (by assumption)).2 | exact hz8 | exact hz10 | exact hu (by assumption) | exact (hm1 (by assumption)).1 | exact (hm1 (by assumption)).2 | simp_all) (by first | assumption | omega | exact (hg _ (by omega) (by assumption)).2 | exact (hm (by assumption) (by assumption)).1 | exact (hm (by assumption) (by assumption)).2 | exact hz8 | exact hz10 | exact hu (by assumption) | exact (hm1 (by assumption)).1 | exact (hm1 (by assumption)).2 | simp_all) (by first | assumption | omega | exact (hg _ (by omega) (by assumption)).2 | exact (hm (by assumption) (by assumption)).1 | exact (hm (by assumption) (by assumption)).2 | exact hz8 | exact hz10 | exact hu (by assumption) | exact (hm1 (by assumption)).1 | exact (hm1 (by assumption)).2 | simp_all) (rfl)) (fun v_5 z_5 ⟨f_5, l_5⟩ => have hb_5 := hb_1.keep f_5 (by omega); have h_5 := h_1.keep f_5 (by omega); k _ ((f_1.wide (by omega) (by omega)).tr (f_5.wide (by omega) (by omega))) (by first | with_reducible exact l_5 | (unfold stP1; with_reducible exact l_5) | (unfold stP1; simp only [cset_ap, if_pos c_2, if_neg c_3, if_pos c_4, Nat.reduceEqDiff, reduceIte, Bool.false_eq_true, ite_true, ite_false]; exact l_5) | (unfold stP1; simp [c_2, c_3, c_4, stNM]; with_reducible exact l_5) | (unfold stP1; simp only [c_2, c_3, c_4, stNM, if_true, if_false, ite_true, ite_false, Bool.false_eq_true, reduceIte]; exact l_5) | (exfalso; clear l_5 hb_5 h_5; simp_all; done) | exact l_5))) (fun (c_4 : ¬ ((S 12 a) = (1 : Int32))) => k _ (f_1.wide (by omega) (by omega)) (by first | with_reducible exact hl_1 | (unfold stP1; with_reducible exact hl_1) | (unfold stP1; simp only [cset_ap, if_pos c_2, if_neg c_3, if_neg c_4, Nat.reduceEqDiff, reduceIte, Bool.false_eq_true, ite_true, ite_false]; exact hl_1) | (unfold stP1; simp [c_2, c_3, c_4, stNM]; with_reducible exact hl_1) | (unfold stP1; simp only [c_2, c_3, c_4, stNM, if_true, if_false, ite_true, ite_false, Bool.false_eq_true, reduceIte]; exact hl_1) | (exfalso; clear hl_1 hb_1 h_1; simp_all; done) | exact hl_1))))))) (fun (c_2 : ¬ (S 6 a = -1)) => gx_gI hl_1.o (by decide) rfl (gx_callE (q_bitE (by omega) rfl) (hl_1.p0 (by decide) (by omega) (fun z_6 f_6 hl_6 => have hb_6 := hb_1.keep f_6 (by omega); have h_6 := h_1.keep f_6 (by omega); gx_recvE h_6.o (by decide) (q_hasUnitE h_6 rfl (by omega)) (gx_iteDn (fun (c_7 : S 6 a = -1) => k _ ((f_1.wide (by omega) (by omega)).tr (f_6.wide (by omega) (by omega))) (by first | with_reducible exact hl_6 | (unfold stP1; with_reducible exact hl_6) | (unfold stP1; simp only [cset_ap, if_neg c_2, if_pos c_7, Nat.reduceEqDiff, reduceIte, Bool.false_eq_true, ite_true, ite_false]; exact hl_6) | (unfold stP1; simp [c_2, c_7, stNM]; with_reducible exact hl_6) | (unfold stP1; simp only [c_2, c_7, stNM, if_true, if_false, ite_true, ite_false, Bool.false_eq_true, reduceIte]; exact hl_6) | (exfalso; clear hl_6 hb_6 h_6; simp_all; done) | exact hl_6)) (fun (c_7 : ¬ (S 6 a = -1)) => gx_gR h_6.o (by decide) rfl (gx_aE h_6.a12 (rfl) (by omega) (Nat.le_of_ble_eq_true rfl) (gx_ite (fun (c_8 : (S 12 a) = (1 : Int32)) => gx_recvQ hl_6.o (by decide) (q_X2_noteMoveE hl_6 hb_6 h_6 (by omega) (by omega) (by omega) (by first | assumption | omega | exact (hg _ (by omega) (by assumption)).2 | exact (hm (by assumption) (by assumption)).1 | exact (hm (by assumption) (by assumption)).2 | exact hz8 | exact hz10 | exact hu (by assumption) | exact (hm1 (by assumption)).1 | exact (hm1 (by assumption)).2 | simp_all) (by first | assumption | omega | exact (hg _ (by omega) (by assumption)).2 | exact (hm (by assumption) (by assumption)).1 | exact (hm (by assumption) (by assumption)).2 | exact hz8 | exact hz10 | exact hu (by assumption) | exact (hm1 (by assumption)).1 | exact (hm1 (by assumption)).2 | simp_all) (by first | assumption | omega | exact (hg _ (by omega) (by assumption)).2 | exact (hm (by assumption) (by assumption)).1 | exact (hm (by assumption) (by assumption)).2 | exact hz8 | exact hz10 | exact hu (by assumption) | exact (hm1 (by assumption)).1 | exact (hm1 (by assumption)).2 | simp_all) (rfl)) (fun v_9 z_9 ⟨f_9, l_9⟩ => have hb_9 := hb_6.keep f_9 (by omega); have h_9 := h_6.keep f_9 (by omega); k _ (((f_1.wide (by omega) (by omega)).tr (f_6.wide (by omega) (by omega))).tr (f_9.wide (by omega) (by omega))) (by first | with_reducible exact l_9 | (unfold stP1; with_reducible exact l_9) | (unfold stP1; simp only [cset_ap, if_neg c_2, if_neg c_7, if_pos c_8, Nat.reduceEqDiff, reduceIte, Bool.false_eq_true, ite_true, ite_false]; exact l_9) | (unfold stP1; simp [c_2, c_7, c_8, stNM]; with_reducible exact l_9) | (unfold stP1; simp only [c_2, c_7, c_8, stNM, if_true, if_false, ite_true, ite_false, Bool.false_eq_true, reduceIte]; exact l_9) | (exfalso; clear l_9 hb_9 h_9; simp_all; done) | exact l_9))) (fun (c_8 : ¬ ((S 12 a) = (1 : Int32))) => k _ ((f_1.wide (by omega) (by omega)).tr (f_6.wide (by omega) (by omega))) (by first | with_reducible exact hl_6 | (unfold stP1; with_reducible exact hl_6) | (unfold stP1; simp only [cset_ap, if_neg c_2, if_neg c_7, if_neg c_8, Nat.reduceEqDiff, reduceIte, Bool.false_eq_true, ite_true, ite_false]; exact hl_6) | (unfold stP1; simp [c_2, c_7, c_8, stNM]; with_reducible exact hl_6) | (unfold stP1; simp only [c_2, c_7, c_8, stNM, if_true, if_false, ite_true, ite_false, Bool.false_eq_true, reduceIte]; exact hl_6) | (exfalso; clear hl_6 hb_6 h_6; simp_all; done) | exact hl_6)))))))))))))))
theorem q_bX2_prepare_78 {G : osG} {z : osS} {N l s a : Nat} {L S : Nat → Nat → Int32} {Q : Unit → osS → Prop} {ih : Nat × Nat × Int32 → osM Unit} (hl : rX2 z l L) (h : rX5 z s S) (hA : G.2.2.1 ≤ l) (hd2 : l + 11 ≤ s ∨ s + 12 ≤ l) (ho : okO S) (hu : bt (L 0 0) a = true → ¬ S 6 a = -1) (hN : 16 < N) (h9 : a < 16) (k : ∀ z1, osFr l (l + 11) z z1 → rX2 z1 l (stP2 S a L) → gx (ih (l, s, nI a + 1) G z1) Q) : gx (bX2_prepare_78 N ih l s (nI a) G z) Q := by
  unfold bX2_prepare_78
  (repeat (first | unfold qX2_prepare_107))
  exact gx_itef (nI_nleE (a := 16) (rfl) (rfl) (by omega) (by omega)) (gx_gI hl.o (by decide) rfl (gx_callE (q_hasE rfl (by omega)) (gx_iteB (fun (c_1 : (bt ((L 0 0)) a) = false) => k _ osFr.rf (by first | with_reducible exact hl | (unfold stP2; with_reducible exact hl) | (unfold stP2; simp only [cset_ap, c_1, Nat.reduceEqDiff, reduceIte, Bool.false_eq_true, ite_true, ite_false]; exact hl) | (unfold stP2; simp [c_1]; with_reducible exact hl) | (unfold stP2; simp only [c_1, if_true, if_false, ite_true, ite_false, Bool.false_eq_true, reduceIte]; exact hl) | (exfalso; clear hl h; simp_all; done) | exact hl)) (fun (c_1 : (bt ((L 0 0)) a) = true) => gx_recvQ hl.o (by decide) (q_X2_linkSupport hl h (by omega) (by omega) (by first | assumption | omega | exact (hg _ (by omega) (by assumption)).2 | exact (hm (by assumption) (by assumption)).1 | exact (hm (by assumption) (by assumption)).2 | exact hz8 | exact hz10 | exact hu (by assumption) | exact (hm1 (by assumption)).1 | exact (hm1 (by assumption)).2 | simp_all) (by first | assumption | omega | exact (hg _ (by omega) (by assumption)).2 | exact (hm (by assumption) (by assumption)).1 | exact (hm (by assumption) (by assumption)).2 | exact hz8 | exact hz10 | exact hu (by assumption) | exact (hm1 (by assumption)).1 | exact (hm1 (by assumption)).2 | simp_all) (by first | assumption | omega | exact (hg _ (by omega) (by assumption)).2 | exact (hm (by assumption) (by assumption)).1 | exact (hm (by assumption) (by assumption)).2 | exact hz8 | exact hz10 | exact hu (by assumption) | exact (hm1 (by assumption)).1 | exact (hm1 (by assumption)).2 | simp_all) hN) (fun v_2 z_2 ⟨f_2, l_2⟩ => have h_2 := h.keep f_2 (by omega); gx_recvQ l_2.o (by decide) (q_X2_linkConvoy l_2 h_2 (by omega) (by omega) (by first | assumption | omega | exact (hg _ (by omega) (by assumption)).2 | exact (hm (by assumption) (by assumption)).1 | exact (hm (by assumption) (by assumption)).2 | exact hz8 | exact hz10 | exact hu (by assumption) | exact (hm1 (by assumption)).1 | exact (hm1 (by assumption)).2 | simp_all) (by first | assumption | omega | exact (hg _ (by omega) (by assumption)).2 | exact (hm (by assumption) (by assumption)).1 | exact (hm (by assumption) (by assumption)).2 | exact hz8 | exact hz10 | exact hu (by assumption) | exact (hm1 (by assumption)).1 | exact (hm1 (by assumption)).2 | simp_all) (by first | assumption | omega | exact (hg _ (by omega) (by assumption)).2 | exact (hm (by assumption) (by assumption)).1 | exact (hm (by assumption) (by assumption)).2 | exact hz8 | exact hz10 | exact hu (by assumption) | exact (hm1 (by assumption)).1 | exact (hm1 (by assumption)).2 | simp_all) hN) (fun v_3 z_3 ⟨f_3, l_3⟩ => have h_3 := h_2.keep f_3 (by omega); k _ ((f_2.wide (by omega) (by omega)).tr (f_3.wide (by omega) (by omega))) (by first | with_reducible exact l_3 | (unfold stP2; with_reducible exact l_3) | (unfold stP2; simp only [cset_ap, if_pos c_1, Nat.reduceEqDiff, reduceIte, Bool.false_eq_true, ite_true, ite_false]; exact l_3) | (unfold stP2; simp [c_1]; with_reducible exact l_3) | (unfold stP2; simp only [c_1, if_true, if_false, ite_true, ite_false, Bool.false_eq_true, reduceIte]; exact l_3) | (exfalso; clear l_3 h_3; simp_all; done) | exact l_3)))))))
theorem q_bX2_prepare_115 {G : osG} {z : osS} {N l s a : Nat} {L S : Nat → Nat → Int32} {Q : Unit → osS → Prop} {ih : Nat × Nat × Int32 → osM Unit} (hl : rX2 z l L) (h : rX5 z s S) (hA : G.2.2.1 ≤ l) (hd2 : l + 11 ≤ s ∨ s + 12 ≤ l) (hm1 : bt (L 1 0) a = true → S 13 a = nI (gof S a) ∧ gof S a < 16) (hN : 16 < N) (h9 : a < 16) (k : ∀ z1, osFr l (l + 11) z z1 → rX2 z1 l (stP3 S a L) → gx (ih (l, s, nI a + 1) G z1) Q) : gx (bX2_prepare_115 N ih l s (nI a) G z) Q := by
  unfold bX2_prepare_115
  (repeat (first | unfold qX2_prepare_138))
  exact gx_itef (nI_nleE (a := 16) (rfl) (rfl) (by omega) (by omega)) (gx_gI hl.o (by decide) rfl (gx_callE (q_hasE rfl (by omega)) (gx_iteB (fun (c_1 : (bt ((L 1 0)) a) = false) => k _ osFr.rf (by first | with_reducible exact hl | (unfold stP3; with_reducible exact hl) | (unfold stP3; simp only [cset_ap, c_1, Nat.reduceEqDiff, reduceIte, Bool.false_eq_true, ite_true, ite_false]; exact hl) | (unfold stP3; simp [c_1]; with_reducible exact hl) | (unfold stP3; simp only [c_1, if_true, if_false, ite_true, ite_false, Bool.false_eq_true, reduceIte]; exact hl) | (exfalso; clear hl h; simp_all; done) | exact hl)) (fun (c_1 : (bt ((L 1 0)) a) = true) => gx_recvQ hl.o (by decide) (q_X2_linkMoveE hl h (by omega) (by omega) (by first | assumption | omega | exact (hg _ (by omega) (by assumption)).2 | exact (hm (by assumption) (by assumption)).1 | exact (hm (by assumption) (by assumption)).2 | exact hz8 | exact hz10 | exact hu (by assumption) | exact (hm1 (by assumption)).1 | exact (hm1 (by assumption)).2 | simp_all) (by first | assumption | omega | exact (hg _ (by omega) (by assumption)).2 | exact (hm (by assumption) (by assumption)).1 | exact (hm (by assumption) (by assumption)).2 | exact hz8 | exact hz10 | exact hu (by assumption) | exact (hm1 (by assumption)).1 | exact (hm1 (by assumption)).2 | simp_all) (by first | assumption | omega | exact (hg _ (by omega) (by assumption)).2 | exact (hm (by assumption) (by assumption)).1 | exact (hm (by assumption) (by assumption)).2 | exact hz8 | exact hz10 | exact hu (by assumption) | exact (hm1 (by assumption)).1 | exact (hm1 (by assumption)).2 | simp_all) hN (rfl)) (fun v_2 z_2 ⟨f_2, l_2⟩ => have h_2 := h.keep f_2 (by omega); k _ (f_2.wide (by omega) (by omega)) (by first | with_reducible exact l_2 | (unfold stP3; with_reducible exact l_2) | (unfold stP3; simp only [cset_ap, if_pos c_1, Nat.reduceEqDiff, reduceIte, Bool.false_eq_true, ite_true, ite_false]; exact l_2) | (unfold stP3; simp [c_1]; with_reducible exact l_2) | (unfold stP3; simp only [c_1, if_true, if_false, ite_true, ite_false, Bool.false_eq_true, reduceIte]; exact l_2) | (exfalso; clear l_2 h_2; simp_all; done) | exact l_2))))))
