/-! Judge: strengths (by program) -/
section
variable (C S : Nat → Nat → Int32) (sea : Bool) (X : Nat → Bool)
def str (a : Nat) : Nat := 1 + fb_ct (fun i => gvn C S sea X i && decide (gof S i = a)) 16
def att (a : Nat) : Nat := if pth C S sea X a = true then (if (!uu S (gof S a) || (X (gof S a) && !opp C S a)) = true then str C S sea X a else if S 6 (gof S a) = S 6 a then 0 else 1 + fb_ct (fun i => gvn C S sea X i && (decide (gof S i = a) && !decide (S 6 i = S 6 (gof S a)))) 16) else 0
def hld (b : Nat) : Nat := if uu S b = true then (if mv S b = true then (if X b = true then 0 else 1) else str C S sea X b) else 0
def rsi (a : Nat) : Nat := if opp C S a = true then str C S sea X (gof S a) else hld C S sea X (gof S a)
def prv (c : Nat) : Nat := if (pth C S sea X c && !(opp C S c && X (gof S c))) = true then str C S sea X c else 0
def shd (a : Nat) : Bool := decide (rsi C S sea X a < att C S sea X a) && !exn (fun c => !decide (c = a) && ((mv S c && decide (gof S c = gof S a)) && decide (att C S sea X a ≤ prv C S sea X c))) 16
def cns : Bool := !exn (fun a => mv S a && !decide (shd C S sea X a = X a)) 16
end
/-- the judge's rows after a weighing of o -/
def WJ (C S : Nat → Nat → Int32) (sea : Bool) (o : Int32) (J : Nat → Nat → Int32) : Prop := J 5 0 = o ∧ (∀ i, i < 32 → bt (J 2 0) i = (decide (i < 16) && pth C S sea (bt o) i)) ∧ (∀ i, i < 32 → bt (J 3 0) i = (decide (i < 16) && gvn C S sea (bt o) i)) ∧ ∀ i, i < 32 → bt (J 6 0) i = (decide (i < 16) && disl S (bt o) i)
theorem wgh_WJ {C S L J : Nat → Nat → Int32} {o : Int32} {sea : Bool} (hk : LK C S L) (ho : okO S) (hs : J 1 0 = b2i sea) (hX : ∀ i, i < 16 → bt o i = true → mv S i = true) : WJ C S sea o (wgh L J o) := ⟨wgh_5, fun i hi => wgh_2 hk ho hs hX hi, fun i hi => wgh_3 hk ho hs hX hi, fun i hi => wgh_6 hk ho hX hi⟩
theorem sg_and0 {x : Nat} {y : Int32} (hx : x < 32) : sg x &&& y = 0 ↔ bt y x = false := by
  constructor
  · intro h
    have := congrArg (fun w => bt w x) h
    simp only [b_and, b_sg hx hx, b_0] at this
    simpa using this
  · intro h
    refine b_ext (fun i hi => ?_)
    rw [b_and, b_sg hx hi, b_0]
    by_cases e : i = x
    · subst e; rw [h]; simp
    · simp [e]
theorem blg_uu {S : Nat → Nat → Int32} {i : Nat} (h : blg S i = true) : uu S i = true := by unfold blg at h; simp at h; exact h.1
theorem gvn_blg {C S : Nat → Nat → Int32} {sea : Bool} {X : Nat → Bool} {i : Nat} (h : gvn C S sea X i = true) : blg S i = true := by unfold gvn at h; simp at h; exact h.1
theorem dm_mv {C S : Nat → Nat → Int32} {i : Nat} (h : dm C S i = true) : mv S i = true := by unfold dm at h; simp at h; exact h.1
theorem opp_g {C S : Nat → Nat → Int32} {i : Nat} (h : opp C S i = true) : dm C S (gof S i) = true := by unfold opp at h; simp at h; exact h.2.1
theorem str_le {C S : Nat → Nat → Int32} {sea : Bool} {X : Nat → Bool} {a : Nat} : str C S sea X a ≤ 17 := by unfold str; have := fb_ct_le (fun i => gvn C S sea X i && decide (gof S i = a)) 16; omega
theorem att_le {C S : Nat → Nat → Int32} {sea : Bool} {X : Nat → Bool} {a : Nat} : att C S sea X a ≤ 17 := by
  unfold att
  split
  · split
    · exact str_le
    · split
      · omega
      · have := fb_ct_le (fun i => gvn C S sea X i && (decide (gof S i = a) && !decide (S 6 i = S 6 (gof S a)))) 16
        omega
  · omega
theorem hld_le {C S : Nat → Nat → Int32} {sea : Bool} {X : Nat → Bool} {a : Nat} : hld C S sea X a ≤ 17 := by
  unfold hld
  split
  · split
    · split <;> omega
    · exact str_le
  · omega
theorem rsi_le {C S : Nat → Nat → Int32} {sea : Bool} {X : Nat → Bool} {a : Nat} : rsi C S sea X a ≤ 17 := by
  unfold rsi
  split
  · exact str_le
  · exact hld_le
section
variable {C S L J : Nat → Nat → Int32} {o : Int32} {sea : Bool}
theorem LK_hi8 (hk : LK C S L) : ∀ a, a < 16 → hi0 (L 8 a) := fun a ha i h1 h2 => by rw [hk.bk ha h2, decide_eq_false (show ¬ i < 16 by omega), Bool.false_and]
theorem jStr_eq (hk : LK C S L) (w : WJ C S sea o J) {a : Nat} (ha : a < 16) : jStr L J a = nI (str C S sea (bt o) a) := by
  unfold jStr str
  rw [cnt_of (P := fun i => gvn C S sea (bt o) i && decide (gof S i = a)) (fun i hi => by
    rw [b_and, hk.bk ha hi, w.2.2.1 i hi]
    cases hg : gvn C S sea (bt o) i
    · simp
    · rw [gvn_blg hg]; cases decide (i < 16) <;> simp)]
  exact nI_sum rfl rfl
theorem goal_X (hk : LK C S L) (ho : okO S) {a : Nat} {y : Int32} (ha : a < 16) (hm : mv S a = true) : L 6 a &&& y = 0 ↔ bt y (gof S a) = false := by
  rw [hk.goal ha, if_pos hm]
  exact sg_and0 (by have := (mv_g ho ha hm).2; omega)
theorem jHs_eq (hk : LK C S L) (ho : okO S) (w : WJ C S sea o J) {a : Nat} (ha : a < 16) (hm : mv S a = true) : jHs L J a = if (bt o (gof S a) && !opp C S a) = true then 0 else L 9 a := by
  unfold jHs
  rw [w.1]
  have hop : bt (L 3 0) a = opp C S a := by rw [hk.op (by omega)]; simp [ha]
  cases e : bt o (gof S a)
  · rw [if_pos ((goal_X hk ho ha hm).mpr e)]; simp
  · rw [if_neg (fun q => by rw [(goal_X hk ho ha hm).mp q] at e; cases e), hop]
    cases opp C S a <;> simp
theorem jAtt_eq (hk : LK C S L) (ho : okO S) (w : WJ C S sea o J) {a : Nat} (ha : a < 16) (hm : mv S a = true) : jAtt L J a = nI (att C S sea (bt o) a) := by
  have hu := mv_uu hm
  have hg := (mv_g ho ha hm).2
  have hp : bt (J 2 0) a = pth C S sea (bt o) a := by rw [w.2.1 a (by omega)]; simp [ha]
  have hbits : ∀ (f : Int32) (P : Nat → Bool), (∀ i, i < 32 → bt f i = (decide (i < 16) && P i)) → (1 : Int32) + nI (cnt ((L 8 a &&& J 3 0) &&& (f ^^^ (-1 : Int32)))) = nI (1 + fb_ct (fun i => gvn C S sea (bt o) i && (decide (gof S i = a) && !P i)) 16) := fun f P hf => by
    rw [cnt_of (P := fun i => gvn C S sea (bt o) i && (decide (gof S i = a) && !P i)) (fun i hi => by
      rw [b_and, b_and, b_not hi, hk.bk ha hi, w.2.2.1 i hi, hf i hi]
      cases hgv : gvn C S sea (bt o) i
      · simp
      · rw [gvn_blg hgv]; cases decide (i < 16) <;> simp)]
    exact nI_sum rfl rfl
  unfold jAtt att
  rw [hp]
  cases hpt : pth C S sea (bt o) a
  · rfl
  · rw [if_pos rfl, if_pos rfl, jHs_eq hk ho w ha hm]
    cases hl : (bt o (gof S a) && !opp C S a)
    · rw [if_neg (show ¬ (false = true) by decide)]
      have h9 : bt (L 9 a) a = decide (S 6 a = S 6 (gof S a)) := by rw [hk.ho ha (by omega), hm, hu]; simp [ha]
      rw [h9, hbits (L 9 a) (fun i => uu S i && decide (S 6 i = S 6 (gof S a))) (fun i hi => by rw [hk.ho ha hi, hm]; simp)]
      cases hug : uu S (gof S a)
      · have e6 : S 6 (gof S a) = -1 := by unfold uu at hug; simpa using hug
        have hne : ∀ i, uu S i = true → decide (S 6 i = S 6 (gof S a)) = false := fun i hi => by
          rw [e6]; unfold uu at hi; simpa using hi
        rw [hne a hu]
        rw [if_neg (show ¬ (false = true) by decide), if_pos (show (!false || false) = true by decide)]
        unfold str
        congr 2
        refine fb_ct_cong (fun i hi => ?_)
        cases hgv : gvn C S sea (bt o) i
        · rfl
        · rw [hne i (blg_uu (gvn_blg hgv))]; simp
      · rw [if_neg (show ¬ ((!true || false) = true) by decide)]
        by_cases e : S 6 a = S 6 (gof S a)
        · rw [if_pos (decide_eq_true e), if_pos e.symm]; rfl
        · rw [if_neg (by rw [decide_eq_false e]; decide), if_neg (fun q => e q.symm)]
          congr 2
          refine fb_ct_cong (fun i hi => ?_)
          cases hgv : gvn C S sea (bt o) i
          · rfl
          · rw [blg_uu (gvn_blg hgv)]; simp
    · rw [if_pos rfl, if_neg (show ¬ (bt 0 a = true) by rw [b_0]; decide), if_pos (show (!uu S (gof S a) || true) = true by simp), hbits 0 (fun _ => false) (fun i hi => by rw [b_0]; simp)]
      unfold str
      congr 2
      refine fb_ct_cong (fun i hi => ?_)
      simp
theorem jRes_eq (hk : LK C S L) (ho : okO S) (w : WJ C S sea o J) {a : Nat} (ha : a < 16) (hm : mv S a = true) : jRes L J a = nI (rsi C S sea (bt o) a) := by
  have hg := (mv_g ho ha hm).2
  have hop : bt (L 3 0) a = opp C S a := by rw [hk.op (by omega)]; simp [ha]
  have h0 : L 6 a &&& L 0 0 = 0 ↔ uu S (gof S a) = false := by rw [goal_X hk ho ha hm, hk.u (by omega)]; simp [hg]
  have h1 : L 6 a &&& L 1 0 = 0 ↔ mv S (gof S a) = false := by rw [goal_X hk ho ha hm, hk.m (by omega)]; simp [hg]
  have h5 : L 6 a &&& J 5 0 = 0 ↔ bt o (gof S a) = false := by rw [goal_X hk ho ha hm, w.1]
  have hR : uu S (gof S a) = true → (1 : Int32) + nI (cnt (L 10 a &&& J 3 0)) = nI (str C S sea (bt o) (gof S a)) := fun hu => by
    rw [hk.hb ha hm, if_pos hu]
    exact jStr_eq hk w hg
  unfold jRes rsi hld
  rw [hop]
  cases hu : uu S (gof S a)
  · rw [if_pos (h0.mpr hu)]
    have : opp C S a = false := by
      cases e : opp C S a
      · rfl
      · rw [mv_uu (dm_mv (opp_g e))] at hu; cases hu
    rw [this]; rfl
  · rw [if_neg (fun q => by rw [h0.mp q] at hu; cases hu)]
    cases hmg : mv S (gof S a)
    · rw [if_pos (h1.mpr hmg), hR hu]
      have : opp C S a = false := by
        cases e : opp C S a
        · rfl
        · rw [dm_mv (opp_g e)] at hmg; cases hmg
      rw [this]; rfl
    · rw [if_neg (fun q => by rw [h1.mp q] at hmg; cases hmg)]
      cases e : opp C S a
      · simp only [Bool.false_eq_true, reduceIte]
        cases ex : bt o (gof S a)
        · rw [if_pos (h5.mpr ex)]; rfl
        · rw [if_neg (show ¬ (L 6 a &&& J 5 0 = 0) from fun q => by rw [h5.mp q] at ex; cases ex)]; rfl
      · rw [if_pos rfl, if_pos rfl, hR hu]
def mxf (P : Nat → Bool) (f : Nat → Nat) (c m : Nat) : Nat := if P c = true then max m (f c) else m
theorem mxf_le {P : Nat → Bool} {f : Nat → Nat} {B m0 : Nat} (hf : ∀ c, f c ≤ B) (h0 : m0 ≤ B) : ∀ n, osit (mxf P f) 0 n m0 ≤ B
  | 0 => h0
  | n + 1 => by
    rw [osit_last, Nat.zero_add]
    unfold mxf
    have := mxf_le (P := P) hf h0 n
    unfold mxf at this
    split
    · exact Nat.max_le.mpr ⟨this, hf n⟩
    · exact this
theorem le_mxf {P : Nat → Bool} {f : Nat → Nat} {x m0 : Nat} : ∀ {n : Nat}, x ≤ osit (mxf P f) 0 n m0 ↔ x ≤ m0 ∨ ∃ c, c < n ∧ P c = true ∧ x ≤ f c
  | 0 => by rw [osit_zero]; simp
  | n + 1 => by
    rw [osit_last, Nat.zero_add]
    have ih := le_mxf (P := P) (f := f) (x := x) (m0 := m0) (n := n)
    have e : x ≤ mxf P f n (osit (mxf P f) 0 n m0) ↔ x ≤ osit (mxf P f) 0 n m0 ∨ (P n = true ∧ x ≤ f n) := by
      unfold mxf
      by_cases hp : P n = true
      · rw [if_pos hp]
        simp only [hp, true_and]
        omega
      · rw [if_neg hp]
        simp [hp]
    rw [e, ih]
    constructor
    · rintro ((h | ⟨c, h1, h2, h3⟩) | ⟨h1, h2⟩)
      · exact Or.inl h
      · exact Or.inr ⟨c, by omega, h2, h3⟩
      · exact Or.inr ⟨n, by omega, h1, h2⟩
    · rintro (h | ⟨c, h1, h2, h3⟩)
      · exact Or.inl (Or.inl h)
      · by_cases ec : c = n
        · subst ec; exact Or.inr ⟨h2, h3⟩
        · exact Or.inl (Or.inr ⟨c, by omega, h2, h3⟩)
theorem jPrev_eq (hk : LK C S L) (ho : okO S) (w : WJ C S sea o J) {a : Nat} (ha : a < 16) (hm : mv S a = true) : jPrev L J a = nI (osit (mxf (fun c => (!decide (c = a) && (mv S c && decide (gof S c = gof S a))) && (pth C S sea (bt o) c && !(opp C S c && bt o (gof S c)))) (fun c => str C S sea (bt o) c)) 0 16 0) := by
  unfold jPrev
  have key : ∀ n, n ≤ 16 → osit (stPv L J (L 7 a &&& J 2 0)) 0 n 0 = nI (osit (mxf (fun c => (!decide (c = a) && (mv S c && decide (gof S c = gof S a))) && (pth C S sea (bt o) c && !(opp C S c && bt o (gof S c)))) (fun c => str C S sea (bt o) c)) 0 n 0) := by
    intro n
    induction n with
    | zero => intro _; rfl
    | succ n ih =>
      intro hn
      rw [osit_last, osit_last, Nat.zero_add, ih (by omega)]
      have hM := mxf_le (P := fun c => (!decide (c = a) && (mv S c && decide (gof S c = gof S a))) && (pth C S sea (bt o) c && !(opp C S c && bt o (gof S c)))) (f := fun c => str C S sea (bt o) c) (B := 17) (m0 := 0) (fun c => str_le) (by omega) n
      generalize osit (mxf (fun c => (!decide (c = a) && (mv S c && decide (gof S c = gof S a))) && (pth C S sea (bt o) c && !(opp C S c && bt o (gof S c)))) (fun c => str C S sea (bt o) c)) 0 n 0 = M at hM ⊢
      have hb : bt (L 7 a &&& J 2 0) n = ((!decide (n = a) && (mv S n && decide (gof S n = gof S a))) && pth C S sea (bt o) n) := by
        rw [b_and, hk.rv ha (by omega), w.2.1 n (by omega), hm]
        simp [show n < 16 by omega]
      have hop : bt (L 3 0) n = opp C S n := by rw [hk.op (by omega)]; simp [show n < 16 by omega]
      have hmx : osmax (nI M) (jStr L J n) = nI (max M (str C S sea (bt o) n)) := by
        rw [jStr_eq hk w (by omega)]
        exact osmax_nI (by omega) (by have := str_le (C := C) (S := S) (sea := sea) (X := bt o) (a := n); omega)
      unfold stPv mxf
      rw [hb, hop, hmx, w.1]
      show _ = nI (if ((!decide (n = a) && (mv S n && decide (gof S n = gof S a))) && (pth C S sea (bt o) n && !(opp C S n && bt o (gof S n)))) = true then max M (str C S sea (bt o) n) else M)
      cases e1 : (!decide (n = a) && (mv S n && decide (gof S n = gof S a)))
      · simp only [Bool.false_and, Bool.false_eq_true, reduceIte]
      · cases e2 : pth C S sea (bt o) n
        · simp only [Bool.false_and, Bool.and_false, Bool.false_eq_true, reduceIte]
        · have hmn : mv S n = true := by
            rw [Bool.and_eq_true, Bool.and_eq_true] at e1; exact e1.2.1
          simp only [Bool.true_and, reduceIte]
          cases e3 : opp C S n
          · simp
          · simp only [Bool.true_and, reduceIte]
            cases e4 : bt o (gof S n)
            · rw [if_pos ((goal_X hk ho (by omega) hmn).mpr e4)]; simp
            · rw [if_neg (show ¬ (L 6 n &&& o = 0) from fun q => by rw [(goal_X hk ho (by omega) hmn).mp q] at e4; cases e4)]; simp
  exact key 16 (Nat.le_refl _)
theorem jSh_eq (hk : LK C S L) (ho : okO S) (w : WJ C S sea o J) {a : Nat} (ha : a < 16) (hm : mv S a = true) : jSh L J a = shd C S sea (bt o) a := by
  unfold jSh shd
  rw [jAtt_eq hk ho w ha hm, jRes_eq hk ho w ha hm, jPrev_eq hk ho w ha hm]
  have b1 := att_le (C := C) (S := S) (sea := sea) (X := bt o) (a := a)
  have b2 := rsi_le (C := C) (S := S) (sea := sea) (X := bt o) (a := a)
  have b3 := mxf_le (P := fun c => (!decide (c = a) && (mv S c && decide (gof S c = gof S a))) && (pth C S sea (bt o) c && !(opp C S c && bt o (gof S c)))) (f := fun c => str C S sea (bt o) c) (B := 17) (m0 := 0) (fun c => str_le) (by omega) 16
  have e1 : (!decide (nI (att C S sea (bt o) a) ≤ nI (rsi C S sea (bt o) a))) = decide (rsi C S sea (bt o) a < att C S sea (bt o) a) := by
    by_cases h : rsi C S sea (bt o) a < att C S sea (bt o) a
    · rw [decide_eq_true h, decide_eq_false (fun q => by have := (nI_leI (by omega) (by omega)).mp q; omega)]; rfl
    · rw [decide_eq_false h, decide_eq_true ((nI_leI (by omega) (by omega)).mpr (by omega))]; rfl
  rw [e1]
  by_cases h : rsi C S sea (bt o) a < att C S sea (bt o) a
  · rw [decide_eq_true h, Bool.true_and, Bool.true_and]
    congr 1
    have e2 : (nI (att C S sea (bt o) a) ≤ nI (osit (mxf (fun c => (!decide (c = a) && (mv S c && decide (gof S c = gof S a))) && (pth C S sea (bt o) c && !(opp C S c && bt o (gof S c)))) (fun c => str C S sea (bt o) c)) 0 16 0)) ↔ exn (fun c => !decide (c = a) && ((mv S c && decide (gof S c = gof S a)) && decide (att C S sea (bt o) a ≤ prv C S sea (bt o) c))) 16 = true := by
      rw [nI_leI (by omega) (by omega), le_mxf, exn_iff]
      constructor
      · rintro (q | ⟨c, h1, h2, h3⟩)
        · omega
        · refine ⟨c, h1, ?_⟩
          rw [Bool.and_eq_true, Bool.and_eq_true] at h2
          have : prv C S sea (bt o) c = str C S sea (bt o) c := by unfold prv; rw [if_pos h2.2]
          rw [this, h2.1.1, h2.1.2, decide_eq_true h3]; rfl
      · rintro ⟨c, h1, h2⟩
        rw [Bool.and_eq_true, Bool.and_eq_true] at h2
        have h3 := of_decide_eq_true h2.2.2
        refine Or.inr ⟨c, h1, ?_⟩
        unfold prv at h3
        split at h3
        · rename_i h4
          exact ⟨by rw [h2.1, h2.2.1, h4]; rfl, h3⟩
        · omega
    cases e3 : exn (fun c => !decide (c = a) && ((mv S c && decide (gof S c = gof S a)) && decide (att C S sea (bt o) a ≤ prv C S sea (bt o) c))) 16
    · exact decide_eq_false (fun q => by rw [e2.mp q] at e3; cases e3)
    · exact decide_eq_true (e2.mpr e3)
  · rw [decide_eq_false h]; rfl
theorem fd_exn {P : Nat → Bool} : ∀ {k i : Nat}, (fd P i k).isSome = exn (fun c => P (i + c)) k := by
  intro k i
  cases e : fd P i k with
  | none =>
    have := fd_none e
    symm
    exact exn_no.mpr (fun c hc => this (i + c) (by omega) (by omega))
  | some j =>
    obtain ⟨h1, h2, h3⟩ := fd_some e
    symm
    exact exn_iff.mpr ⟨j - i, by omega, by rw [show i + (j - i) = j by omega]; exact h3⟩
theorem cns_eq (hk : LK C S L) (ho : okO S) (w : WJ C S sea o J) : (!(fd (jBad L J) 0 16).isSome) = cns C S sea (bt o) := by
  rw [fd_exn]
  unfold cns
  congr 1
  refine exn_cong (fun a ha => ?_)
  rw [Nat.zero_add]
  unfold jBad
  rw [hk.m (by omega), w.1]
  cases hm : mv S a
  · simp
  · rw [jSh_eq hk ho w ha hm]; simp [ha]
end
