/-! the law's own steps (8): the tokens of a text that is known -/
theorem sc_to {p : Nat → Bool} {L : Nat} : ∀ (m : Nat) {i j : Nat}, j - i = m → i ≤ j → j ≤ L → (∀ k, i ≤ k → k < j → p k = true) → (j < L → p j = false) → sc p L i = j
  | 0, i, j, e, h, _, _, hn => by
    have : i = j := by omega
    subst this; exact sc_no hn
  | m + 1, i, j, e, h, hl, hp, hn => by
    rw [sc_go (by omega) (hp i (Nat.le_refl _) (by omega))]
    exact sc_to m (by omega) (by omega) hl (fun k h1 h2 => hp k (by omega) h2) hn
/-- at p stands u -/
def bAt (b : Nat → Nat) (p : Nat) (u : List Nat) : Prop := ∀ k, k < u.length → b (p + k) = u.getD k 0
def lets (w : List Nat) : Prop := ∀ k, k < w.length → isLt (w.getD k 0) = true
def pkl (w : List Nat) : Nat := pkn (fun k => w.getD k 0) 0 w.length
section
variable {b : Nat → Nat} {L p : Nat} {u v w r : List Nat} {c : Nat}
theorem bAt_l (h : bAt b p (u ++ v)) : bAt b p u := fun k hk => by
  rw [h k (by rw [List.length_append]; omega), get_appl hk]
theorem bAt_r (h : bAt b p (u ++ v)) : bAt b (p + u.length) v := fun k hk => by
  have := h (u.length + k) (by rw [List.length_append]; omega)
  rw [get_appr (by omega), show u.length + k - u.length = k by omega] at this
  rw [Nat.add_assoc]; exact this
theorem bAt_c (h : bAt b p (c :: r)) : b p = c ∧ bAt b (p + 1) r := ⟨h 0 (by simp), fun k hk => by
  have := h (k + 1) (by simp; omega)
  rw [show p + (k + 1) = p + 1 + k by omega] at this
  rw [this]; rfl⟩
theorem pkn_at {s : Nat} (h : bAt b s w) : ∀ m, m ≤ w.length → pkn b s m = pkn (fun k => w.getD k 0) 0 m
  | 0, _ => rfl
  | m + 1, hm => by
    show 32 * pkn b s m + (b (s + m) - 96) = 32 * pkn _ 0 m + (w.getD (0 + m) 0 - 96)
    rw [pkn_at h m (by omega), h m (by omega), Nat.zero_add]
theorem let_sp {c : Nat} (h : isLt c = true) : isSp c = false := by
  unfold isLt at h
  simp only [Bool.and_eq_true, decide_eq_true_eq] at h
  unfold isSp
  rw [decide_eq_false (by omega), decide_eq_false (by omega)]; rfl
/-- what a word is, from s -/
theorem tk_of {s : Nat} (hs : tS b L p = s) (h : bAt b s (w ++ c :: r)) (hw : lets w) (hc : isLt c = false) (h0 : 0 < w.length) (hl : s + w.length < L) : tN b L p = w.length ∧ tX b L p = s + w.length ∧ (w.length ≤ 7 → tV b L p = pkl w) := by
  have hx := bAt_l h
  have hb : b (s + w.length) = c := (bAt_c (bAt_r h)).1
  have eW : tW b L p = s + w.length := by
    unfold tW
    rw [hs]
    exact sc_to w.length (by omega) (by omega) (by omega) (fun k h1 h2 => by
      have := hx (k - s) (by omega)
      rw [show s + (k - s) = k by omega] at this
      rw [this]; exact hw _ (by omega)) (fun _ => by rw [hb]; exact hc)
  have eN : tN b L p = w.length := by unfold tN; rw [eW, hs]; omega
  refine ⟨eN, by unfold tX; rw [if_pos (by omega), eW], fun h7 => ?_⟩
  unfold tV
  rw [if_pos (by omega), hs, eN]
  exact pkn_at hx _ (Nat.le_refl _)
/-- a word here -/
theorem tk0 (h : bAt b p (w ++ c :: r)) (hw : lets w) (hc : isLt c = false) (h0 : 0 < w.length) (hl : p + w.length < L) : tN b L p = w.length ∧ tX b L p = p + w.length ∧ (w.length ≤ 7 → tV b L p = pkl w) := by
  refine tk_of (s := p) ?_ h hw hc h0 hl
  have hx := bAt_l h
  exact sc_no (fun _ => by
    have := hx 0 h0
    rw [Nat.add_zero] at this
    rw [this]; exact let_sp (hw 0 h0))
/-- a word behind a space -/
theorem tk1 (h : bAt b p (32 :: (w ++ c :: r))) (hw : lets w) (hc : isLt c = false) (h0 : 0 < w.length) (hl : p + 1 + w.length < L) : tN b L p = w.length ∧ tX b L p = p + 1 + w.length ∧ (w.length ≤ 7 → tV b L p = pkl w) := by
  obtain ⟨e, h1⟩ := bAt_c h
  refine tk_of (s := p + 1) ?_ h1 hw hc h0 hl
  have hx := bAt_l h1
  unfold tS
  rw [sc_go (p := fun k => isSp (b k)) (i := p) (by omega) (show isSp (b p) = true by rw [e]; rfl)]
  exact sc_no (fun _ => by
    have := hx 0 h0
    rw [Nat.add_zero] at this
    rw [this]; exact let_sp (hw 0 h0))
/-- a semicolon here -/
theorem tk_semi (h : bAt b p (59 :: r)) (hl : p < L) : tK b L p = 2 ∧ tX b L p = p + 1 := by
  have e := (bAt_c h).1
  have eS : tS b L p = p := sc_no (fun _ => by rw [e]; rfl)
  have eN : tN b L p = 0 := by
    unfold tN tW
    rw [eS, sc_no (fun _ => by rw [e]; rfl)]; omega
  constructor
  · unfold tK; rw [if_neg (by omega), eS, if_neg (by omega), e, if_pos rfl]
  · unfold tX; rw [if_neg (by omega), eS, if_neg (by omega)]
/-- the end -/
theorem tk_end : L ≤ tS b L L := by
  unfold tS
  rw [sc_no (fun q => by omega)]; omega
theorem kwb_is {j : Nat} (h0 : 0 < tN b L p) {u : Nat} (hv : tV b L p = u) : kwb b L p j = decide (u = kwN j) := by rw [kwb_v h0, hv]
theorem noKw : ∀ v, v < 27 → isKw v = false := by decide +kernel
theorem tM_is {u : Nat} (h0 : 0 < tN b L p) (h5 : tN b L p ≤ 5) (hv : tV b L p = u) (hk : isKw u = false) : tM b L p = some u := by
  unfold tM
  rw [decide_eq_true h0, decide_eq_true h5, hv, hk]; rfl
end
/-- a letter -/
theorem let_1 {a : Nat} (h : a < 26) : lets [97 + a] := fun k hk => by
  have : k = 0 := by simp at hk; omega
  subst this
  show isLt (97 + a) = true
  unfold isLt
  rw [decide_eq_true (by omega), decide_eq_true (by omega)]; rfl
theorem pkl_1 {a : Nat} : pkl [97 + a] = a + 1 := by
  show 32 * 0 + (97 + a - 96) = a + 1
  omega
/-- a one-letter name here -/
theorem nm0 {b : Nat → Nat} {L p a c : Nat} {r : List Nat} (h : bAt b p ((97 + a) :: c :: r)) (ha : a < 26) (hc : isLt c = false) (hl : p + 1 < L) : tM b L p = some (a + 1) ∧ tX b L p = p + 1 := by
  obtain ⟨h1, h2, h3⟩ := tk0 (w := [97 + a]) (c := c) (r := r) h (let_1 ha) hc Nat.zero_lt_one hl
  exact ⟨tM_is (by rw [h1]; exact Nat.zero_lt_one) (by rw [h1]; exact (by decide : 1 ≤ 5)) (by rw [h3 (by decide : 1 ≤ 7), pkl_1]) (noKw _ (by omega)), h2⟩
/-- a one-letter name behind a space -/
theorem nm1 {b : Nat → Nat} {L p a c : Nat} {r : List Nat} (h : bAt b p (32 :: (97 + a) :: c :: r)) (ha : a < 26) (hc : isLt c = false) (hl : p + 2 < L) : tM b L p = some (a + 1) ∧ tX b L p = p + 2 := by
  obtain ⟨h1, h2, h3⟩ := tk1 (w := [97 + a]) (c := c) (r := r) h (let_1 ha) hc Nat.zero_lt_one hl
  exact ⟨tM_is (by rw [h1]; exact Nat.zero_lt_one) (by rw [h1]; exact (by decide : 1 ≤ 5)) (by rw [h3 (by decide : 1 ≤ 7), pkl_1]) (noKw _ (by omega)), h2⟩
/-- the law's names; no homes -/
def nmB (C : Nat → Nat → Int32) (n : Nat) : Prop := (∀ k, k < n → C 5 k = nI (k + 1)) ∧ ∀ k, k < 16 → C 6 k = -1
theorem nm_find {C : Nat → Nat → Int32} {n a : Nat} (h : ∀ k, k < n → C 5 k = nI (k + 1)) (h16 : n ≤ 16) (ha : a < n) : fd (fun k => decide (C 5 k = nI (a + 1))) 0 n = some a := by
  cases e : fd (fun k => decide (C 5 k = nI (a + 1))) 0 n with
  | none =>
    have := fd_none e a (Nat.zero_le _) (by omega)
    simp only [h a ha, decide_true] at this
    cases this
  | some k =>
    obtain ⟨_, h1, h2⟩ := fd_some e
    have h2 := of_decide_eq_true h2
    rw [h k (by omega)] at h2
    have := (nI_eq (by omega) (by omega)).mp h2
    rw [show k = a by omega]
theorem nm_none {C : Nat → Nat → Int32} {n a : Nat} (h : ∀ k, k < n → C 5 k = nI (k + 1)) (h16 : n ≤ 16) (ha : n ≤ a) (h26 : a < 26) : fd (fun k => decide (C 5 k = nI (a + 1))) 0 n = none := by
  cases e : fd (fun k => decide (C 5 k = nI (a + 1))) 0 n with
  | none => rfl
  | some k =>
    obtain ⟨_, h1, h2⟩ := fd_some e
    have h2 := of_decide_eq_true h2
    rw [h k (by omega)] at h2
    have := (nI_eq (by omega) (by omega)).mp h2
    omega
