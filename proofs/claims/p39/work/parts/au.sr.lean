/-! the law's own steps (28): each statement of the law's maps -/
def MI (n np k m q : Nat) (B S : Nat → Nat → Int32) : Prop := QMx B S n np ∧ MN n np B ∧ BR k m B ∧ ∀ a, a < 16 → q ≤ a → uu S a = false
def kw_la : List Nat := [108, 97, 110, 100]
def kw_co : List Nat := [99, 111, 97, 115, 116]
def kw_se : List Nat := [115, 101, 97]
def kw_bo : List Nat := [98, 111, 114, 100, 101, 114]
def kw_po : List Nat := [112, 111, 119, 101, 114]
def kw_ar : List Nat := [97, 114, 109, 121]
def kw_fl : List Nat := [102, 108, 101, 101, 116]
theorem lets_of {w : List Nat} (h : ∀ k, k < 8 → k < w.length → isLt (w.getD k 0) = true) (hl : w.length ≤ 8) : lets w := fun k hk => h k (by omega) hk
theorem kw_lets : lets kw_la ∧ lets kw_co ∧ lets kw_se ∧ lets kw_bo ∧ lets kw_po ∧ lets kw_ar ∧ lets kw_fl :=
  ⟨lets_of (by decide) (by decide), lets_of (by decide) (by decide), lets_of (by decide) (by decide), lets_of (by decide) (by decide), lets_of (by decide) (by decide), lets_of (by decide) (by decide), lets_of (by decide) (by decide)⟩
theorem kw_pks : pkl kw_la = kwN 0 ∧ pkl kw_co = kwN 1 ∧ pkl kw_se = kwN 2 ∧ pkl kw_bo = kwN 4 ∧ pkl kw_po = kwN 7 ∧ pkl kw_ar = kwN 5 ∧ pkl kw_fl = kwN 6 := by decide +kernel
theorem kw_ne {i j : Nat} (h : kwN i = kwN j) (hi : i < 15) (hj : j < 15) (hne : ¬ i = j) : False := hne (kw_inj i hi j hj h)
section
variable {G : osG} {N x n np k m q : Nat}
theorem MI.b0 {B S : Nat → Nat → Int32} (h : MI n np k m q B S) : B 0 0 = nI n ∧ B 1 0 = nI np ∧ n ≤ 16 ∧ np ≤ 4 := ⟨h.1.bdI.c0, h.1.bdI.c1, h.1.bdI.n16, h.1.bdI.p4⟩
/-- at a statement's keyword -/
theorem kw_at {b : Nat → Nat} {L p j : Nat} {w r : List Nat} (hw : lets w) (h0 : 0 < w.length) (h7 : w.length ≤ 7) (hj : pkl w = kwN j) (hb : bAt b p (w ++ 32 :: r)) (hl : p + w.length < L) : (∀ i, kwb b L p i = decide (kwN j = kwN i)) ∧ tX b L p = p + w.length ∧ tS b L p < L ∧ bAt b (p + w.length) (32 :: r) := by
  obtain ⟨h1, h2⟩ := y_kw hw h0 h7 hb hl
  refine ⟨fun i => by rw [h1, hj], h2, ?_, bAt_r hb⟩
  obtain ⟨t1, _, _⟩ := tk0 hb hw rfl h0 hl
  unfold tN at t1
  have := (tW_le (b := b) (L := L) (i := p) (by omega)).2
  omega
theorem SR_border {a c : Nat} (ha : a < n) (hc : c < n) (hac : a < c) (hn : n ≤ 12) (hkd : c < 6 ∨ 3 ≤ a) (hk : a = k) (hm : m ≤ c) : SR G N x (kw_bo ++ [32, 97 + a, 32, 97 + c]) (MI n np k m q) (MI n np k (c + 1) q) := by
  intro L b ad W D z C E B S p cx hb hl hI h tc
  subst hk
  obtain ⟨b0, b1, h16, h4⟩ := hI.b0
  obtain ⟨hq, hM, hB, hu⟩ := id hI
  have hl' : p + 10 < L := hl
  obtain ⟨k1, k2, k3, k4⟩ := kw_at (j := 4) (r := [97 + a, 32, 97 + c, 59]) kw_lets.2.2.2.1 (by decide) (by decide) kw_pks.2.2.2.1 hb (show p + 6 < L by omega)
  refine ⟨k3, y_stmt (u := kwN 4) cx h tc (by omega) k1 (by simp) (fun e => (kw_ne e (by decide) (by decide) (by decide)).elim) (fun e => (kw_ne e (by decide) (by decide) (by decide)).elim) (fun e => (kw_ne e (by decide) (by decide) (by decide)).elim) (fun _ z1 C1 E1 h1 t1 => ?_) (fun e => (kw_ne e (by decide) (by decide) (by decide)).elim) (fun e => (kw_ne e (by decide) (by decide) (by decide)).elim) (fun e => (kw_ne e (by decide) (by decide) (by decide)).elim)⟩
  rw [k2] at t1
  have hno : (bt (B 7 a) c || bt (B 8 a) c) = false := by
    cases r : (bt (B 7 a) c || bt (B 8 a) c)
    · rfl
    · rcases hB a c hac (by omega) r with s | ⟨_, s⟩ <;> omega
  have hs : ((suit B a 0 && suit B c 0) || (suit B a 1 && suit B c 1)) = true := by
    rcases hkd with r | r
    · rw [hM.2.2.2.1 a ha (by omega), hM.2.2.2.1 c hc r]; simp
    · rw [hM.2.2.2.2 a ha r, hM.2.2.2.2 c hc (by omega)]; simp
  refine gx_mono (y_border cx h1 t1 b0 h16 hM.1 ha hc (by omega) hno hs k4 (show p + 6 + 4 < L by omega)) (fun r z' ⟨e, C2, E2, h2, t2⟩ => ⟨e, rfl, _, _, C2, E2, h2, t2, QMx_border hq ha hc (by omega) ?_, MN_border hM, BR_border (BR_up hB (Or.inr ⟨rfl, hm⟩)) (by omega) (by omega) hac, hu⟩)
  rw [Bool.or_eq_true] at hs
  exact hs
theorem SR_power (h4 : np < 4) (hn : n ≤ 12) : SR G N x (kw_po ++ [32, 97 + (15 + np)]) (MI n np k m q) (MI n (np + 1) k m q) := by
  intro L b ad W D z C E B S p cx hb hl hI h tc
  obtain ⟨b0, b1, h16, _⟩ := hI.b0
  obtain ⟨hq, hM, hB, hu⟩ := id hI
  have hl' : p + 7 < L := hl
  obtain ⟨k1, k2, k3, k4⟩ := kw_at (j := 7) (r := [97 + (15 + np), 59]) kw_lets.2.2.2.2.1 (by decide) (by decide) kw_pks.2.2.2.2.1 hb (show p + 5 < L by omega)
  refine ⟨k3, y_stmt (u := kwN 7) cx h tc (by omega) k1 (by simp) (fun e => (kw_ne e (by decide) (by decide) (by decide)).elim) (fun e => (kw_ne e (by decide) (by decide) (by decide)).elim) (fun e => (kw_ne e (by decide) (by decide) (by decide)).elim) (fun e => (kw_ne e (by decide) (by decide) (by decide)).elim) (fun _ z1 C1 E1 a0 h1 t1 => ?_) (fun e => (kw_ne e (by decide) (by decide) (by decide)).elim) (fun e => (kw_ne e (by decide) (by decide) (by decide)).elim)⟩
  rw [k2] at t1
  refine gx_mono (y_power cx h1 t1 b1 h4 hM.2.1 k4 (show p + 5 + 2 < L by omega)) (fun r z' ⟨e, C2, E2, h2, t2⟩ => ⟨e, rfl, _, _, C2, E2, h2, t2, QMx_power hq h4 (by omega) (by omega), ?_, ?_, hu⟩)
  · obtain ⟨h5, h9, h6, s1, s0⟩ := hM
    exact ⟨h5, fun p hp => by
      show upd (B 9) np (nI (np + 16)) p = _
      by_cases e : p = np
      · subst e; rw [upd_eq]
      · rw [upd_ne e]; exact h9 p (by omega), h6, s1, s0⟩
  · exact hB
end
