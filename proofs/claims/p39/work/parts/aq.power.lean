/-! the law's own steps (24): a power's statement, a unit's -/
theorem let_any {a : Nat} (h : a < 10) : (112 + a) = 97 + (15 + a) := by omega
section
variable {G : osG} {z : osS} {N x n np L i a p : Nat} {ad : Nat → Nat} {W : Nat → Nat → Nat → Int32} {D : osS} {E : Nat → Nat → Int64} {b : Nat → Nat} {B S C : Nat → Nat → Int32} {r : List Nat} {a0 kd : Int32}
theorem pw_find {C : Nat → Nat → Int32} {n a : Nat} (h : ∀ k, k < n → C 9 k = nI (k + 16)) (h16 : n ≤ 4) (ha : a < n) : fd (fun k => decide (C 9 k = nI (a + 16))) 0 n = some a := by
  cases e : fd (fun k => decide (C 9 k = nI (a + 16))) 0 n with
  | none =>
    have := fd_none e a (Nat.zero_le _) (by omega)
    simp only [h a ha, decide_true] at this
    cases this
  | some k =>
    obtain ⟨_, h1, h2⟩ := fd_some e
    have h2 := of_decide_eq_true h2
    rw [h k (by omega)] at h2
    have := (nI_eq (by omega) (by omega)).mp h2
    rw [show k = a by omega]
theorem pw_none {C : Nat → Nat → Int32} {n : Nat} (h : ∀ k, k < n → C 9 k = nI (k + 16)) (h16 : n ≤ 4) : fd (fun k => decide (C 9 k = nI (n + 16))) 0 n = none := by
  cases e : fd (fun k => decide (C 9 k = nI (n + 16))) 0 n with
  | none => rfl
  | some k =>
    obtain ⟨_, h1, h2⟩ := fd_some e
    have h2 := of_decide_eq_true h2
    rw [h k (by omega)] at h2
    have := (nI_eq (by omega) (by omega)).mp h2
    omega
theorem y_power (cx : CXm G N x L b W) (h : MW z x ad (Ws (Ws W 2 B) 4 S) D C E) (tc : tkC b L i C E) (b1 : B 1 0 = nI np) (h4 : np < 4) (hp : ∀ k, k < np → B 9 k = nI (k + 16)) (hb : bAt b i (32 :: (97 + (15 + np)) :: 59 :: r)) (hl : i + 2 < L) : gx (qX3_readPower N (x + 4) (ad 1) (ad 3) a0 G z) (fun q z' => q = 1 ∧ ∃ C' E', MW z' x ad (Ws (Ws W 2 (cset (cset B 9 (upd (B 9) np (nI (np + 16)))) 1 fun _ => B 1 0 + (1 : Int32))) 4 S) D C' E' ∧ tkC b L (i + 2) C' E') := by
  have hA := cx.2.1
  have hN := cx.2.2.1
  obtain ⟨n1, x1⟩ := nm1 (L := L) (a := 15 + np) (c := 59) (r := r) hb (by omega) rfl hl
  rw [show 15 + np + 1 = np + 16 by omega] at n1
  have hb2 : bAt b (i + 2) (59 :: r) := (bAt_c (bAt_c hb).2).2
  obtain ⟨s2, _⟩ := tk_semi hb2 hl
  have t0 := (tX_s (b := b) (L := L) (by omega) s2).2.2.2.2
  unfold qX3_readPower
  refine gx_gI h.b2.o (by decide) rfl ?_
  refine gx_itet (by rw [b1]; exact (nI_ltI (a := np) (b := 4) (by omega) (by omega)).mpr h4) (y_name cx h tc (by omega) n1 (fun z1 C1 E1 h1 t1 => ?_))
  rw [x1] at t1
  refine gx_itef (fun q => by have := (nI_00 (by omega)).mp q; omega) (gx_recvE h1.b2.o (by decide) (q_findPower h1.b2 b1 (by omega) (by omega)) ?_)
  rw [pw_none hp (by omega)]
  refine gx_itet rfl (gx_recvQ h1.b2.o (by decide) (q_X0_addPower h1.b2 (h1.hA hA).2 b1 h4) (fun w z2 ⟨_, f2, d2⟩ => ?_))
  have h2 := h1.s2 f2 d2
  unfold qX3_readPower_59
  obtain ⟨M, hM⟩ : ∃ M, N = M + 1 := ⟨N - 1, by omega⟩
  suffices q : ∀ ih, gx (bX3_readPower_59 N ih (x + 4) (ad 1) (ad 3) w (0 : Int32) G z2) (fun q z' => q = 1 ∧ ∃ C' E', MW z' x ad (Ws (Ws W 2 (cset (cset B 9 (upd (B 9) np (nI (np + 16)))) 1 fun _ => B 1 0 + (1 : Int32))) 4 S) D C' E' ∧ tkC b L (i + 2) C' E') by
    rw [hM] at q ⊢
    exact q _
  intro ih
  unfold bX3_readPower_59 qX3_readPower_92
  refine gx_itef (by decide) (gx_recvE h2.2.o (by decide) (c_isWord_X3 h2 t1 (by omega)) ?_)
  rw [decide_eq_false (show ¬ 0 < tN b L (i + 2) by omega)]
  exact gx_itet rfl (gx_retZ (Or.inr rfl) ⟨rfl, C1, E1, h2, t1⟩)
theorem y_unit (cx : CXm G N x L b W) (h : MW z x ad (Ws (Ws W 2 B) 4 S) D C E) (tc : tkC b L i C E) (b0 : B 0 0 = nI n) (h16 : n ≤ 16) (b1 : B 1 0 = nI np) (h4 : np ≤ 4) (hn : ∀ k, k < n → B 5 k = nI (k + 1)) (hp : ∀ k, k < np → B 9 k = nI (k + 16)) (hpp : p < np) (ha : a < n) (hnu : nu S < 12) (hu : uu S a = false) (hs : suit B a kd = true) (hb : bAt b i (32 :: (97 + (15 + p)) :: 32 :: (97 + a) :: 59 :: r)) (hl : i + 4 < L) : gx (qX3_readUnit N (x + 4) (ad 1) (ad 3) a0 kd G z) (fun q z' => q = 1 ∧ ∃ C' E', MW z' x ad (Ws (Ws W 2 B) 4 (placed S a (nI p) kd)) D C' E' ∧ tkC b L (i + 4) C' E') := by
  have hA := cx.2.1
  have hN := cx.2.2.1
  obtain ⟨n1, x1⟩ := nm1 (L := L) (a := 15 + p) (c := 32) hb (by omega) rfl (by omega)
  rw [show 15 + p + 1 = p + 16 by omega] at n1
  have hb2 : bAt b (i + 2) (32 :: (97 + a) :: 59 :: r) := (bAt_c (bAt_c hb).2).2
  obtain ⟨n2, x2⟩ := nm1 (L := L) (a := a) (c := 59) hb2 (by omega) rfl (by omega)
  unfold qX3_readUnit
  refine gx_recvE h.d1.o (by decide) (q_countAllUnits h.d1 (by omega)) (gx_itet ((nI_ltI (a := nu S) (b := 12) (by omega) (by omega)).mpr hnu) (y_name cx h tc (by omega) n1 (fun z1 C1 E1 h1 t1 => ?_)))
  rw [x1] at t1
  refine gx_itef (fun q => by have := (nI_00 (by omega)).mp q; omega) (gx_recvE h1.b2.o (by decide) (q_findPower h1.b2 b1 (by omega) (by omega)) ?_)
  rw [pw_find hp h4 hpp]
  refine gx_itef (nI_m1 (by omega)) (y_area cx h1 t1 (by omega) b0 h16 n2 (nm_find hn h16 ha) (fun z2 C2 E2 h2 t2 => ?_))
  have x2' : tX b L (i + 2) = i + 4 := x2
  rw [x2'] at t2
  refine gx_itef (nI_m1 (by omega)) (gx_recvE h2.d1.o (by decide) (q_hasUnitN h2.d1 (by omega)) (gx_iteB (fun _ => ?_) (fun q => by rw [show uu S a = true from q] at hu; cases hu)))
  refine gx_recvE h2.b2.o (by decide) (q_suits h2.b2 (by omega)) (gx_iteB (fun q => by rw [hs] at q; cases q) (fun _ => ?_))
  exact gx_recvQ h2.d1.o (by decide) (q_X5_placeUnit h2.d1 (h2.hA hA).1 (by omega)) (fun _ z3 ⟨f3, d3⟩ => gx_retZ (Or.inr rfl) ⟨rfl, C2, E2, h2.d2 f3 d3, t2⟩)
end
