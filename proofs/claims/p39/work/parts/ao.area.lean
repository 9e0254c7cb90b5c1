/-! the law's own steps (22): an area's statement -/
theorem let_cen : lets [99, 101, 110, 116, 101, 114] := fun k hk => by
  have : k = 0 ∨ k = 1 ∨ k = 2 ∨ k = 3 ∨ k = 4 ∨ k = 5 := by simp at hk; omega
  rcases this with e | e | e | e | e | e <;> subst e <;> rfl
section
variable {G : osG} {z : osS} {N x n np L i : Nat} {ad : Nat → Nat} {W : Nat → Nat → Nat → Int32} {D : osS} {E : Nat → Nat → Int64} {b : Nat → Nat} {B S C : Nat → Nat → Int32} {r : List Nat} {a0 kd : Int32}
theorem y_area0 (cx : CXm G N x L b W) (h : MW z x ad (Ws (Ws W 2 B) 4 S) D C E) (tc : tkC b L i C E) (b0 : B 0 0 = nI n) (h16 : n < 16) (hn : ∀ k, k < n → B 5 k = nI (k + 1)) (hb : bAt b i (32 :: (97 + n) :: 59 :: r)) (hl : i + 2 < L) : gx (qX3_readArea N (x + 4) (ad 1) a0 kd G z) (fun q z' => q = 1 ∧ ∃ C' E', MW z' x ad (Ws (Ws W 2 (areaAdded B n (nI (n + 1)) kd false)) 4 S) D C' E' ∧ tkC b L (i + 2) C' E') := by
  have hA := cx.2.1
  obtain ⟨n1, x1⟩ := nm1 (L := L) (a := n) (c := 59) (r := r) hb (by omega) rfl hl
  have hb2 : bAt b (i + 2) (59 :: r) := (bAt_c (bAt_c hb).2).2
  obtain ⟨s2, _⟩ := tk_semi hb2 hl
  have t0 := (tX_s (b := b) (L := L) (by omega) s2).2.2.2.2
  unfold qX3_readArea
  refine gx_gI h.b2.o (by decide) rfl ?_
  rw [b0]
  refine gx_itet ((nI_ltI (a := n) (b := 16) (by omega) (by omega)).mpr h16) (y_name cx h tc (by omega) n1 (fun z1 C1 E1 h1 t1 => ?_))
  rw [x1] at t1
  refine gx_itef (fun q => by have := (nI_00 (by omega)).mp q; omega) (gx_recvE h1.b2.o (by decide) (q_findArea h1.b2 b0 (by omega) (by have := cx.2.2.1; omega)) ?_)
  rw [nm_none hn (by omega) (Nat.le_refl n) (by omega)]
  refine gx_itet rfl (gx_gI h1.2.o (by decide) rfl (y_take0 cx h1 t1 (by omega) (by omega) (kwb_n t0) (gx_itet rfl ?_)))
  unfold qX3_readArea_82
  exact gx_recvQ h1.b2.o (by decide) (q_X0_addArea (o := false) h1.b2 (h1.hA hA).2 b0 h16) (fun _ z2 ⟨f2, d2⟩ => gx_retZ (Or.inr rfl) ⟨rfl, C1, E1, h1.s2 f2 d2, t1⟩)
theorem y_area1 (cx : CXm G N x L b W) (h : MW z x ad (Ws (Ws W 2 B) 4 S) D C E) (tc : tkC b L i C E) (b0 : B 0 0 = nI n) (h16 : n < 16) (hn : ∀ k, k < n → B 5 k = nI (k + 1)) (hkd : ¬ kd = 2) (hb : bAt b i (32 :: (97 + n) :: 32 :: ([99, 101, 110, 116, 101, 114] ++ 59 :: r))) (hl : i + 9 < L) : gx (qX3_readArea N (x + 4) (ad 1) a0 kd G z) (fun q z' => q = 1 ∧ ∃ C' E', MW z' x ad (Ws (Ws W 2 (areaAdded B n (nI (n + 1)) kd true)) 4 S) D C' E' ∧ tkC b L (i + 9) C' E') := by
  have hA := cx.2.1
  obtain ⟨n1, x1⟩ := nm1 (L := L) (a := n) (c := 32) hb (by omega) rfl (by omega)
  have hb2 : bAt b (i + 2) (32 :: ([99, 101, 110, 116, 101, 114] ++ 59 :: r)) := (bAt_c (bAt_c hb).2).2
  have l6 : ([99, 101, 110, 116, 101, 114] : List Nat).length = 6 := rfl
  obtain ⟨m2, x2, v2⟩ := tk1 (L := L) hb2 let_cen rfl (by omega) (by omega)
  have k3 : kwb b L (i + 2) 3 = true := by rw [kwb_is (by rw [m2]; decide) (v2 (by decide))]; decide +kernel
  have x2' : tX b L (i + 2) = i + 9 := by rw [x2, l6]
  unfold qX3_readArea
  refine gx_gI h.b2.o (by decide) rfl ?_
  rw [b0]
  refine gx_itet ((nI_ltI (a := n) (b := 16) (by omega) (by omega)).mpr h16) (y_name cx h tc (by omega) n1 (fun z1 C1 E1 h1 t1 => ?_))
  rw [x1] at t1
  refine gx_itef (fun q => by have := (nI_00 (by omega)).mp q; omega) (gx_recvE h1.b2.o (by decide) (q_findArea h1.b2 b0 (by omega) (by have := cx.2.2.1; omega)) ?_)
  rw [nm_none hn (by omega) (Nat.le_refl n) (by omega)]
  refine gx_itet rfl (gx_gI h1.2.o (by decide) rfl (y_take1 cx h1 t1 (by omega) (by omega) k3 (fun z2 C2 E2 h2 t2 => gx_itef (by decide) (gx_itef hkd ?_))))
  rw [x2'] at t2
  unfold qX3_readArea_82
  exact gx_recvQ h2.b2.o (by decide) (q_X0_addArea (o := true) h2.b2 (h2.hA hA).2 b0 h16) (fun _ z3 ⟨f3, d3⟩ => gx_retZ (Or.inr rfl) ⟨rfl, C2, E2, h2.s2 f3 d3, t2⟩)
end
