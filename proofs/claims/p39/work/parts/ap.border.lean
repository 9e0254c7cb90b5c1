/-! the law's own steps (23): a border's statement, a power's -/
section
variable {G : osG} {z : osS} {N x n np L i a c : Nat} {ad : Nat → Nat} {W : Nat → Nat → Nat → Int32} {D : osS} {E : Nat → Nat → Int64} {b : Nat → Nat} {B S C : Nat → Nat → Int32} {r : List Nat} {a0 : Int32}
theorem y_border (cx : CXm G N x L b W) (h : MW z x ad (Ws (Ws W 2 B) 4 S) D C E) (tc : tkC b L i C E) (b0 : B 0 0 = nI n) (h16 : n ≤ 16) (hn : ∀ k, k < n → B 5 k = nI (k + 1)) (ha : a < n) (hc : c < n) (hac : ¬ a = c) (hno : (bt (B 7 a) c || bt (B 8 a) c) = false) (hs : ((suit B a 0 && suit B c 0) || (suit B a 1 && suit B c 1)) = true) (hb : bAt b i (32 :: (97 + a) :: 32 :: (97 + c) :: 59 :: r)) (hl : i + 4 < L) : gx (qX3_readBorder N (x + 4) (ad 1) G z) (fun q z' => q = 1 ∧ ∃ C' E', MW z' x ad (Ws (Ws W 2 (bordered B a c (suit B a 0 && suit B c 0) (suit B a 1 && suit B c 1))) 4 S) D C' E' ∧ tkC b L (i + 4) C' E') := by
  have hA := cx.2.1
  obtain ⟨n1, x1⟩ := nm1 (L := L) (a := a) (c := 32) hb (by omega) rfl (by omega)
  have hb2 : bAt b (i + 2) (32 :: (97 + c) :: 59 :: r) := (bAt_c (bAt_c hb).2).2
  obtain ⟨n2, x2⟩ := nm1 (L := L) (a := c) (c := 59) hb2 (by omega) rfl (by omega)
  have hb4 : bAt b (i + 4) (59 :: r) := (bAt_c (bAt_c hb2).2).2
  obtain ⟨s4, _⟩ := tk_semi hb4 hl
  have t0 := (tX_s (b := b) (L := L) (by omega) s4).2.2.2.2
  unfold qX3_readBorder
  refine y_area cx h tc (by omega) b0 h16 n1 (nm_find hn h16 ha) (fun z1 C1 E1 h1 t1 => ?_)
  rw [x1] at t1
  refine gx_itef (nI_m1 (by omega)) (y_area cx h1 t1 (by omega) b0 h16 n2 (nm_find hn h16 hc) (fun z2 C2 E2 h2 t2 => ?_))
  have x2' : tX b L (i + 2) = i + 4 := x2
  rw [x2'] at t2
  refine gx_itef (nI_m1 (by omega)) (gx_itef (fun q => hac ((nI_eq (by omega) (by omega)).mp q)) (gx_recvE h2.b2.o (by decide) (q_hasBorder h2.b2 (by omega) (by omega)) ?_))
  rw [hno]
  refine gx_itet rfl (gx_gI h2.2.o (by decide) rfl (y_take0 cx h2 t2 (by omega) (by omega) (kwb_n t0) (gx_itet rfl (y_take0 cx h2 t2 (by omega) (by omega) (kwb_n t0) (gx_itet rfl ?_)))))
  unfold qX3_readBorder_84
  exact c_bor85 (oA := false) (oF := false) (ar := suit B a 0 && suit B c 0) (fl := suit B a 1 && suit B c 1) h2 hA b0 h16 ha hc rfl rfl (fun q => by rw [hs] at q; cases q) (fun _ z3 h3 => ⟨rfl, C2, E2, h3, t2⟩)
end
