/-! the law's own steps (26): a map's text, statement by statement -/
def lp (N M : Nat) (p : Nat × Int32 × Nat × Nat × Int32) : osM Int32 := osloop (fun ih p => bX3_readMap_18 N ih p.1 p.2.1 p.2.2.1 p.2.2.2.1 p.2.2.2.2) M p
/-- read from the cleared drafts, t leads to drafts of which I holds, whatever stands behind it -/
def PF (G : osG) (N x : Nat) (t : List Nat) (I : (Nat → Nat → Int32) → (Nat → Nat → Int32) → Prop) : Prop :=
  ∀ (L : Nat) (b : Nat → Nat) (ad : Nat → Nat) (W : Nat → Nat → Nat → Int32) (D z : osS) (C : Nat → Nat → Int32) (E : Nat → Nat → Int64) (B0 S0 : Nat → Nat → Int32) (Q : Int32 → osS → Prop), CXm G N x L b W → bAt b 0 t → t.length ≤ L → MW z x ad (Ws (Ws W 2 (bclr B0)) 4 (sclr S0)) D C E → tkC b L 0 C E →
    (∀ j z' B S C' E', j ≤ t.length → I B S → MW z' x ad (Ws (Ws W 2 B) 4 S) D C' E' → tkC b L t.length C' E' → gx (lp N (N - j) (x + 4, nI L, ad 1, ad 3, nI j) G z') Q) → gx (lp N N (x + 4, nI L, ad 1, ad 3, (0 : Int32)) G z) Q
/-- a statement leads from I to I' -/
def SR (G : osG) (N x : Nat) (s : List Nat) (I I' : (Nat → Nat → Int32) → (Nat → Nat → Int32) → Prop) : Prop :=
  ∀ (L : Nat) (b : Nat → Nat) (ad : Nat → Nat) (W : Nat → Nat → Nat → Int32) (D z : osS) (C : Nat → Nat → Int32) (E : Nat → Nat → Int64) (B S : Nat → Nat → Int32) (p : Nat), CXm G N x L b W → bAt b p (s ++ [59]) → p + s.length < L → I B S → MW z x ad (Ws (Ws W 2 B) 4 S) D C E → tkC b L p C E →
    tS b L p < L ∧ gx (qX3_readStatement N (x + 4) (ad 1) (ad 3) G z) (fun r z' => r = 1 ∧ ∃ B' S' C' E', MW z' x ad (Ws (Ws W 2 B') 4 S') D C' E' ∧ tkC b L (p + s.length) C' E' ∧ I' B' S')
section
variable {G : osG} {N x : Nat} {t s : List Nat} {I I' : (Nat → Nat → Int32) → (Nat → Nat → Int32) → Prop}
theorem PF_nil : PF G N x [] (fun B S => ∃ B0 S0, B = bclr B0 ∧ S = sclr S0) := fun L b ad W D z C E B0 S0 Q cx hb hl h tc kk => kk 0 z _ _ C E (Nat.le_refl _) ⟨B0, S0, rfl, rfl⟩ h tc
theorem PF_mono (h : PF G N x t I) (hi : ∀ B S, I B S → I' B S) : PF G N x t I' := fun L b ad W D z C E B0 S0 Q cx hb hl h1 tc kk => h L b ad W D z C E B0 S0 Q cx hb hl h1 tc (fun j z' B S C' E' a1 a2 a3 a4 => kk j z' B S C' E' a1 (hi B S a2) a3 a4)
theorem PF_step (h : PF G N x t I) (hs : SR G N x s I I') : PF G N x (t ++ (s ++ [59])) I' := by
  intro L b ad W D z C E B0 S0 Q cx hb hl h1 tc kk
  have hlen : (t ++ (s ++ [59])).length = t.length + s.length + 1 := by simp; omega
  rw [hlen] at hl kk
  obtain ⟨hI, hA, hN, hL, hbb⟩ := id cx
  refine h L b ad W D z C E B0 S0 Q cx (bAt_l hb) (by omega) h1 tc (fun j z2 B S C2 E2 a1 a2 a3 a4 => ?_)
  have hb2 : bAt b t.length (s ++ [59]) := by
    have := bAt_r hb
    rw [Nat.zero_add] at this
    exact this
  obtain ⟨hS, hst⟩ := hs L b ad W D z2 C2 E2 B S t.length cx hb2 (by omega) a2 a3 a4
  obtain ⟨M, hM⟩ : ∃ M, N - j = M + 1 := ⟨N - j - 1, by omega⟩
  have hM2 : N - (j + 1) = M := by omega
  rw [hM]
  show gx (bX3_readMap_18 N (lp N M) (x + 4) (nI L) (ad 1) (ad 3) (nI j) G z2) Q
  unfold bX3_readMap_18 qX3_readMap_50
  refine gx_itef (fun c => by have := (nI_ltI (a := L) (b := j) (by omega) (by omega)).mp c; omega) (gx_recvE a3.2.o (by decide) (c_isEnd_X3 a3 a4 (by omega)) ?_)
  rw [decide_eq_false (show ¬ L ≤ tS b L t.length by omega)]
  refine gx_itet rfl (gx_recvQ a3.2.o (by decide) hst ?_)
  rintro r z3 ⟨rfl, B', S', C3, E3, h3, t3, i3⟩
  have hb3 : bAt b (t.length + s.length) [59] := bAt_r hb2
  obtain ⟨s4, x4⟩ := tk_semi (L := L) hb3 (by omega)
  refine gx_itef (by decide) (gx_recvQ h3.2.o (by decide) (c_semi1_X3 h3 hbb t3 hL (by omega) hA hN s4) ?_)
  rintro r z4 ⟨rfl, C4, E4, h4, t4, k4⟩
  rw [x4] at t4
  refine gx_itef (by decide) ?_
  rw [nI_1]
  have := kk (j + 1) z4 B' S' C4 E4 (by omega) i3 h4 t4
  rw [hM2] at this
  exact this
end
