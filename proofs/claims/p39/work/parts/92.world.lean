/-! p39's world: the class' object at x and all that belongs to it (129 cells); D: the memory from which all else is as it was -/
section
variable {z z1 : osS} {a b : Nat} {C : Nat → Nat → Int32} {D : Nat → Nat → Int64}
theorem rX0.kp (h : rX0 z a C) (k : ∀ c, a ≤ c → c < a + 6 → z1.1 c = z.1 c) : rX0 z1 a C := ⟨(k _ (by omega) (by omega)).trans h.1, (k _ (by omega) (by omega)).trans h.2.1, (k _ (by omega) (by omega)).trans h.2.2.1, (k _ (by omega) (by omega)).trans h.2.2.2.1, (k _ (by omega) (by omega)).trans h.2.2.2.2.1, (k _ (by omega) (by omega)).trans h.2.2.2.2.2⟩
theorem rX5.kp (h : rX5 z a C) (k : ∀ c, a ≤ c → c < a + 12 → z1.1 c = z.1 c) : rX5 z1 a C := ⟨(k _ (by omega) (by omega)).trans h.1, (k _ (by omega) (by omega)).trans h.2.1, (k _ (by omega) (by omega)).trans h.2.2.1, (k _ (by omega) (by omega)).trans h.2.2.2.1, (k _ (by omega) (by omega)).trans h.2.2.2.2.1, (k _ (by omega) (by omega)).trans h.2.2.2.2.2.1, (k _ (by omega) (by omega)).trans h.2.2.2.2.2.2.1, (k _ (by omega) (by omega)).trans h.2.2.2.2.2.2.2.1, (k _ (by omega) (by omega)).trans h.2.2.2.2.2.2.2.2.1, (k _ (by omega) (by omega)).trans h.2.2.2.2.2.2.2.2.2.1, (k _ (by omega) (by omega)).trans h.2.2.2.2.2.2.2.2.2.2.1, (k _ (by omega) (by omega)).trans h.2.2.2.2.2.2.2.2.2.2.2⟩
theorem rX2.kp (h : rX2 z a C) (k : ∀ c, a ≤ c → c < a + 11 → z1.1 c = z.1 c) : rX2 z1 a C := ⟨(k _ (by omega) (by omega)).trans h.1, (k _ (by omega) (by omega)).trans h.2.1, (k _ (by omega) (by omega)).trans h.2.2.1, (k _ (by omega) (by omega)).trans h.2.2.2.1, (k _ (by omega) (by omega)).trans h.2.2.2.2.1, (k _ (by omega) (by omega)).trans h.2.2.2.2.2.1, (k _ (by omega) (by omega)).trans h.2.2.2.2.2.2.1, (k _ (by omega) (by omega)).trans h.2.2.2.2.2.2.2.1, (k _ (by omega) (by omega)).trans h.2.2.2.2.2.2.2.2.1, (k _ (by omega) (by omega)).trans h.2.2.2.2.2.2.2.2.2.1, (k _ (by omega) (by omega)).trans h.2.2.2.2.2.2.2.2.2.2⟩
theorem rX4.kp (h : rX4 z a C) (k : ∀ c, a ≤ c → c < a + 2 → z1.1 c = z.1 c) : rX4 z1 a C := ⟨(k _ (by omega) (by omega)).trans h.1, (k _ (by omega) (by omega)).trans h.2⟩
theorem rX3.kp (h : rX3 z a b C D) (k : ∀ c, a ≤ c → c < a + 1 → z1.1 c = z.1 c) : rX3 z1 a b C D := (k _ (by omega) (by omega)).trans h
theorem rX7.kp (h : rX7 z a b C D) (k : ∀ c, a ≤ c → c < a + 1 → z1.1 c = z.1 c) : rX7 z1 a b C D := (k _ (by omega) (by omega)).trans h
theorem rX1.kp (h : rX1 z a C) (k : ∀ c, a ≤ c → c < a + 1 → z1.1 c = z.1 c) : rX1 z1 a C := (k _ (by omega) (by omega)).trans h
end
def adOK (x : Nat) (ad : Nat → Nat) : Prop := ((ad 0 = x + 21 ∧ ad 1 = x + 27) ∨ (ad 0 = x + 27 ∧ ad 1 = x + 21)) ∧ ((ad 2 = x + 33 ∧ ad 3 = x + 45) ∨ (ad 2 = x + 45 ∧ ad 3 = x + 33)) ∧ (∀ i, i < 6 → ∃ k, k < 6 ∧ ad (4 + i) = x + 57 + 12 * k) ∧ ∀ i j, i < 6 → j < 6 → ad (4 + i) = ad (4 + j) → i = j
def WC (z : osS) (x : Nat) (ad : Nat → Nat) (W : Nat → Nat → Nat → Int32) : Prop :=
  rX9 z x (ad 0) (ad 1) (ad 2) (ad 3) (W 0) ∧ rX4 z (x + 2) (W 7) ∧ rX1 z (x + 8) (W 5) ∧ rX2 z (x + 9) (W 6) ∧ rX0 z (ad 0) (W 1) ∧ rX0 z (ad 1) (W 2) ∧ rX5 z (ad 2) (W 3) ∧ rX5 z (ad 3) (W 4) ∧
  (∃ f : Nat → Option Nat, z.1 (x + 20) = some (.inl (5, (6, .inr (.inr (.inr (.inr f)))))) ∧ ∀ i, i < 6 → f i = some (ad (4 + i))) ∧ (∀ i, i < 6 → rX5 z (ad (4 + i)) (W (8 + i))) ∧
  (∃ tb A D, rX3 z (x + 4) tb A D) ∧ (∃ tb A D, rX7 z (x + 6) tb A D)
def WD (z : osS) (x : Nat) (ad : Nat → Nat) (W : Nat → Nat → Nat → Int32) (D : osS) : Prop := adOK x ad ∧ osFr x (x + 129) D z ∧ WC z x ad W ∧ True ∧ True
def Ws (W : Nat → Nat → Nat → Int32) (k : Nat) (R : Nat → Nat → Int32) : Nat → Nat → Nat → Int32 := fun j => if j = k then R else W j
/-- a throw makes a cell of which nothing is known -/
def thz (z : osS) : osS := (z.1, z.2.map (· + 1))
section
variable {z z1 : osS} {x : Nat} {ad : Nat → Nat} {W : Nat → Nat → Nat → Int32} {D : osS}
theorem Ws_eq {k : Nat} {R : Nat → Nat → Int32} : Ws W k R k = R := by simp [Ws]
theorem Ws_ne {k j : Nat} {R : Nat → Nat → Int32} (h : j ≠ k) : Ws W k R j = W j := by simp [Ws, h]
theorem adOK.b (h : adOK x ad) : (ad 0 = x + 21 ∧ ad 1 = x + 27) ∨ (ad 0 = x + 27 ∧ ad 1 = x + 21) := h.1
theorem adOK.s (h : adOK x ad) : (ad 2 = x + 33 ∧ ad 3 = x + 45) ∨ (ad 2 = x + 45 ∧ ad 3 = x + 33) := h.2.1
theorem adOK.p (h : adOK x ad) {i : Nat} (hi : i < 6) : x + 57 ≤ ad (4 + i) ∧ ad (4 + i) + 12 ≤ x + 129 := by
  obtain ⟨k, hk, e⟩ := h.2.2.1 i hi
  omega
theorem adOK.pp (h : adOK x ad) {i j : Nat} (hi : i < 6) (hj : j < 6) (hne : ¬ i = j) : ad (4 + i) + 12 ≤ ad (4 + j) ∨ ad (4 + j) + 12 ≤ ad (4 + i) := by
  obtain ⟨k, hk, e⟩ := h.2.2.1 i hi
  obtain ⟨l, hl, e2⟩ := h.2.2.1 j hj
  have : ¬ k = l := fun q => hne (h.2.2.2 i j hi hj (by rw [e, e2, q]))
  omega
/-- a change beyond the class' cells -/
theorem WC.kp (h : WC z x ad W) (ha : adOK x ad) (k : ∀ c, x ≤ c → c < x + 129 → z1.1 c = z.1 c) : WC z1 x ad W := by
  obtain ⟨h9, h4, h1, h2, hb, hs, hn, hdr, ⟨f, hp, hp2⟩, hpa, ⟨t3, A3, D3, h3⟩, t7, A7, D7, h7⟩ := h
  have hb9 := ha.b
  have hs9 := ha.s
  exact ⟨⟨(k _ (by omega) (by omega)).trans h9.1, (k _ (by omega) (by omega)).trans h9.2⟩, h4.kp (fun c _ _ => k c (by omega) (by omega)), h1.kp (fun c _ _ => k c (by omega) (by omega)), h2.kp (fun c _ _ => k c (by omega) (by omega)), hb.kp (fun c _ _ => k c (by omega) (by omega)), hs.kp (fun c _ _ => k c (by omega) (by omega)), hn.kp (fun c _ _ => k c (by omega) (by omega)), hdr.kp (fun c _ _ => k c (by omega) (by omega)), ⟨f, (k _ (by omega) (by omega)).trans hp, hp2⟩, fun i hi => (hpa i hi).kp (fun c _ _ => k c (by have := ha.p hi; omega) (by have := ha.p hi; omega)), ⟨t3, A3, D3, h3.kp (fun c _ _ => k c (by omega) (by omega))⟩, t7, A7, D7, h7.kp (fun c _ _ => k c (by omega) (by omega))⟩
/-- the class alone has gone on -/
theorem WD.cls (h : WD z x ad W D) {ad' : Nat → Nat} {W' : Nat → Nat → Nat → Int32} (hf : osFr x (x + 129) z z1) (ha : adOK x ad') (hc : WC z1 x ad' W') : WD z1 x ad' W' D := ⟨ha, h.2.1.tr hf, hc, trivial, trivial⟩
/-- what is as it is now, from now on -/
theorem WD.re (h : WD z x ad W D) : WD z x ad W z := ⟨h.1, osFr.rf, h.2.2⟩
theorem WD.far (h : WD z x ad W D) (k : ∀ c, x ≤ c → c < x + 129 → z1.1 c = z.1 c) : WD z1 x ad W z1 := ⟨h.1, osFr.rf, h.2.2.1.kp h.1 k, trivial, trivial⟩
theorem WD.th (h : WD z x ad W D) : WD (thz z) x ad W (thz D) := ⟨h.1, ⟨h.2.1.1, by show z.2.map _ = D.2.map _; rw [h.2.1.2]⟩, h.2.2.1.kp h.1 (fun _ _ _ => rfl), trivial, trivial⟩
theorem WD.fr (h : WD z x ad W D) : osFr x (x + 129) D z := h.2.1
theorem WD.x9 (h : WD z x ad W D) : rX9 z x (ad 0) (ad 1) (ad 2) (ad 3) (W 0) := h.2.2.1.1
theorem WD.x4 (h : WD z x ad W D) : rX4 z (x + 2) (W 7) := h.2.2.1.2.1
theorem WD.x1 (h : WD z x ad W D) : rX1 z (x + 8) (W 5) := h.2.2.1.2.2.1
theorem WD.x2 (h : WD z x ad W D) : rX2 z (x + 9) (W 6) := h.2.2.1.2.2.2.1
theorem WD.bd (h : WD z x ad W D) : rX0 z (ad 0) (W 1) := h.2.2.1.2.2.2.2.1
theorem WD.sp (h : WD z x ad W D) : rX0 z (ad 1) (W 2) := h.2.2.1.2.2.2.2.2.1
theorem WD.nw (h : WD z x ad W D) : rX5 z (ad 2) (W 3) := h.2.2.1.2.2.2.2.2.2.1
theorem WD.dr (h : WD z x ad W D) : rX5 z (ad 3) (W 4) := h.2.2.1.2.2.2.2.2.2.2.1
theorem WD.pa (h : WD z x ad W D) : ∃ f : Nat → Option Nat, z.1 (x + 20) = some (.inl (5, (6, .inr (.inr (.inr (.inr f)))))) ∧ ∀ i, i < 6 → f i = some (ad (4 + i)) := h.2.2.1.2.2.2.2.2.2.2.2.1
theorem WD.ps (h : WD z x ad W D) {i : Nat} (hi : i < 6) : rX5 z (ad (4 + i)) (W (8 + i)) := h.2.2.1.2.2.2.2.2.2.2.2.2.1 i hi
theorem WD.rd (h : WD z x ad W D) : (∃ tb A D, rX3 z (x + 4) tb A D) ∧ ∃ tb A D, rX7 z (x + 6) tb A D := h.2.2.1.2.2.2.2.2.2.2.2.2.2
theorem WD.ok (h : WD z x ad W D) : adOK x ad := h.1
end
/-- a map's own facts -/
def bdI (C : Nat → Nat → Int32) (n np : Nat) : Prop := ∃ (M : Nat → Nat → Int32) (E : Nat → Nat → Int64), cpM C M E n np
section
variable {C S T : Nat → Nat → Int32} {n np U : Nat} {sea : Bool} {X : Nat → Bool} {v : Int32}
theorem bdI.n16 (h : bdI C n np) : n ≤ 16 := by obtain ⟨M, E, h⟩ := h; exact h.n16
theorem bdI.p4 (h : bdI C n np) : np ≤ 4 := by obtain ⟨M, E, h⟩ := h; exact h.p4
theorem bdI.c0 (h : bdI C n np) : C 0 0 = nI n := by obtain ⟨M, E, h⟩ := h; exact h.c0
theorem bdI.c1 (h : bdI C n np) : C 1 0 = nI np := by obtain ⟨M, E, h⟩ := h; exact h.c1
theorem bdI.f (h : bdI C n np) : (∀ j, j < 32 → (bt (C 2 0) j = true ∨ bt (C 3 0) j = true ∨ bt (C 4 0) j = true → j < n) ∧ (bt (C 2 0) j = true ∨ bt (C 4 0) j = true → bt (C 3 0) j = false)) ∧ (∀ a b, a < 16 → b < 32 → bt (C 7 a) b = true ∨ bt (C 8 a) b = true → a < n ∧ b < n ∧ ¬ a = b) ∧ (∀ a, a < 16 → ¬ C 6 a = -1 → a < n ∧ pw np (C 6 a) ∧ bt (C 4 0) a = true) := by
  obtain ⟨M, E, h⟩ := h; exact ⟨h.2.2.2.2.1, h.2.2.2.2.2.1, h.2.2.2.2.2.2⟩
theorem coT_Jb (h : coT C S T sea X v) (hX : ∀ a, X a = true → a < 16 ∧ mv S a = true) (hm : bdI C n np) (hi : stI C S n np U) (h0 : S 0 0 = 0) : stJ C T n np U := by obtain ⟨M, E, hm⟩ := hm; exact coT_J h hX hm hi h0
end
def cpP (W : Nat → Nat → Nat → Int32) (n np T : Nat) : Prop := ∃ u, u ≤ 6 ∧ W 0 9 0 = nI u ∧ ∀ i, i < u → stI (W 1) (W (8 + i)) n np T
/-- the input is of bytes -/
def inB (W : Nat → Nat → Nat → Int32) : Prop := ∀ k, k < 1000 → ∃ w, w < 256 ∧ W 0 0 k = (nI w).toInt8.toInt32
/-- what holds between two calls of the law's: a map of n areas and np powers, turns at most T -/
def IVn (W : Nat → Nat → Nat → Int32) (_ : osS) (n np T : Nat) : Prop := bdI (W 1) n np ∧ stI (W 1) (W 3) n np T ∧ (∃ b, b ≤ 1000 ∧ W 0 1 0 = nI b) ∧ cpP W n np T ∧ inB W
section
variable {W : Nat → Nat → Nat → Int32} {D : osS} {n np T : Nat}
theorem IVn.m (h : IVn W D n np T) : bdI (W 1) n np := h.1
theorem IVn.i (h : IVn W D n np T) : stI (W 1) (W 3) n np T := h.2.1
theorem IVn.in (h : IVn W D n np T) : ∃ b, b ≤ 1000 ∧ W 0 1 0 = nI b := h.2.2.1
theorem IVn.p (h : IVn W D n np T) : cpP W n np T := h.2.2.2.1
theorem IVn.by9 (h : IVn W D n np T) : inB W := h.2.2.2.2
theorem IVn.oD (h : IVn W D n np T) {D' : osS} : IVn W D' n np T := h
end
section
variable {G : osG} {z : osS} {Q : Int32 → osS → Prop}
theorem gx_throw {ρ : Type} {j : Nat} {Q : Nat ⊕ ρ → osS → Prop} (h : Q (.inl j) (thz z)) : gx (osthrow j G z) Q := ⟨.inl j, thz z, rfl, h⟩
theorem gx_RV {α : Type} {m : osM (Nat ⊕ α)} {Q : α → osS → Prop} (h : gx (m G z) (fun r z' => ∃ v, r = .inr v ∧ Q v z')) : gx (osRV m G z) Q := by
  obtain ⟨r, z', h1, v, rfl, h2⟩ := h
  exact ⟨v, z', by unfold osRV; rw [h1], h2⟩
theorem gx_Rt {ρ : Type} {m : osM ρ} {Q : Nat ⊕ ρ → osS → Prop} (h : gx (m G z) (fun v z' => Q (.inr v) z')) : gx (osRt m G z) Q := by
  obtain ⟨v, z', h1, h2⟩ := h
  exact ⟨.inr v, z', by unfold osRt; rw [h1], h2⟩
theorem gx_bindT {β ρ : Type} {m : osM (Nat ⊕ β)} {f : β → osM (Nat ⊕ ρ)} {Q : Nat ⊕ ρ → osS → Prop} (h : gx (m G z) (fun r z' => match r with | .inl j => Q (.inl j) z' | .inr v => gx (f v G z') Q)) : gx (osbindT m f G z) Q := by
  obtain ⟨r, z1, h1, h2⟩ := h
  cases r with
  | inl j => exact ⟨.inl j, z1, by unfold osbindT; rw [h1], h2⟩
  | inr v =>
    obtain ⟨a, z2, h3, h4⟩ := h2
    exact ⟨a, z2, by unfold osbindT; rw [h1]; exact h3, h4⟩
theorem gx_bindC {β ρ : Type} {m : osM (Nat ⊕ β)} {hh : Nat → osM ρ} {f : β → osM ρ} {Q : ρ → osS → Prop} (h : gx (m G z) (fun r z' => match r with | .inl j => gx (hh j G z') Q | .inr v => gx (f v G z') Q)) : gx (osbindC m hh f G z) Q := by
  obtain ⟨r, z1, h1, h2⟩ := h
  cases r with
  | inl j =>
    obtain ⟨a, z2, h3, h4⟩ := h2
    exact ⟨a, z2, by unfold osbindC; rw [h1]; exact h3, h4⟩
  | inr v =>
    obtain ⟨a, z2, h3, h4⟩ := h2
    exact ⟨a, z2, by unfold osbindC; rw [h1]; exact h3, h4⟩
theorem gx_hand {L : List (Nat × Int32)} {j : Nat} {t : Int32} (h : ∃ q, L.find? (fun x => x.1 == j) = some q ∧ q.2 = t) (k : Q t z) : gx (oshand L j G z) Q := by
  obtain ⟨q, h1, rfl⟩ := h
  refine ⟨q.2, z, ?_, k⟩
  unfold oshand
  rw [h1]; rfl
end
