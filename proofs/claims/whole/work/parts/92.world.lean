/-! the world: all objects of the law (by program) -/
/-- all objects: the class' object at x, the reference's at x + 129, the two arrays of answers behind it. ad: the board, the spare one, now, draft, past. W: rows: 0 the class' own, 1 board, 2 spare, 3 now, 4 draft, 5 judge, 6 links, 7 output, 8.. past, 20 the reference -/
def adOK (x : Nat) (ad : Nat → Nat) : Prop := ((ad 0 = x + 21 ∧ ad 1 = x + 27) ∨ (ad 0 = x + 27 ∧ ad 1 = x + 21)) ∧ ((ad 2 = x + 33 ∧ ad 3 = x + 45) ∨ (ad 2 = x + 45 ∧ ad 3 = x + 33)) ∧ (∀ i, i < 6 → ∃ k, k < 6 ∧ ad (4 + i) = x + 57 + 12 * k) ∧ ∀ i j, i < 6 → j < 6 → ad (4 + i) = ad (4 + j) → i = j
def WC (z : osS) (x : Nat) (ad : Nat → Nat) (W : Nat → Nat → Nat → Int32) : Prop :=
  rX9 z x (ad 0) (ad 1) (ad 2) (ad 3) (W 0) ∧ rX4 z (x + 2) (W 7) ∧ rX1 z (x + 8) (W 5) ∧ rX2 z (x + 9) (W 6) ∧ rX0 z (ad 0) (W 1) ∧ rX0 z (ad 1) (W 2) ∧ rX5 z (ad 2) (W 3) ∧ rX5 z (ad 3) (W 4) ∧
  (∃ f : Nat → Option Nat, z.1 (x + 20) = some (.inl (5, (6, .inr (.inr (.inr (.inr f)))))) ∧ ∀ i, i < 6 → f i = some (ad (4 + i))) ∧ (∀ i, i < 6 → rX5 z (ad (4 + i)) (W (8 + i))) ∧
  (∃ tb A D, rX3 z (x + 4) tb A D) ∧ (∃ tb A D, rX7 z (x + 6) tb A D)
def outs (z : osS) (o : Nat) : Prop := (∃ g, z.1 o = some (.inl (2, (1, .inr (.inl g))))) ∧ ∃ g, z.1 (o + 1) = some (.inl (4, (1, .inr (.inr (.inr (.inl g))))))
def WD (z : osS) (x : Nat) (ad : Nat → Nat) (W : Nat → Nat → Nat → Int32) (D : Nat → Nat → Int64) : Prop := adOK x ad ∧ z.2 = none ∧ WC z x ad W ∧ rX10 z (x + 129) (W 20) D ∧ outs z (x + 150)
def Ws (W : Nat → Nat → Nat → Int32) (k : Nat) (R : Nat → Nat → Int32) : Nat → Nat → Nat → Int32 := fun j => if j = k then R else W j
section
variable {z z1 : osS} {x : Nat} {ad : Nat → Nat} {W : Nat → Nat → Nat → Int32} {D : Nat → Nat → Int64}
theorem Ws_eq {k : Nat} {R : Nat → Nat → Int32} : Ws W k R k = R := by simp [Ws]
theorem Ws_ne {k j : Nat} {R : Nat → Nat → Int32} (h : j ≠ k) : Ws W k R j = W j := by simp [Ws, h]
theorem adOK.b (h : adOK x ad) : (ad 0 = x + 21 ∧ ad 1 = x + 27) ∨ (ad 0 = x + 27 ∧ ad 1 = x + 21) := h.1
theorem adOK.s (h : adOK x ad) : (ad 2 = x + 33 ∧ ad 3 = x + 45) ∨ (ad 2 = x + 45 ∧ ad 3 = x + 33) := h.2.1
theorem adOK.p (h : adOK x ad) {i : Nat} (hi : i < 6) : x + 57 ≤ ad (4 + i) ∧ ad (4 + i) + 12 ≤ x + 129 := by
  obtain ⟨k, hk, e⟩ := h.2.2.1 i hi
  omega
theorem adOK.pp (h : adOK x ad) {i j : Nat} (hi : i < 6) (hj : j < 6) (hne : ¬ i = j) : ad (4 + i) + 12 ≤ ad (4 + j) ∨ ad (4 + j) + 12 ≤ ad (4 + i) := by
  obtain ⟨k, hk, e⟩ := h.2.2.1 i hi
  obtain ⟨l, hl, e2⟩ := h.2.2.1 j hj
  have : ¬ k = l := fun q => hne (h.2.2.2 i j hi hj (by rw [e, e2, q]))
  omega
/-- a change beyond the class' cells -/
theorem WC.keep {lo hi : Nat} (h : WC z x ad W) (ha : adOK x ad) (hf : osFr lo hi z z1) (hd : x + 129 ≤ lo) : WC z1 x ad W := by
  obtain ⟨h9, h4, h1, h2, hb, hs, hn, hdr, ⟨f, hp, hp2⟩, hpa, ⟨t3, A3, D3, h3⟩, t7, A7, D7, h7⟩ := h
  have hb9 := ha.b
  have hs9 := ha.s
  exact ⟨h9.keep hf (by omega), h4.keep hf (by omega), h1.keep hf (by omega), h2.keep hf (by omega), hb.keep hf (by omega), hs.keep hf (by omega), hn.keep hf (by omega), hdr.keep hf (by omega), ⟨f, hf.at (by omega) hp, hp2⟩, fun i hi => (hpa i hi).keep hf (by have := ha.p hi; omega), ⟨t3, A3, D3, h3.keep hf (by omega)⟩, t7, A7, D7, h7.keep hf (by omega)⟩
theorem outs.keep {lo hi o : Nat} (h : outs z o) (hf : osFr lo hi z z1) (hd : hi ≤ o ∨ o + 2 ≤ lo) : outs z1 o := by
  obtain ⟨⟨g, hg⟩, g2, hg2⟩ := h
  exact ⟨⟨g, hf.at (by omega) hg⟩, g2, hf.at (by omega) hg2⟩
/-- the reference alone has gone on -/
theorem WD.ref (h : WD z x ad W D) {M' : Nat → Nat → Int32} {D' : Nat → Nat → Int64} (hf : osFr (x + 129) (x + 129 + 21) z z1) (hm : rX10 z1 (x + 129) M' D') : WD z1 x ad (Ws W 20 M') D' := by
  obtain ⟨ha, hz, hc, hr, ho⟩ := h
  refine ⟨ha, hf.2.trans hz, ?_, by rw [Ws_eq]; exact hm, ho.keep hf (by omega)⟩
  have := hc.keep ha hf (by omega)
  unfold WC at this ⊢
  rw [Ws_ne (by omega), Ws_ne (by omega), Ws_ne (by omega), Ws_ne (by omega), Ws_ne (by omega), Ws_ne (by omega), Ws_ne (by omega), Ws_ne (by omega)]
  obtain ⟨h9, h4, h1, h2, hb, hs, hn, hdr, hp, hpa, h37⟩ := this
  exact ⟨h9, h4, h1, h2, hb, hs, hn, hdr, hp, fun i hi => by rw [Ws_ne (by omega)]; exact hpa i hi, h37⟩
/-- the class alone has gone on -/
theorem WD.cls (h : WD z x ad W D) {ad' : Nat → Nat} {W' : Nat → Nat → Nat → Int32} (hf : osFr x (x + 129) z z1) (ha : adOK x ad') (hc : WC z1 x ad' W') (e : W' 20 = W 20) : WD z1 x ad' W' D := by
  obtain ⟨_, hz, _, hr, ho⟩ := h
  exact ⟨ha, hf.2.trans hz, hc, by rw [e]; exact hr.keep hf (by omega), ho.keep hf (by omega)⟩
/-- an answer put aside -/
theorem WD.out (h : WD z x ad W D) {g : Nat → Int64} (hf : osFr (x + 150) (x + 150 + 1) z z1) (hg : z1.1 (x + 150) = some (.inl (2, (1, .inr (.inl g))))) : WD z1 x ad W D := by
  obtain ⟨ha, hz, hc, hr, ⟨_, g2, hg2⟩⟩ := h
  exact ⟨ha, hf.2.trans hz, hc.keep ha hf (by omega), hr.keep hf (by omega), ⟨g, hg⟩, g2, hf.at (by omega) hg2⟩
theorem WD.outD (h : WD z x ad W D) {g : Nat → UInt64} (hf : osFr (x + 151) (x + 151 + 1) z z1) (hg : z1.1 (x + 151) = some (.inl (4, (1, .inr (.inr (.inr (.inl g))))))) : WD z1 x ad W D := by
  obtain ⟨ha, hz, hc, hr, ⟨⟨g1, hg1⟩, _⟩⟩ := h
  exact ⟨ha, hf.2.trans hz, hc.keep ha hf (by omega), hr.keep hf (by omega), ⟨g1, hf.at (by omega) hg1⟩, g, hg⟩
theorem WD.x9 (h : WD z x ad W D) : rX9 z x (ad 0) (ad 1) (ad 2) (ad 3) (W 0) := h.2.2.1.1
theorem WD.x4 (h : WD z x ad W D) : rX4 z (x + 2) (W 7) := h.2.2.1.2.1
theorem WD.x1 (h : WD z x ad W D) : rX1 z (x + 8) (W 5) := h.2.2.1.2.2.1
theorem WD.x2 (h : WD z x ad W D) : rX2 z (x + 9) (W 6) := h.2.2.1.2.2.2.1
theorem WD.bd (h : WD z x ad W D) : rX0 z (ad 0) (W 1) := h.2.2.1.2.2.2.2.1
theorem WD.sp (h : WD z x ad W D) : rX0 z (ad 1) (W 2) := h.2.2.1.2.2.2.2.2.1
theorem WD.nw (h : WD z x ad W D) : rX5 z (ad 2) (W 3) := h.2.2.1.2.2.2.2.2.2.1
theorem WD.dr (h : WD z x ad W D) : rX5 z (ad 3) (W 4) := h.2.2.1.2.2.2.2.2.2.2.1
theorem WD.pa (h : WD z x ad W D) : ∃ f : Nat → Option Nat, z.1 (x + 20) = some (.inl (5, (6, .inr (.inr (.inr (.inr f)))))) ∧ ∀ i, i < 6 → f i = some (ad (4 + i)) := h.2.2.1.2.2.2.2.2.2.2.2.1
theorem WD.ps (h : WD z x ad W D) {i : Nat} (hi : i < 6) : rX5 z (ad (4 + i)) (W (8 + i)) := h.2.2.1.2.2.2.2.2.2.2.2.2.1 i hi
theorem WD.rd (h : WD z x ad W D) : (∃ tb A D, rX3 z (x + 4) tb A D) ∧ ∃ tb A D, rX7 z (x + 6) tb A D := h.2.2.1.2.2.2.2.2.2.2.2.2.2
theorem WD.m (h : WD z x ad W D) : rX10 z (x + 129) (W 20) D := h.2.2.2.1
theorem WD.ok (h : WD z x ad W D) : adOK x ad := h.1
theorem WD.nz (h : WD z x ad W D) : z.2 = none := h.2.1
end
/-- what both say agrees -/
def cpIn (E M : Nat → Nat → Int32) : Prop := ∃ b, b ≤ 1000 ∧ E 1 0 = nI b ∧ M 10 0 = nI b ∧ ∀ k, k < 1000 → ∃ v, v < 256 ∧ M 9 k = nI v ∧ E 0 k = (nI v).toInt8.toInt32
def cpO (O M : Nat → Nat → Int32) : Prop := ∃ l, l ≤ 360 ∧ O 1 0 = nI l ∧ M 42 0 = nI l ∧ ∀ k, k < l → O 0 k = M 41 k
def cpP (W : Nat → Nat → Nat → Int32) (n np T : Nat) : Prop := ∃ u, u ≤ 6 ∧ W 0 9 0 = nI u ∧ W 20 8 0 = nI u ∧ ∀ i, i < u → cpT (W (8 + i)) (fun j => W 20 5 (261 * i + j)) ∧ stI (W 1) (W (8 + i)) n np T
def IVn (W : Nat → Nat → Nat → Int32) (D : Nat → Nat → Int64) (n np T : Nat) : Prop := cpM (W 1) (W 20) D n np ∧ cpT (W 3) (W 20 3) ∧ stI (W 1) (W 3) n np T ∧ cpIn (W 0) (W 20) ∧ (W 0 3 0 = W 20 16 0 ∧ W 0 4 0 = W 20 17 0) ∧ cpP W n np T ∧ cpO (W 7) (W 20)
def IV (W : Nat → Nat → Nat → Int32) (D : Nat → Nat → Int64) (T : Nat) : Prop := ∃ n np, IVn W D n np T
theorem IV_ref {W : Nat → Nat → Nat → Int32} {D : Nat → Nat → Int64} {n np T : Nat} {M' : Nat → Nat → Int32} (h : IVn W D n np T) (e : ∀ k, k = 1 ∨ k = 3 ∨ k = 5 ∨ k = 8 ∨ k = 9 ∨ k = 10 ∨ k = 16 ∨ k = 17 ∨ k = 41 ∨ k = 42 → M' k = W 20 k) : IVn (Ws W 20 M') D n np T := by
  obtain ⟨h1, h2, h3, h4, h5, ⟨u, h6, h7, h8, h9⟩, h10⟩ := h
  refine ⟨?_, ?_, ?_, ?_, ?_, ⟨u, h6, ?_, ?_, fun i hi => ?_⟩, ?_⟩
  · rw [Ws_ne (by omega), Ws_eq]; exact cpM_keep h1 (e 1 (by omega)) rfl
  · rw [Ws_ne (by omega), Ws_eq, e 3 (by omega)]; exact h2
  · rw [Ws_ne (by omega), Ws_ne (by omega)]; exact h3
  · rw [Ws_ne (by omega), Ws_eq]
    unfold cpIn at h4 ⊢
    rw [e 9 (by omega), e 10 (by omega)]; exact h4
  · rw [Ws_ne (by omega), Ws_eq, e 16 (by omega), e 17 (by omega)]; exact h5
  · rw [Ws_ne (by omega)]; exact h7
  · rw [Ws_eq, e 8 (by omega)]; exact h8
  · rw [Ws_ne (by omega), Ws_eq, Ws_ne (by omega), e 5 (by omega)]; exact h9 i hi
  · rw [Ws_ne (by omega), Ws_eq]
    unfold cpO at h10 ⊢
    rw [e 41 (by omega), e 42 (by omega)]; exact h10
theorem IV_T {W : Nat → Nat → Nat → Int32} {D : Nat → Nat → Int64} {n np T T' : Nat} (h : IVn W D n np T) (hT : T ≤ T') : IVn W D n np T' := by
  obtain ⟨h1, h2, h3, h4, h5, ⟨u, h6, h7, h8, h9⟩, h10⟩ := h
  exact ⟨h1, h2, stI_T h3 hT, h4, h5, ⟨u, h6, h7, h8, fun i hi => ⟨(h9 i hi).1, stI_T (h9 i hi).2 hT⟩⟩, h10⟩
/-! the law's cases -/
section
variable {G : osG} {z : osS} {N x : Nat} {α : Type} {Q : Int32 → osS → Prop}
theorem gx_throw {ρ : Type} {j : Nat} {Q : Nat ⊕ ρ → osS → Prop} (hz : z.2 = none) (h : Q (.inl j) z) : gx (osthrow j G z) Q := ⟨.inl j, z, by unfold osthrow; rw [hz], h⟩
theorem gx_Rt {ρ : Type} {m : osM ρ} {Q : Nat ⊕ ρ → osS → Prop} (h : gx (m G z) (fun v z' => Q (.inr v) z')) : gx (osRt m G z) Q := by
  obtain ⟨v, z', h1, h2⟩ := h
  exact ⟨.inr v, z', by unfold osRt; rw [h1], h2⟩
theorem gx_bindT {β ρ : Type} {m : osM (Nat ⊕ β)} {f : β → osM (Nat ⊕ ρ)} {Q : Nat ⊕ ρ → osS → Prop} (h : gx (m G z) (fun r z' => match r with | .inl j => Q (.inl j) z' | .inr v => gx (f v G z') Q)) : gx (osbindT m f G z) Q := by
  obtain ⟨r, z1, h1, h2⟩ := h
  cases r with
  | inl j => exact ⟨.inl j, z1, by unfold osbindT; rw [h1], h2⟩
  | inr v =>
    obtain ⟨a, z2, h3, h4⟩ := h2
    exact ⟨a, z2, by unfold osbindT; rw [h1]; exact h3, h4⟩
theorem gx_bindC {β ρ : Type} {m : osM (Nat ⊕ β)} {hh : Nat → osM ρ} {f : β → osM ρ} {Q : ρ → osS → Prop} (h : gx (m G z) (fun r z' => match r with | .inl j => gx (hh j G z') Q | .inr v => gx (f v G z') Q)) : gx (osbindC m hh f G z) Q := by
  obtain ⟨r, z1, h1, h2⟩ := h
  cases r with
  | inl j =>
    obtain ⟨a, z2, h3, h4⟩ := h2
    exact ⟨a, z2, by unfold osbindC; rw [h1]; exact h3, h4⟩
  | inr v =>
    obtain ⟨a, z2, h3, h4⟩ := h2
    exact ⟨a, z2, by unfold osbindC; rw [h1]; exact h3, h4⟩
/-- the class' answer r against the reference's: t its throw, b its value -/
def agr (L : List (Nat × Int32)) (r : Nat ⊕ Int32) (t b : Int32) : Prop := match r with
  | .inl j => (∃ q, L.find? (fun x => x.1 == j) = some q ∧ q.2 = t) ∧ ¬ t = 0
  | .inr v => t = 0 ∧ v = b
theorem gx_hand {L : List (Nat × Int32)} {j : Nat} {t : Int32} (h : ∃ q, L.find? (fun x => x.1 == j) = some q ∧ q.2 = t) (k : Q t z) : gx (oshand L j G z) Q := by
  obtain ⟨q, h1, rfl⟩ := h
  refine ⟨q.2, z, ?_, k⟩
  unfold oshand
  rw [h1]; rfl
theorem lcmp_r {a : Int64} : lg_cmp a a = 0 := lcmp_0.mpr rfl
end
/-- the reference's part of a case -/
def RF (x T : Nat) (L : List (Nat × Int32)) (r : Nat ⊕ Int32) (z1 : osS) (b : Int32) (z2 : osS) : Prop := osFr (x + 129) (x + 129 + 21) z1 z2 ∧ ∃ ad W D, WD z2 x ad W D ∧ IV W D T ∧ agr L r (W 20 0 0) b
theorem q_X10_thrown {G : osG} {z : osS} {N m : Nat} {M : Nat → Nat → Int32} {D : Nat → Nat → Int64} (hm : rX10 z m M D) : qX10_thrown N m G z = some (M 0 0, z) := gx_eq (gx_gI hm.o (by decide) rfl (gx_ret ⟨rfl, rfl⟩))
theorem updL_eq {g : Nat → Int64} {k : Nat} {v : Int64} : vp_updL g k v k = v := by simp [vp_updL]
section
variable {G : osG} {z : osS} {N x T : Nat} {Q : Int32 → osS → Prop} {H : (Nat ⊕ Int32) → (Nat → Nat) → (Nat → Nat → Nat → Int32) → (Nat → Nat → Int64) → Prop} {L : List (Nat × Int32)} {F : osM (Nat ⊕ Int32)} {R : osM Int32}
/-- a call that answers a number, or throws: put is what the wrapper does with the number, cmp what the law does with both -/
theorem case_G {put : Int32 → osM Int32} {cmp : Int32 → osM Int32} {cont : osM Int32} (hF : gx (F G z) (fun r z1 => ∃ ad W D, WD z1 x ad W D ∧ H r ad W D))
    (hx : ∃ c fs, z.1 x = some (.inr (c, fs)) ∧ c = 7)
    (hR : ∀ r z1 ad W D, WD z1 x ad W D → H r ad W D → gx (R G z1) (RF x T L r z1))
    (hp : ∀ v z1 ad W D, WD z1 x ad W D → H (.inr v) ad W D → ∃ (z2 : osS) (Y : osS → Prop), put v G z1 = some (0, z2) ∧ WD z2 x ad W D ∧ (∀ z3, osFr (x + 129) (x + 129 + 21) z2 z3 → Y z3) ∧ ∀ b z3 ad3 W3 D3, Y z3 → WD z3 x ad3 W3 D3 → IV W3 D3 T → v = b → gx (cmp b G z3) Q)
    (hk : ∀ z2 ad W D, WD z2 x ad W D → IV W D T → gx (cont G z2) Q) :
    gx (osbind (osbindC (osrecv [7] x F) (oshand L) put) (fun k => osbind (osrecv [8] (x + 129) R) fun b => osbind (osrecv [8] (x + 129) (qX10_thrown N (x + 129))) fun t => osite (t = k) (osite (k = 0) (cmp b) cont) (osret (0 : Int32))) G z) Q := by
  obtain ⟨c, fs, hx1, rfl⟩ := hx
  refine gx_bind (gx_bindC (gx_mono (gx_recv hx1 (by decide) hF) (fun r z1 hr => ?_)))
  obtain ⟨ad, W, D, hw, hh⟩ := hr
  cases r with
  | inl j =>
    obtain ⟨b, z2, e1, fr, ad2, W2, D2, hw2, hi2, ha⟩ := hR (.inl j) z1 ad W D hw hh
    obtain ⟨hq, hq3⟩ := ha
    show gx (oshand L j G z1) _
    refine gx_hand hq (gx_bind (gx_recv hw.m.o (by decide) ⟨b, z2, e1, gx_recvE hw2.m.o (by decide) (q_X10_thrown hw2.m) (gx_itet rfl (gx_itef hq3 (hk z2 ad2 W2 D2 hw2 hi2)))⟩))
  | inr v =>
    obtain ⟨z2, Y, p1, p2, p3, p4⟩ := hp v z1 ad W D hw hh
    show gx (put v G z1) _
    obtain ⟨b, z3, e1, fr, ad2, W2, D2, hw2, hi2, ha⟩ := hR (.inr v) z2 ad W D p2 hh
    exact ⟨0, z2, p1, gx_bind (gx_recv p2.m.o (by decide) ⟨b, z3, e1, gx_recvE hw2.m.o (by decide) (q_X10_thrown hw2.m) (gx_itet ha.1 (gx_itet rfl (p4 b z3 ad2 W2 D2 (p3 z3 fr) hw2 hi2 ha.2)))⟩)⟩
theorem case_I {cont : osM Int32} (hG : G.2.2.1 ≤ x) (hF : gx (F G z) (fun r z1 => ∃ ad W D, WD z1 x ad W D ∧ H r ad W D)) (hx : ∃ c fs, z.1 x = some (.inr (c, fs)) ∧ c = 7)
    (hR : ∀ r z1 ad W D, WD z1 x ad W D → H r ad W D → gx (R G z1) (RF x T L r z1))
    (hk : ∀ z2 ad W D, WD z2 x ad W D → IV W D T → gx (cont G z2) Q) :
    gx (osbind (osbindC (osrecv [7] x F) (oshand L) (fun v => osbind (ossJ 2 (x + 150) (0 : Int32) (v.toInt64)) fun _ => osret (0 : Int32))) (fun k => osbind (osrecv [8] (x + 129) R) fun b => osbind (osrecv [8] (x + 129) (qX10_thrown N (x + 129))) fun t => osite (t = k) (osite (k = 0) (osbind (osaJ 2 (x + 150) (0 : Int32)) fun o => osite ((lg_cmp o (b.toInt64)) = 0) cont (osret (0 : Int32))) cont) (osret (0 : Int32))) G z) Q := by
  refine case_G (cmp := fun b => osbind (osaJ 2 (x + 150) (0 : Int32)) fun o => osite ((lg_cmp o (b.toInt64)) = 0) cont (osret (0 : Int32))) (H := H) hF hx hR (fun v z1 ad W D hw hh => ?_) hk
  obtain ⟨g, hg⟩ := hw.2.2.2.2.1
  have hs : gx ((osbind (ossJ 2 (x + 150) (0 : Int32) (v.toInt64)) fun _ => osret (0 : Int32)) G z1) (fun a z' => a = 0 ∧ z' = osup z1 (x + 150) (.inl (2, (1, .inr (.inl (vp_updL g 0 (v.toInt64))))))) := gx_sNJ (i := 0) hg (by omega) (by omega) (by omega) (gx_ret ⟨rfl, rfl⟩)
  refine ⟨_, fun z3 => z3.1 (x + 150) = some (.inl (2, (1, .inr (.inl (vp_updL g 0 (v.toInt64)))))), gx_eq hs, hw.out (osFr.rf.up (by omega) (by omega)) osup_eq, fun z3 fr => fr.at (by omega) osup_eq, fun b z3 ad3 W3 D3 hY hw3 hi3 e => ?_⟩
  refine gx_aNJ (i := 0) hY (by omega) (by omega) (gx_itet ?_ (hk z3 ad3 W3 D3 hw3 hi3))
  rw [updL_eq, e]; exact lcmp_r
/-- a call that answers a truth value, or throws -/
theorem case_B {cont : osM Int32} (hG : G.2.2.1 ≤ x) (hF : gx (F G z) (fun r z1 => ∃ ad W D, WD z1 x ad W D ∧ H r ad W D)) (hx : ∃ c fs, z.1 x = some (.inr (c, fs)) ∧ c = 7)
    (hR : ∀ r z1 ad W D, WD z1 x ad W D → H r ad W D → gx (R G z1) (RF x T L r z1))
    (hk : ∀ z2 ad W D, WD z2 x ad W D → IV W D T → gx (cont G z2) Q) :
    gx (osbind (osbindC (osrecv [7] x F) (oshand L) (fun v => osite (v = 0) (osbind (ossJ 2 (x + 150) (0 : Int32) (0 : Int64)) fun _ => osret (0 : Int32)) (osbind (ossJ 2 (x + 150) (0 : Int32) (1 : Int64)) fun _ => osret (0 : Int32)))) (fun k => osbind (osrecv [8] (x + 129) R) fun b => osbind (osrecv [8] (x + 129) (qX10_thrown N (x + 129))) fun t => osite (t = k) (osite (k = 0) (osbind (osaJ 2 (x + 150) (0 : Int32)) fun o => osite (b = 0) (osite ((lg_cmp o (0 : Int64)) = 0) cont (osret (0 : Int32))) (osite ((lg_cmp o (1 : Int64)) = 0) cont (osret (0 : Int32)))) cont) (osret (0 : Int32))) G z) Q := by
  refine case_G (cmp := fun b => osbind (osaJ 2 (x + 150) (0 : Int32)) fun o => osite (b = 0) (osite ((lg_cmp o (0 : Int64)) = 0) cont (osret (0 : Int32))) (osite ((lg_cmp o (1 : Int64)) = 0) cont (osret (0 : Int32)))) (H := H) hF hx hR (fun v z1 ad W D hw hh => ?_) hk
  obtain ⟨g, hg⟩ := hw.2.2.2.2.1
  have hs : ∀ q : Int64, gx ((osbind (ossJ 2 (x + 150) (0 : Int32) q) fun _ => osret (0 : Int32)) G z1) (fun a z' => a = 0 ∧ z' = osup z1 (x + 150) (.inl (2, (1, .inr (.inl (vp_updL g 0 q)))))) := fun q => gx_sNJ (i := 0) hg (by omega) (by omega) (by omega) (gx_ret ⟨rfl, rfl⟩)
  refine ⟨osup z1 (x + 150) (.inl (2, (1, .inr (.inl (vp_updL g 0 (if v = 0 then 0 else 1)))))), fun z3 => z3.1 (x + 150) = some (.inl (2, (1, .inr (.inl (vp_updL g 0 (if v = 0 then 0 else 1)))))), ?_, hw.out (osFr.rf.up (by omega) (by omega)) osup_eq, fun z3 fr => fr.at (by omega) osup_eq, fun b z3 ad3 W3 D3 hY hw3 hi3 e => ?_⟩
  · by_cases h0 : v = 0
    · rw [if_pos h0]; exact gx_eq (gx_itet h0 (hs 0))
    · rw [if_neg h0]; exact gx_eq (gx_itef h0 (hs 1))
  · subst e
    refine gx_aNJ (i := 0) hY (by omega) (by omega) ?_
    rw [updL_eq]
    by_cases h0 : v = 0
    · rw [if_pos h0]; exact gx_itet h0 (gx_itet lcmp_r (hk z3 ad3 W3 D3 hw3 hi3))
    · rw [if_neg h0]; exact gx_itef h0 (gx_itet lcmp_r (hk z3 ad3 W3 D3 hw3 hi3))
end
