/-! the law's own steps (30): a map's text is built; the builder's tools -/
theorem chr_nI2 {a : Nat} (h : a < 16) {v : Int32} (e : v = nI a) : ((((112 : Int32) + v).toUInt32 % 65536).toInt32) = nI (97 + (15 + a)) := by
  subst e
  rw [show (112 : Int32) + nI a = nI (112 + a) from nI_sum (a := 112) (b := a) rfl rfl, show 112 + a = 97 + (15 + a) by omega]
  exact (andc (97 + (15 + a)) (by omega)).2.2
/-- below k0 all but the number drawn is as it was; the size is known -/
def gN (x k0 : Nat) (z z' : osS) : Prop := (∀ a, a < k0 → ¬ a = x + 129 → z'.1 a = z.1 a) ∧ ∃ k k', z.2 = some k ∧ z'.2 = some k' ∧ k0 ≤ k ∧ k ≤ k'
section
variable {x k0 k1 k : Nat} {z z1 z2 : osS}
theorem gN.tr (h : gN x k0 z z1) (h2 : gN x k0 z1 z2) : gN x k0 z z2 := by
  obtain ⟨h1, k, k1, e1, e2, l1, l2⟩ := h
  obtain ⟨h3, k3, k4, e3, e4, l3, l4⟩ := h2
  rw [e2] at e3
  cases e3
  exact ⟨fun a ha hx => (h3 a ha hx).trans (h1 a ha hx), k, k4, e1, e4, l1, by omega⟩
theorem gN.gr (h : gr k1 z z1) (hk : k0 ≤ k1) : gN x k0 z z1 := by
  obtain ⟨h1, k, k', e1, e2, l1, l2⟩ := h
  exact ⟨fun a ha _ => h1 a (by omega), k, k', e1, e2, by omega, l2⟩
theorem gN.lo (h : gN x k1 z z1) (hk : k0 ≤ k1) : gN x k0 z z1 := by
  obtain ⟨h1, k, k', e1, e2, l1, l2⟩ := h
  exact ⟨fun a ha hx => h1 a (by omega) hx, k, k', e1, e2, by omega, l2⟩
theorem gN.rf (h : z.2 = some k) (hk : k0 ≤ k) : gN x k0 z z := ⟨fun _ _ _ => rfl, k, k, h, h, hk, Nat.le_refl _⟩
theorem gN.nx (e : z.2 = some k) (hk : k0 ≤ k) (hb : ∀ b, ¬ b = x + 129 → z1.1 b = z.1 b) (h2 : z1.2 = z.2) : gN x k0 z z1 := ⟨fun a _ hx => hb a hx, k, k, e, h2.trans e, hk, Nat.le_refl _⟩
theorem gN.sz (h : gN x k0 z z1) : ∃ k', z1.2 = some k' ∧ k0 ≤ k' := by
  obtain ⟨h1, k, k', e1, e2, l1, l2⟩ := h
  exact ⟨k', e2, by omega⟩
theorem gN.le (h : gN x k0 z z1) (e : z.2 = some k) : ∃ k', z1.2 = some k' ∧ k ≤ k' := by
  obtain ⟨h1, k2, k', e1, e2, l1, l2⟩ := h
  rw [e] at e1
  cases e1
  exact ⟨k', e2, l2⟩
theorem rgR.gr (h : rgR x z) (g : gr k0 z z1) (hk : x + 130 ≤ k0) : rgR x z1 := by
  obtain ⟨⟨f, hf⟩, q, hq, hq2⟩ := h
  obtain ⟨h1, k, k', e1, e2, l1, l2⟩ := g
  exact ⟨⟨f, (h1 _ (by omega)).trans hf⟩, k', e2, by omega⟩
theorem buR.keep {a : Nat} {t : List Nat} (h : buR z k0 a t) (hk : ∀ c, k0 ≤ c → (∀ q, z.2 = some q → c < q) → z1.1 c = z.1 c) (hz : ∀ q, z.2 = some q → ∃ q1, z1.2 = some q1 ∧ q ≤ q1) : buR z1 k0 a t := by
  obtain ⟨ha, v, cap, f, ⟨⟨q, b0, b1, b2, b3, b4, b5⟩, y1, y2, y3, y4⟩, hc, hg⟩ := h
  obtain ⟨q1, e1, l1⟩ := hz q b0
  refine ⟨ha, v, cap, f, ⟨⟨q1, e1, b1, by omega, b3, by omega, b5⟩, (hk a b1 ?_).trans y1, (hk v b3 ?_).trans y2, y3, y4⟩, hc, hg⟩
  · intro q9 h9
    rw [b0] at h9; cases h9; exact b2
  · intro q9 h9
    rw [b0] at h9; cases h9; exact b4
/-- a builder goes on through all that leaves the cells made before it as they were -/
theorem buR.gN {a : Nat} {t : List Nat} (h : buR z k0 a t) (hx : x + 130 ≤ k0) (e : z.2 = some k) (g : gN x k z z1) : buR z1 k0 a t := h.keep (fun c hc hq => g.1 c (hq k e) (by omega)) (fun q hq => by
  rw [e] at hq
  cases hq
  exact g.le e)
theorem buR.sz {a : Nat} {t : List Nat} (h : buR z k0 a t) : ∃ q, z.2 = some q ∧ k0 ≤ a ∧ a < q ∧ k0 ≤ q := by
  obtain ⟨ha, v, cap, f, ⟨⟨q, b0, b1, b2, b3, b4, b5⟩, _⟩, _⟩ := h
  exact ⟨q, b0, b1, b2, by omega⟩
end
section
variable {α : Type} {G : osG} {z z1 : osS} {N x k0 d k a c : Nat} {Q : α → osS → Prop} {t u : List Nat}
theorem sB_con {j : Nat} {f : Nat → osM α} (h : buR z k0 d t) (hA : G.2.2.1 ≤ k0) (hI : osInj G) (hj : j < 17) (e : osTs.getD j [] = u.map nI) (hu : asc u) (hl : 2 * (t.length + u.length) ≤ 1200) (kk : ∀ z1, gr k0 z z1 → buR z1 k0 d (t ++ u) → gx (f d G z1) Q) : gx (osbind (ostext j) (fun x3 => osbind (osrecv [9] d (qBJ4_append_15ec4 N d x3)) f) G z) Q := by
  obtain ⟨q, h1, h2, h3, h4⟩ := h.sz
  exact gx_callE (b := G.2.2.2.2 j) (z1 := z) rfl (sB_str (lo := d + 1) h ⟨⟨hu, by omega⟩, by omega, Or.inl ⟨j, hj, rfl, e⟩⟩ hA hI hl (Nat.lt_succ_self d) kk)
/-- a constant text, then goes on with it -/
theorem sB_cst {j : Nat} {s : Nat} {f : Nat → osM α} (h : buR z k0 d t) (hs : s = G.2.2.2.2 j) (hA : G.2.2.1 ≤ k0) (hI : osInj G) (hj : j < 17) (e : osTs.getD j [] = u.map nI) (hu : asc u) (hl : 2 * (t.length + u.length) ≤ 1200) (kk : ∀ z1, gr k0 z z1 → buR z1 k0 d (t ++ u) → gx (f d G z1) Q) : gx (osbind (osrecv [9] d (qBJ4_append_15ec4 N d s)) f G z) Q := by
  obtain ⟨q, h1, h2, h3, h4⟩ := h.sz
  exact sB_str (lo := d + 1) h ⟨⟨hu, by omega⟩, by omega, Or.inl ⟨j, hj, hs, e⟩⟩ hA hI hl (Nat.lt_succ_self d) kk
theorem tB_chr {f : Nat → osM α} {v : Int32} (h : buR z k0 d t) (hA : G.2.2.1 ≤ k0) (hI : osInj G) (ha : a < 16) (ev : v = nI a) (hl : 2 * (t.length + 1) ≤ 1200) (kk : ∀ z1, gr k0 z z1 → buR z1 k0 d (t ++ [97 + a]) → gx (f d G z1) Q) : gx (osbind (osrecv [9] d (qBJ4_append_cf468 N d ((((97 : Int32) + v).toUInt32 % 65536).toInt32))) f G z) Q := by
  rw [chr_nI (by omega) ev]
  exact sB_chr h hA hI (by omega) hl kk
theorem tB_chr2 {f : Nat → osM α} {v : Int32} (h : buR z k0 d t) (hA : G.2.2.1 ≤ k0) (hI : osInj G) (ha : a < 16) (ev : v = nI a) (hl : 2 * (t.length + 1) ≤ 1200) (kk : ∀ z1, gr k0 z z1 → buR z1 k0 d (t ++ [97 + (15 + a)]) → gx (f d G z1) Q) : gx (osbind (osrecv [9] d (qBJ4_append_cf468 N d ((((112 : Int32) + v).toUInt32 % 65536).toInt32))) f G z) Q := by
  rw [chr_nI2 (by omega) ev]
  exact sB_chr h hA hI (by omega) hl kk
/-- the number drawn; the builder is as it was -/
theorem n_next {f : Int32 → osM α} (h : rgR x z) (hb : buR z k0 d t) (hx : x + 130 ≤ k0) (hA : G.2.2.1 ≤ x) (kk : ∀ z1 m, m < 2 ^ 23 → rgR x z1 → gN x k0 z z1 → buR z1 k0 d t → gx (f (nI m) G z1) Q) : gx (osbind (qL_next N (x + 129)) f G z) Q := by
  refine gx_call (q_next h hA) ?_
  rintro r z1 ⟨m, hm, rfl, hr, hb9, h2⟩
  obtain ⟨q, h3, h4, h5, h6⟩ := hb.sz
  exact kk z1 m hm hr (gN.nx h3 h6 hb9 h2) (hb.gN hx h3 (gN.nx (k0 := q) h3 (Nat.le_refl _) hb9 h2))
/-- the text of a border -/
theorem q_L_border {v w : Int32} {Q : Nat → osS → Prop} (e : z.2 = some k) (hA : G.2.2.1 ≤ k) (hI : osInj G) (ha : a < 16) (hc : c < 16) (ev : v = nI a) (ew : w = nI c) (kk : ∀ z1 s lo, gr k z z1 → k ≤ lo → stR G lo z1 s ((kw_bo ++ [32, 97 + a, 32, 97 + c]) ++ [59]) → Q s z1) : gx (qL_border N v w G z) Q := by
  unfold qL_border
  refine sb_new e hA (fun z1 g1 b1 => ?_)
  refine sb_con (u := [98, 111, 114, 100, 101, 114, 32]) b1 hA hI (by omega) rfl (asc_of rfl) (by decide) (fun z2 g2 b2 => ?_)
  refine t_chr b2 hA hI ha ev (by decide) (fun z3 g3 b3 => ?_)
  refine sb_con (u := [32]) b3 hA hI (by omega) rfl (asc_of rfl) (by simp) (fun z4 g4 b4 => ?_)
  refine t_chr b4 hA hI hc ew (by simp) (fun z5 g5 b5 => ?_)
  refine sb_con (u := [59]) b5 hA hI (by omega) rfl (asc_of rfl) (by simp) (fun z6 g6 b6 => ?_)
  have g := g1.tr (g2.tr (g3.tr (g4.tr (g5.tr g6))))
  refine sb_out b6 hA hI (by simp) (by simp) (fun z7 s k1 e1 g7 _ hs => gx_ret (kk z7 s k1 (g.tr g7) ?_ hs))
  obtain ⟨k', e', l'⟩ := g.le e
  rw [e1] at e'
  cases e'
  exact l'
end
