/-! the law's own steps (10): the texts that it makes -/
theorem chr_nI {a : Nat} (h : a < 31) {v : Int32} (e : v = nI a) : ((((97 : Int32) + v).toUInt32 % 65536).toInt32) = nI (97 + a) := by
  subst e
  rw [show (97 : Int32) + nI a = nI (97 + a) from nI_sum (a := 97) (b := a) rfl rfl]
  exact (andc (97 + a) (by omega)).2.2
section
variable {α : Type} {G : osG} {z z1 : osS} {N x n np T a c k k0 d : Nat} {ad : Nat → Nat} {W : Nat → Nat → Nat → Int32} {Q : α → osS → Prop} {t u : List Nat}
theorem sb_con {j : Nat} {f : Nat → osM α} (h : buR z k0 d t) (hA : G.2.2.1 ≤ k0) (hI : osInj G) (hj : j < 17) (e : osTs.getD j [] = u.map nI) (hu : asc u) (hl : 2 * (t.length + u.length) ≤ 64) (kk : ∀ z1, gr k0 z z1 → buR z1 k0 d (t ++ u) → gx (f d G z1) Q) : gx (osbind (ostext j) (fun x3 => osbind (osrecv [9] d (qJ4_append_15ec4 N d x3)) f) G z) Q := by
  refine gx_callE (b := G.2.2.2.2 j) (z1 := z) rfl (sb_str (lo := d + 1) h ⟨⟨hu, by omega⟩, ?_, Or.inl ⟨j, hj, rfl, e⟩⟩ hA hI hl (Nat.lt_succ_self d) kk)
  obtain ⟨v, cap, f', hb, _⟩ := h.2
  obtain ⟨q, h1, h2, _⟩ := hb.1
  omega
theorem LW.gr (h : LW z x ad W n np T) (e : z.2 = some k) (g : gr k z z1) : LW z1 x ad W n np T ∧ fL x z z1 := by
  obtain ⟨q, hq, hq2⟩ := h.sz
  rw [e] at hq
  cases hq
  refine ⟨h.far (fun c h1 h2 => g.1 c (by omega)) ?_, fL.gr e g⟩
  obtain ⟨k1, k2, e1, e2, l1, l2⟩ := g.2
  exact ⟨k2, e2, by omega⟩
theorem LW.nx (h : LW z x ad W n np T) (hr : rgR x z1) (hb : ∀ b, ¬ b = x + 129 → z1.1 b = z.1 b) (h2 : z1.2 = z.2) : LW z1 x ad W n np T ∧ fL x z z1 := by
  obtain ⟨q, hq, hq2⟩ := h.sz
  exact ⟨⟨h.w.far (fun c h1 h3 => hb c (by omega)), h.i.oD, h.z0, hr⟩, fun b _ _ _ _ => hb b (by omega), q, q, hq, h2.trans hq, Nat.le_refl _⟩
theorem l_next {f : Int32 → osM α} (h : LW z x ad W n np T) (hA : G.2.2.1 ≤ x) (kk : ∀ z1 m, m < 2 ^ 23 → LW z1 x ad W n np T → fL x z z1 → gx (f (nI m) G z1) Q) : gx (osbind (qL_next N (x + 129)) f G z) Q := by
  refine gx_call (q_next h.r hA) ?_
  rintro r z1 ⟨m, hm, rfl, hr, hb, h2⟩
  obtain ⟨h3, h4⟩ := h.nx hr hb h2
  exact kk z1 m hm h3 h4
theorem asc_of {u : List Nat} (h : u.all (fun c => decide (c < 128)) = true) : asc u := fun c hc => of_decide_eq_true (List.all_eq_true.mp h c hc)
theorem fL.rf {k : Nat} (e : z.2 = some k) : fL x z z := ⟨fun _ _ _ _ _ => rfl, k, k, e, e, Nat.le_refl _⟩
/-- a text that begins with a letter: how it is gone on -/
theorem t_open {f : Nat → osM α} {v : Int32} (h : LW z x ad W n np T) (hA : G.2.2.1 ≤ x) (hI : osInj G) (ha : a < 16) (ev : v = nI a) (kk : ∀ z1 k, z.2 = some k → G.2.2.1 ≤ k → gr k z z1 → buR z1 k k [97 + a] → gx (f k G z1) Q) : gx (osbind (osnew (.inr (9, [.null, .int 0, .int 0, .int 0]))) (fun x1 => osbind (qJ4_init_da8c8 N x1) fun _ => osbind (osrecv [9] x1 (qJ4_append_cf468 N x1 ((((97 : Int32) + v).toUInt32 % 65536).toInt32))) f) G z) Q := by
  obtain ⟨q, hq, hq2⟩ := h.sz
  rw [chr_nI (by omega) ev]
  refine sb_new hq (by omega) (fun z1 g1 b1 => ?_)
  exact sb_chr b1 (by omega) hI (by omega) (by simp) (fun z2 g2 b2 => kk z2 q hq (by omega) (g1.tr g2) b2)
theorem t_chr {f : Nat → osM α} {v : Int32} (h : buR z k0 d t) (hA : G.2.2.1 ≤ k0) (hI : osInj G) (ha : a < 16) (ev : v = nI a) (hl : 2 * (t.length + 1) ≤ 64) (kk : ∀ z1, gr k0 z z1 → buR z1 k0 d (t ++ [97 + a]) → gx (f d G z1) Q) : gx (osbind (osrecv [9] d (qJ4_append_cf468 N d ((((97 : Int32) + v).toUInt32 % 65536).toInt32))) f G z) Q := by
  rw [chr_nI (by omega) ev]
  exact sb_chr h hA hI (by omega) hl kk
theorem t_close {f : Nat → osM α} (h : LW z x ad W n np T) (e : z.2 = some k) (g : gr k z z1) (hb : buR z1 k d t) (hA : G.2.2.1 ≤ k) (hI : osInj G) (hl : 2 * t.length ≤ 64) (kk : ∀ z2 s lo, LW z2 x ad W n np T → fL x z z2 → x + 130 ≤ lo → stR G lo z2 s t → gx (f s G z2) Q) : gx (osbind (osrecv [9] d (qJ4_toString_0e30d N d)) f G z1) Q := by
  obtain ⟨q, hq, hq2⟩ := h.sz
  rw [e] at hq
  cases hq
  refine sb_out hb hA hI hl (by omega) (fun z2 s k1 e1 g2 _ hs => ?_)
  obtain ⟨h3, h4⟩ := h.gr e (g.tr g2)
  obtain ⟨k2, k3, e2, e3, l1, l2⟩ := g.2
  have : k1 = k3 := by rw [e1] at e3; cases e3; rfl
  exact kk z2 s k1 h3 h4 (by rw [e] at e2; cases e2; omega) hs
def uTO : List Nat := [32, 116, 111, 32]
def uSU : List Nat := [32, 115, 117, 112, 112, 111, 114, 116, 32]
def uCO : List Nat := [32, 99, 111, 110, 118, 111, 121, 32]
def uHO : List Nat := [32, 104, 111, 108, 100, 59]
/-- the text a to c; -/
theorem t_to {f : Nat → osM α} {v w : Int32} (h : LW z x ad W n np T) (hA : G.2.2.1 ≤ x) (hI : osInj G) (ha : a < 16) (hc : c < 16) (ev : v = nI a) (ew : w = nI c) (kk : ∀ z2 s lo, LW z2 x ad W n np T → fL x z z2 → x + 130 ≤ lo → stR G lo z2 s [97 + a, 32, 116, 111, 32, 97 + c, 59] → gx (f s G z2) Q) : gx (osbind (osnew (.inr (9, [.null, .int 0, .int 0, .int 0]))) (fun x1 => osbind (qJ4_init_da8c8 N x1) fun _ => osbind (osrecv [9] x1 (qJ4_append_cf468 N x1 ((((97 : Int32) + v).toUInt32 % 65536).toInt32))) fun x2 => osbind (ostext 11) fun x3 => osbind (osrecv [9] x2 (qJ4_append_15ec4 N x2 x3)) fun x4 => osbind (osrecv [9] x4 (qJ4_append_cf468 N x4 ((((97 : Int32) + w).toUInt32 % 65536).toInt32))) fun x5 => osbind (ostext 4) fun x6 => osbind (osrecv [9] x5 (qJ4_append_15ec4 N x5 x6)) fun x7 => osbind (osrecv [9] x7 (qJ4_toString_0e30d N x7)) f) G z) Q := by
  refine t_open h hA hI ha ev (fun z1 k e hk g1 b1 => ?_)
  refine sb_con (u := uTO) b1 hk hI (by omega) rfl (asc_of rfl) (by simp [uTO]) (fun z2 g2 b2 => ?_)
  refine t_chr b2 hk hI hc ew (by simp [uTO]) (fun z3 g3 b3 => ?_)
  refine sb_con (u := [59]) b3 hk hI (by omega) rfl (asc_of rfl) (by simp [uTO]) (fun z4 g4 b4 => ?_)
  exact t_close h e (g1.tr (g2.tr (g3.tr g4))) b4 hk hI (by simp [uTO]) kk
/-- the text build a army; -/
theorem t_build {f : Nat → osM α} {v : Int32} (h : LW z x ad W n np T) (hA : G.2.2.1 ≤ x) (hI : osInj G) (ha : a < 16) (ev : v = nI a) (kk : ∀ z2 s lo, LW z2 x ad W n np T → fL x z z2 → x + 130 ≤ lo → stR G lo z2 s [98, 117, 105, 108, 100, 32, 97 + a, 32, 97, 114, 109, 121, 59] → gx (f s G z2) Q) : gx (osbind (osnew (.inr (9, [.null, .int 0, .int 0, .int 0]))) (fun x1 => osbind (qJ4_init_da8c8 N x1) fun _ => osbind (ostext 14) fun x2 => osbind (osrecv [9] x1 (qJ4_append_15ec4 N x1 x2)) fun x3 => osbind (osrecv [9] x3 (qJ4_append_cf468 N x3 ((((97 : Int32) + v).toUInt32 % 65536).toInt32))) fun x4 => osbind (ostext 15) fun x5 => osbind (osrecv [9] x4 (qJ4_append_15ec4 N x4 x5)) fun x6 => osbind (osrecv [9] x6 (qJ4_toString_0e30d N x6)) f) G z) Q := by
  obtain ⟨q, hq, hq2⟩ := h.sz
  refine sb_new hq (by omega) (fun z1 g1 b1 => ?_)
  refine sb_con (u := [98, 117, 105, 108, 100, 32]) b1 (by omega) hI (by omega) rfl (asc_of rfl) (by decide) (fun z2 g2 b2 => ?_)
  refine t_chr b2 (by omega) hI ha ev (by decide) (fun z3 g3 b3 => ?_)
  refine sb_con (u := [32, 97, 114, 109, 121, 59]) b3 (by omega) hI (by omega) rfl (asc_of rfl) (by simp) (fun z4 g4 b4 => ?_)
  exact t_close h hq (g1.tr (g2.tr (g3.tr g4))) b4 (by omega) hI (by simp) kk
/-- the text remove a; -/
theorem t_remove {f : Nat → osM α} {v : Int32} (h : LW z x ad W n np T) (hA : G.2.2.1 ≤ x) (hI : osInj G) (ha : a < 16) (ev : v = nI a) (kk : ∀ z2 s lo, LW z2 x ad W n np T → fL x z z2 → x + 130 ≤ lo → stR G lo z2 s [114, 101, 109, 111, 118, 101, 32, 97 + a, 59] → gx (f s G z2) Q) : gx (osbind (osnew (.inr (9, [.null, .int 0, .int 0, .int 0]))) (fun x1 => osbind (qJ4_init_da8c8 N x1) fun _ => osbind (ostext 16) fun x2 => osbind (osrecv [9] x1 (qJ4_append_15ec4 N x1 x2)) fun x3 => osbind (osrecv [9] x3 (qJ4_append_cf468 N x3 ((((97 : Int32) + v).toUInt32 % 65536).toInt32))) fun x4 => osbind (ostext 4) fun x5 => osbind (osrecv [9] x4 (qJ4_append_15ec4 N x4 x5)) fun x6 => osbind (osrecv [9] x6 (qJ4_toString_0e30d N x6)) f) G z) Q := by
  obtain ⟨q, hq, hq2⟩ := h.sz
  refine sb_new hq (by omega) (fun z1 g1 b1 => ?_)
  refine sb_con (u := [114, 101, 109, 111, 118, 101, 32]) b1 (by omega) hI (by omega) rfl (asc_of rfl) (by decide) (fun z2 g2 b2 => ?_)
  refine t_chr b2 (by omega) hI ha ev (by decide) (fun z3 g3 b3 => ?_)
  refine sb_con (u := [59]) b3 (by omega) hI (by omega) rfl (asc_of rfl) (by simp) (fun z4 g4 b4 => ?_)
  exact t_close h hq (g1.tr (g2.tr (g3.tr g4))) b4 (by omega) hI (by simp) kk
/-- a text of an order -/
theorem q_L_order {v w : Int32} {Q : Nat → osS → Prop} (h : LW z x ad W n np T) (hA : G.2.2.1 ≤ x) (hI : osInj G) (ha : a < n) (ev : v = nI a) (ew : w = nI n) (kk : ∀ z2 s lo t, LW z2 x ad W n np T → fL x z z2 → x + 130 ≤ lo → stR G lo z2 s t → Q s z2) : gx (qL_order N (x + 129) v w G z) Q := by
  subst ev; subst ew
  have h16 := h.n16
  have hn0 : ¬ nI n = 0 := fun q => by have := (nI_00 (by omega)).mp q; omega
  unfold qL_order
  refine l_next h hA (fun z1 m1 hm1 h1 f1 => gx_guard hn0 (gx_retb ?_))
  rw [nI_rem (by omega) (by omega) (by omega)]
  refine l_next h1 hA (fun z2 m2 hm2 h2 f2 => gx_guard hn0 (gx_retb ?_))
  rw [nI_rem (by omega) (by omega) (by omega)]
  refine l_next h2 hA (fun z3 m3 hm3 h3 f3 => gx_guard (by decide) ?_)
  rw [show (nI m3 - nI m3 / (6 : Int32) * (6 : Int32)) = nI (m3 % 6) from nI_rem (b := 6) (by omega) (by omega) (by omega)]
  have fr := f1.tr (f2.tr f3)
  have c1 : m1 % n < n := Nat.mod_lt _ (by omega)
  have c2 : m2 % n < n := Nat.mod_lt _ (by omega)
  have fin : ∀ {k z4 d t}, z3.2 = some k → G.2.2.1 ≤ k → gr k z3 z4 → buR z4 k d t → 2 * t.length ≤ 64 → gx (osbind (osrecv [9] d (qJ4_toString_0e30d N d)) (fun s => osret s) G z4) Q := fun {k z4 d t} e hk g b hl => t_close h3 e g b hk hI hl (fun z5 s lo h5 f5 hlo hs => gx_ret (kk z5 s lo t h5 (fr.tr f5) hlo hs))
  rcases (show m3 % 6 = 0 ∨ m3 % 6 = 1 ∨ m3 % 6 = 2 ∨ m3 % 6 = 3 ∨ m3 % 6 = 4 ∨ m3 % 6 = 5 by omega) with e | e | e | e | e | e <;> rw [e]
  · refine gx_swN (c := 0) (Nat.le_of_ble_eq_true rfl) (by omega) (t_open h3 hA hI (by omega) rfl (fun z4 k e hk g1 b1 => sb_con (u := uSU) b1 hk hI (by omega) rfl (asc_of rfl) (by simp [uSU]) (fun z5 g2 b2 => t_chr b2 hk hI (by omega : m1 % n < 16) rfl (by simp [uSU]) (fun z6 g3 b3 => sb_con (u := [59]) b3 hk hI (by omega) rfl (asc_of rfl) (by simp [uSU]) (fun z7 g4 b4 => fin e hk (g1.tr (g2.tr (g3.tr g4))) b4 (by simp [uSU]))))))
  · refine gx_swN (c := 1) (Nat.le_of_ble_eq_true rfl) (by omega) (t_open h3 hA hI (by omega) rfl (fun z4 k e hk g1 b1 => sb_con (u := uSU) b1 hk hI (by omega) rfl (asc_of rfl) (by simp [uSU]) (fun z5 g2 b2 => t_chr b2 hk hI (by omega : m1 % n < 16) rfl (by simp [uSU]) (fun z6 g3 b3 => sb_con (u := uTO) b3 hk hI (by omega) rfl (asc_of rfl) (by simp [uSU, uTO]) (fun z7 g4 b4 => t_chr b4 hk hI (by omega : m2 % n < 16) rfl (by simp [uSU, uTO]) (fun z8 g5 b5 => sb_con (u := [59]) b5 hk hI (by omega) rfl (asc_of rfl) (by simp [uSU, uTO]) (fun z9 g6 b6 => fin e hk (g1.tr (g2.tr (g3.tr (g4.tr (g5.tr g6))))) b6 (by simp [uSU, uTO]))))))))
  · refine gx_swN (c := 2) (Nat.le_of_ble_eq_true rfl) (by omega) (t_open h3 hA hI (by omega) rfl (fun z4 k e hk g1 b1 => sb_con (u := uCO) b1 hk hI (by omega) rfl (asc_of rfl) (by simp [uCO]) (fun z5 g2 b2 => t_chr b2 hk hI (by omega : m1 % n < 16) rfl (by simp [uCO]) (fun z6 g3 b3 => sb_con (u := uTO) b3 hk hI (by omega) rfl (asc_of rfl) (by simp [uCO, uTO]) (fun z7 g4 b4 => t_chr b4 hk hI (by omega : m2 % n < 16) rfl (by simp [uCO, uTO]) (fun z8 g5 b5 => sb_con (u := [59]) b5 hk hI (by omega) rfl (asc_of rfl) (by simp [uCO, uTO]) (fun z9 g6 b6 => fin e hk (g1.tr (g2.tr (g3.tr (g4.tr (g5.tr g6))))) b6 (by simp [uCO, uTO]))))))))
  · refine gx_swN (c := 3) (Nat.le_of_ble_eq_true rfl) (by omega) (t_open h3 hA hI (by omega) rfl (fun z4 k e hk g1 b1 => sb_con (u := uHO) b1 hk hI (by omega) rfl (asc_of rfl) (by simp [uHO]) (fun z5 g2 b2 => fin e hk (g1.tr g2) b2 (by simp [uHO]))))
  · exact gx_swD (c := 4) (Nat.le_of_ble_eq_true rfl) (by omega) (t_to h3 hA hI (by omega) (by omega : m2 % n < 16) rfl rfl (fun z5 s lo h5 f5 hlo hs => gx_ret (kk z5 s lo _ h5 (fr.tr f5) hlo hs)))
  · exact gx_swD (c := 5) (Nat.le_of_ble_eq_true rfl) (by omega) (t_to h3 hA hI (by omega) (by omega : m2 % n < 16) rfl rfl (fun z5 s lo h5 f5 hlo hs => gx_ret (kk z5 s lo _ h5 (fr.tr f5) hlo hs)))
end
