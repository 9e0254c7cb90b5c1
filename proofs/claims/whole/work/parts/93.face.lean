/-! the face: what is required; the calls that read (by program) -/
def aB (n : Nat) (v : Int32) : Bool := !decide (v < 0) && decide (v < nI n)
theorem aB_t {n : Nat} {v : Int32} (hn : n < 2 ^ 31) (h : aB n v = true) : ∃ a, a < n ∧ v = nI a := by
  unfold aB at h
  rw [Bool.and_eq_true] at h
  have h1 : ¬ v < 0 := by simpa using h.1
  obtain ⟨j, hj, rfl⟩ := nI_of h1
  exact ⟨j, (nI_ltI hj hn).mp (of_decide_eq_true h.2), rfl⟩
theorem aB_nI {n a : Nat} (hn : n < 2 ^ 31) (ha : a < n) : aB n (nI a) = true := by
  unfold aB
  rw [decide_eq_false (nI_pos (by omega)), decide_eq_true ((nI_ltI (by omega) hn).mpr ha)]; rfl
theorem nlt_le {v : Int32} {n : Nat} (h1 : ¬ v < 0) (hn : n < 2 ^ 31) : (nI n - (1 : Int32) < v) ↔ ¬ v < nI n := by
  obtain ⟨j, hj, rfl⟩ := nI_of h1
  rcases Nat.eq_zero_or_pos n with q | q
  · subst q
    refine ⟨fun _ => nI_pos hj, fun _ => ?_⟩
    have e : nI 0 - (1 : Int32) = -1 := by decide
    rw [e, Int32.lt_iff_toInt_lt, nI_toInt hj]
    have : (-1 : Int32).toInt = -1 := by decide
    omega
  · rw [show nI n - (1 : Int32) = nI (n - 1) from nI_sub (a := n) (b := 1) q, nI_ltI (by omega) hj, nI_ltI hj hn]
    omega
theorem rA_eq {v : Int32} {n : Nat} (hn : n < 2 ^ 31) : (!decide (v < 0) && !decide (nI n - (1 : Int32) < v)) = aB n v := by
  unfold aB
  by_cases h1 : v < 0
  · rw [decide_eq_true h1]; rfl
  · rw [decide_eq_false h1, dec_iff (nlt_le h1 hn)]
    by_cases h2 : v < nI n
    · rw [decide_eq_true h2, decide_eq_false (fun q => q h2)]; rfl
    · rw [decide_eq_false h2, decide_eq_true h2]; rfl
theorem in_aB {v : Int32} {k : Nat} (hk : 0 < k) (hn : k < 2 ^ 31) : (!decide (v < 0) && !decide (nI (k - 1) < v)) = aB k v := by
  rw [← rA_eq hn, show nI k - (1 : Int32) = nI (k - 1) from nI_sub (a := k) (b := 1) hk]
theorem isAr_eq {C : Nat → Nat → Int32} {v : Int32} {n : Nat} (h0 : C 0 0 = nI n) (h16 : n ≤ 16) : isAr C v = aB n v := by
  unfold isAr aB
  rw [h0]
  by_cases h1 : v < 0
  · rw [decide_eq_true h1]; rfl
  · rw [decide_eq_false h1]
    obtain ⟨j, hj, rfl⟩ := nI_of h1
    by_cases h2 : nI j < nI n
    · have := (nI_ltI hj (by omega)).mp h2
      rw [decide_eq_true h2, decide_eq_false (nI_ge this (by omega)), decide_eq_false (ge16 (by omega))]; rfl
    · have : n ≤ j := Nat.not_lt.mp (fun q => h2 ((nI_ltI hj (by omega)).mpr q))
      rw [decide_eq_false h2, decide_eq_true ((nI_leI (by omega) hj).mpr this)]; rfl
section
variable {G : osG} {z : osS} {N x n np T : Nat} {ad : Nat → Nat} {W : Nat → Nat → Nat → Int32} {D : Nat → Nat → Int64} {ρ : Type} {Q : Nat ⊕ ρ → osS → Prop} {v : Int32}
theorem gx_reqA {f : Unit → osM (Nat ⊕ ρ)} (hw : WD z x ad W D) (h0 : W 1 0 0 = nI n) (h16 : n ≤ 16) (k1 : aB n v = false → Q (.inl 2) z) (k2 : aB n v = true → gx (f () G z) Q) : gx (osbindT (osrecv [7] x (qX9_requireArea N x v)) f G z) Q := by
  refine gx_bindT (gx_recv hw.x9.o (by decide) ?_)
  unfold qX9_requireArea
  refine gx_gR hw.x9.o (by decide) rfl (gx_recvE hw.bd.o (by decide) (q_isArea hw.bd) ?_)
  rw [isAr_eq h0 h16]
  exact gx_iteB (fun c => gx_throw hw.nz (k1 c)) (fun c => gx_Rt (gx_ret (k2 c)))
theorem gx_reqP {f : Unit → osM (Nat ⊕ ρ)} (hw : WD z x ad W D) (h0 : W 1 1 0 = nI np) (k1 : aB np v = false → Q (.inl 2) z) (k2 : aB np v = true → gx (f () G z) Q) : gx (osbindT (osrecv [7] x (qX9_requirePower N x v)) f G z) Q := by
  refine gx_bindT (gx_recv hw.x9.o (by decide) ?_)
  unfold qX9_requirePower qX9_requirePower_15
  refine gx_ite (fun c => gx_throw hw.nz (k1 ?_)) (fun c => gx_gR hw.x9.o (by decide) rfl (gx_gI hw.bd.o (by decide) rfl ?_))
  · unfold aB; rw [decide_eq_true c]; rfl
  · rw [h0]
    refine gx_ite (fun c2 => gx_Rt (gx_ret (k2 ?_))) (fun c2 => gx_throw hw.nz (k1 ?_))
    · unfold aB; rw [decide_eq_false c, decide_eq_true c2]; rfl
    · unfold aB; rw [decide_eq_false c, decide_eq_false c2]; rfl
theorem gx_reqR {f : Unit → osM (Nat ⊕ ρ)} (hw : WD z x ad W D) {k : Int32} {q : Nat} (e : k = nI q) (k1 : aB q v = false → Q (.inl 1) z) (k2 : aB q v = true → gx (f () G z) Q) : gx (osbindT (osrecv [7] x (qX9_requireReport N x v k)) f G z) Q := by
  subst e
  refine gx_bindT (gx_recv hw.x9.o (by decide) ?_)
  unfold qX9_requireReport qX9_requireReport_9
  refine gx_ite (fun c => gx_throw hw.nz (k1 ?_)) (fun c => gx_ite (fun c2 => gx_Rt (gx_ret (k2 ?_))) (fun c2 => gx_throw hw.nz (k1 ?_)))
  · unfold aB; rw [decide_eq_true c]; rfl
  · unfold aB; rw [decide_eq_false c, decide_eq_true c2]; rfl
  · unfold aB; rw [decide_eq_false c, decide_eq_false c2]; rfl
theorem gx_reqPh {f : Unit → osM (Nat ⊕ ρ)} (hw : WD z x ad W D) (k1 : ¬ W 3 0 0 = v → Q (.inl 0) z) (k2 : W 3 0 0 = v → gx (f () G z) Q) : gx (osbindT (osrecv [7] x (qX9_requirePhase N x v)) f G z) Q := by
  refine gx_bindT (gx_recv hw.x9.o (by decide) ?_)
  unfold qX9_requirePhase
  exact gx_gR hw.x9.o (by decide) rfl (gx_gI hw.nw.o (by decide) rfl (gx_ite (fun c => gx_Rt (gx_ret (k2 c))) (fun c => gx_throw hw.nz (k1 c))))
theorem gx_reqS {f : Unit → osM (Nat ⊕ ρ)} (hw : WD z x ad W D) (k1 : W 3 2 0 = 0 → Q (.inl 0) z) (k2 : ¬ W 3 2 0 = 0 → gx (f () G z) Q) : gx (osbindT (osrecv [7] x (qX9_requireSettled N x)) f G z) Q := by
  refine gx_bindT (gx_recv hw.x9.o (by decide) ?_)
  unfold qX9_requireSettled
  exact gx_gR hw.x9.o (by decide) rfl (gx_gI hw.nw.o (by decide) rfl (gx_ite (fun c => gx_throw hw.nz (k1 c)) (fun c => gx_Rt (gx_ret (k2 c)))))
def uB (n : Nat) (S : Nat → Nat → Int32) (v : Int32) : Bool := aB n v && uu S (tn v)
theorem uB_t {S : Nat → Nat → Int32} (hn : n < 2 ^ 31) (h : uB n S v = true) : ∃ a, a < n ∧ v = nI a ∧ uu S a = true := by
  unfold uB at h
  rw [Bool.and_eq_true] at h
  obtain ⟨a, ha, rfl⟩ := aB_t hn h.1
  refine ⟨a, ha, rfl, ?_⟩
  have := h.2
  rw [show tn (nI a) = a from nI_clamp (by omega)] at this
  exact this
theorem gx_reqU {f : Unit → osM (Nat ⊕ ρ)} (hw : WD z x ad W D) (h0 : W 1 0 0 = nI n) (h16 : n ≤ 16) (k1 : uB n (W 3) v = false → Q (.inl 2) z) (k2 : uB n (W 3) v = true → gx (f () G z) Q) : gx (osbindT (osrecv [7] x (qX9_requireUnit N x v)) f G z) Q := by
  refine gx_bindT (gx_recv hw.x9.o (by decide) ?_)
  unfold qX9_requireUnit qX9_requireUnit_22
  refine gx_gR hw.x9.o (by decide) rfl (gx_recvE hw.bd.o (by decide) (q_isArea hw.bd) ?_)
  rw [isAr_eq h0 h16]
  refine gx_iteB (fun c => gx_throw hw.nz (k1 (by unfold uB; rw [c]; rfl))) (fun c => gx_gR hw.x9.o (by decide) rfl ?_)
  obtain ⟨a, ha, rfl⟩ := aB_t (by omega) c
  have et : tn (nI a) = a := nI_clamp (by omega)
  refine gx_recvE hw.nw.o (by decide) (q_hasUnitN hw.nw (by omega)) (gx_iteB (fun c2 => gx_throw hw.nz (k1 ?_)) (fun c2 => gx_Rt (gx_ret (k2 ?_))))
  · unfold uB; rw [c, et]; exact c2
  · unfold uB; rw [c, et]; exact c2
end
section
variable {G : osG} {z : osS} {N m n np : Nat} {M : Nat → Nat → Int32} {D : Nat → Nat → Int64} {v : Int32} {Q : Int32 → osS → Prop}
theorem q_X10_isAreaB (hm : rX10 z m M D) (h0 : M 1 0 = nI n) (h16 : n ≤ 16) : qX10_isArea N m v G z = some (b2i (aB n v), z) := by
  rw [q_X10_isArea hm, h0, rA_eq (by omega)]
theorem q_X10_isPowerB (hm : rX10 z m M D) (h0 : M 1 1 = nI np) (h16 : np ≤ 4) : qX10_isPower N m v G z = some (b2i (aB np v), z) := by
  rw [q_X10_isPower hm, h0, rA_eq (by omega)]
theorem q_X10_inB {k : Nat} {t : Int32} (e : t = nI (k - 1)) (hk : 0 < k) (hn : k < 2 ^ 31) : qX10_in N v (0 : Int32) t G z = some (b2i (aB k v), z) := by
  rw [q_X10_in, e, in_aB hk hn]
theorem q_X10_hasUnitB {S : Nat → Nat → Int32} (hm : rX10 z m M D) (h0 : M 1 0 = nI n) (h16 : n ≤ 16) (hp : ∀ a, a < 16 → M 3 (21 + a) = S 6 a) : qX10_hasUnit N m v G z = some (b2i (uB n S v), z) := by
  refine gx_eq ?_
  unfold qX10_hasUnit qX10_hasUnit_23 qX10_hasUnit_24
  refine gx_recvE hm.o (by decide) (q_X10_isAreaB hm h0 h16) (gx_iteB (fun c => gx_retZ (Or.inl rfl) ⟨?_, rfl⟩) (fun c => ?_))
  · unfold uB; rw [c]; rfl
  · obtain ⟨a, ha, rfl⟩ := aB_t (by omega) c
    have et : tn (nI a) = a := nI_clamp (by omega)
    refine gx_gR hm.o (by decide) rfl (gx_callE (q_X10_isUnit hm.a3 (by omega) rfl) ?_)
    rw [hp a (by omega)]
    refine gx_iteB (fun c2 => gx_retZ (Or.inl rfl) ⟨?_, rfl⟩) (fun c2 => gx_retZ (Or.inr rfl) ⟨?_, rfl⟩)
    · unfold uB; rw [c, et, show uu S a = false from c2]; rfl
    · unfold uB; rw [c, et, show uu S a = true from c2]; rfl
theorem gx_refT {b e : osM Int32} (hm : rX10 z m M D) (hA : G.2.2.1 ≤ m) {c : Int32} (hc : ¬ c ≤ 0) (k : ∀ z2, osFr m (m + 21) z z2 → rX10 z2 m (cset M 0 fun _ => c) D → gx (e G z2) Q) : gx (osbind (osrecv [8] m (qX10_isRefused N m c)) (fun x1 => osite (x1 = 0) b e) G z) Q := by
  refine gx_recvQ hm.o (by decide) (q_X10_isRefused hm hA) (fun v z2 ⟨ev, f2, h2⟩ => ?_)
  rw [ev, decide_eq_false hc]
  exact gx_itef (by decide) (k z2 f2 h2)
theorem gx_refF {b e : osM Int32} (hm : rX10 z m M D) (hA : G.2.2.1 ≤ m) (k : ∀ z2, osFr m (m + 21) z z2 → rX10 z2 m (cset M 0 fun _ => (0 : Int32)) D → gx (b G z2) Q) : gx (osbind (osrecv [8] m (qX10_isRefused N m (0 : Int32))) (fun x1 => osite (x1 = 0) b e) G z) Q := by
  refine gx_recvQ hm.o (by decide) (q_X10_isRefused hm hA) (fun v z2 ⟨ev, f2, h2⟩ => ?_)
  rw [ev]
  exact gx_itet (by decide) (k z2 f2 h2)
theorem gx_swN {α : Type} {Fs : List (osM α)} {Fd : osM α} {Q : α → osS → Prop} {c : Nat} (hc : c < Fs.length) (h31 : c < 2 ^ 31) (k : gx ((Fs.getD c osno) G z) Q) : gx (osswitch (nI c) 0 Fs Fd G z) Q := by
  unfold osswitch
  have e := nI_toInt h31
  show gx (if (0 : Int) ≤ (nI c).toInt ∧ (nI c).toInt < 0 + (Fs.length : Int) then _ else Fd G z) Q
  rw [if_pos (by rw [e]; omega), e, show ((c : Int) - 0).toNat = c by omega]
  exact k
theorem gx_swD {α : Type} {Fs : List (osM α)} {Fd : osM α} {Q : α → osS → Prop} {c : Nat} (hc : Fs.length ≤ c) (h31 : c < 2 ^ 31) (k : gx (Fd G z) Q) : gx (osswitch (nI c) 0 Fs Fd G z) Q := by
  unfold osswitch
  have e := nI_toInt h31
  show gx (if (0 : Int) ≤ (nI c).toInt ∧ (nI c).toInt < 0 + (Fs.length : Int) then _ else Fd G z) Q
  rw [if_neg (by rw [e]; omega)]
  exact k
end
/-- the reference has gone on, and agrees -/
def RFm (x : Nat) (L : List (Nat × Int32)) (r : Nat ⊕ Int32) (M : Nat → Nat → Int32) (D : Nat → Nat → Int64) (z1 : osS) (b : Int32) (z2 : osS) : Prop := osFr (x + 129) (x + 129 + 21) z1 z2 ∧ ∃ M', rX10 z2 (x + 129) M' D ∧ (∀ k, k = 1 ∨ k = 3 ∨ k = 5 ∨ k = 8 ∨ k = 9 ∨ k = 10 ∨ k = 16 ∨ k = 17 ∨ k = 41 ∨ k = 42 → M' k = M k) ∧ agr L r (M' 0 0) b
theorem RF_of {G : osG} {z1 : osS} {x n np T : Nat} {ad : Nat → Nat} {W : Nat → Nat → Nat → Int32} {D : Nat → Nat → Int64} {L : List (Nat × Int32)} {r : Nat ⊕ Int32} {R : osM Int32} (hw : WD z1 x ad W D) (hi : IVn W D n np T) (h : gx (R G z1) (RFm x L r (W 20) D z1)) : gx (R G z1) (RF x T L r z1) :=
  gx_mono h (fun b z2 ⟨fr, M', hm, he, ha⟩ => ⟨fr, ad, _, D, hw.ref fr hm, ⟨n, np, IV_ref hi he⟩, by rw [Ws_eq]; exact ha⟩)
/-- a call that reads: what the class answers, and that the reference agrees -/
def pairT (G : osG) (z : osS) (x T : Nat) (W : Nat → Nat → Nat → Int32) (D : Nat → Nat → Int64) (L : List (Nat × Int32)) (F : osM (Nat ⊕ Int32)) (R : osM Int32) : Prop := ∃ r, F G z = some (r, z) ∧ ∀ z1 ad1, WD z1 x ad1 W D → gx (R G z1) (RF x T L r z1)
section
variable {G : osG} {z : osS} {N x n np T : Nat} {ad : Nat → Nat} {W : Nat → Nat → Nat → Int32} {D : Nat → Nat → Int64} {L : List (Nat × Int32)} {F : osM (Nat ⊕ Int32)} {R : osM Int32}
theorem pair_of (hi : IVn W D n np T) (r : Nat ⊕ Int32) (h1 : gx (F G z) (fun a z' => a = r ∧ z' = z)) (h2 : ∀ z1 ad1, WD z1 x ad1 W D → gx (R G z1) (RFm x L r (W 20) D z1)) : pairT G z x T W D L F R := ⟨r, gx_eq h1, fun z1 ad1 hw1 => RF_of hw1 hi (h2 z1 ad1 hw1)⟩
theorem k0_ok {M : Nat → Nat → Int32} {t : Int32} : ∀ k, k = 1 ∨ k = 3 ∨ k = 5 ∨ k = 8 ∨ k = 9 ∨ k = 10 ∨ k = 16 ∨ k = 17 ∨ k = 41 ∨ k = 42 → (cset M 0 fun _ => t) k = M k := fun k hk => cset_ne (by omega)
theorem IVn.m (h : IVn W D n np T) : cpM (W 1) (W 20) D n np := h.1
theorem IVn.s (h : IVn W D n np T) : cpT (W 3) (W 20 3) := h.2.1
theorem IVn.i (h : IVn W D n np T) : stI (W 1) (W 3) n np T := h.2.2.1
theorem IVn.in (h : IVn W D n np T) : cpIn (W 0) (W 20) := h.2.2.2.1
theorem IVn.e (h : IVn W D n np T) : W 0 3 0 = W 20 16 0 ∧ W 0 4 0 = W 20 17 0 := h.2.2.2.2.1
theorem IVn.p (h : IVn W D n np T) : cpP W n np T := h.2.2.2.2.2.1
theorem IVn.o (h : IVn W D n np T) : cpO (W 7) (W 20) := h.2.2.2.2.2.2
end
