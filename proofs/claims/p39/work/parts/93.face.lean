/-! the face: what is required; the calls that read (by program) -/
def aB (n : Nat) (v : Int32) : Bool := !decide (v < 0) && decide (v < nI n)
theorem aB_t {n : Nat} {v : Int32} (hn : n < 2 ^ 31) (h : aB n v = true) : ∃ a, a < n ∧ v = nI a := by
  unfold aB at h
  rw [Bool.and_eq_true] at h
  have h1 : ¬ v < 0 := by simpa using h.1
  obtain ⟨j, hj, rfl⟩ := nI_of h1
  exact ⟨j, (nI_ltI hj hn).mp (of_decide_eq_true h.2), rfl⟩
theorem aB_nI {n a : Nat} (hn : n < 2 ^ 31) (ha : a < n) : aB n (nI a) = true := by
  unfold aB
  rw [decide_eq_false (nI_pos (by omega)), decide_eq_true ((nI_ltI (by omega) hn).mpr ha)]; rfl
theorem nlt_le {v : Int32} {n : Nat} (h1 : ¬ v < 0) (hn : n < 2 ^ 31) : (nI n - (1 : Int32) < v) ↔ ¬ v < nI n := by
  obtain ⟨j, hj, rfl⟩ := nI_of h1
  rcases Nat.eq_zero_or_pos n with q | q
  · subst q
    refine ⟨fun _ => nI_pos hj, fun _ => ?_⟩
    have e : nI 0 - (1 : Int32) = -1 := by decide
    rw [e, Int32.lt_iff_toInt_lt, nI_toInt hj]
    have : (-1 : Int32).toInt = -1 := by decide
    omega
  · rw [show nI n - (1 : Int32) = nI (n - 1) from nI_sub (a := n) (b := 1) q, nI_ltI (by omega) hj, nI_ltI hj hn]
    omega
theorem rA_eq {v : Int32} {n : Nat} (hn : n < 2 ^ 31) : (!decide (v < 0) && !decide (nI n - (1 : Int32) < v)) = aB n v := by
  unfold aB
  by_cases h1 : v < 0
  · rw [decide_eq_true h1]; rfl
  · rw [decide_eq_false h1, dec_iff (nlt_le h1 hn)]
    by_cases h2 : v < nI n
    · rw [decide_eq_true h2, decide_eq_false (fun q => q h2)]; rfl
    · rw [decide_eq_false h2, decide_eq_true h2]; rfl
theorem in_aB {v : Int32} {k : Nat} (hk : 0 < k) (hn : k < 2 ^ 31) : (!decide (v < 0) && !decide (nI (k - 1) < v)) = aB k v := by
  rw [← rA_eq hn, show nI k - (1 : Int32) = nI (k - 1) from nI_sub (a := k) (b := 1) hk]
theorem isAr_eq {C : Nat → Nat → Int32} {v : Int32} {n : Nat} (h0 : C 0 0 = nI n) (h16 : n ≤ 16) : isAr C v = aB n v := by
  unfold isAr aB
  rw [h0]
  by_cases h1 : v < 0
  · rw [decide_eq_true h1]; rfl
  · rw [decide_eq_false h1]
    obtain ⟨j, hj, rfl⟩ := nI_of h1
    by_cases h2 : nI j < nI n
    · have := (nI_ltI hj (by omega)).mp h2
      rw [decide_eq_true h2, decide_eq_false (nI_ge this (by omega)), decide_eq_false (ge16 (by omega))]; rfl
    · have : n ≤ j := Nat.not_lt.mp (fun q => h2 ((nI_ltI hj (by omega)).mpr q))
      rw [decide_eq_false h2, decide_eq_true ((nI_leI (by omega) hj).mpr this)]; rfl
section
variable {G : osG} {z : osS} {N x n np T : Nat} {ad : Nat → Nat} {W : Nat → Nat → Nat → Int32} {D : osS} {ρ : Type} {Q : Nat ⊕ ρ → osS → Prop} {v : Int32}
theorem gx_reqA {f : Unit → osM (Nat ⊕ ρ)} (hw : WD z x ad W D) (h0 : W 1 0 0 = nI n) (h16 : n ≤ 16) (k1 : aB n v = false → Q (.inl 2) (thz z)) (k2 : aB n v = true → gx (f () G z) Q) : gx (osbindT (osrecv [7] x (qX9_requireArea N x v)) f G z) Q := by
  refine gx_bindT (gx_recv hw.x9.o (by decide) ?_)
  unfold qX9_requireArea
  refine gx_gR hw.x9.o (by decide) rfl (gx_recvE hw.bd.o (by decide) (q_isArea hw.bd) ?_)
  rw [isAr_eq h0 h16]
  exact gx_iteB (fun c => gx_throw (k1 c)) (fun c => gx_Rt (gx_ret (k2 c)))
theorem gx_reqP {f : Unit → osM (Nat ⊕ ρ)} (hw : WD z x ad W D) (h0 : W 1 1 0 = nI np) (k1 : aB np v = false → Q (.inl 2) (thz z)) (k2 : aB np v = true → gx (f () G z) Q) : gx (osbindT (osrecv [7] x (qX9_requirePower N x v)) f G z) Q := by
  refine gx_bindT (gx_recv hw.x9.o (by decide) ?_)
  unfold qX9_requirePower qX9_requirePower_15
  refine gx_ite (fun c => gx_throw (k1 ?_)) (fun c => gx_gR hw.x9.o (by decide) rfl (gx_gI hw.bd.o (by decide) rfl ?_))
  · unfold aB; rw [decide_eq_true c]; rfl
  · rw [h0]
    refine gx_ite (fun c2 => gx_Rt (gx_ret (k2 ?_))) (fun c2 => gx_throw (k1 ?_))
    · unfold aB; rw [decide_eq_false c, decide_eq_true c2]; rfl
    · unfold aB; rw [decide_eq_false c, decide_eq_false c2]; rfl
theorem gx_reqR {f : Unit → osM (Nat ⊕ ρ)} (hw : WD z x ad W D) {k : Int32} {q : Nat} (e : k = nI q) (k1 : aB q v = false → Q (.inl 1) (thz z)) (k2 : aB q v = true → gx (f () G z) Q) : gx (osbindT (osrecv [7] x (qX9_requireReport N x v k)) f G z) Q := by
  subst e
  refine gx_bindT (gx_recv hw.x9.o (by decide) ?_)
  unfold qX9_requireReport qX9_requireReport_9
  refine gx_ite (fun c => gx_throw (k1 ?_)) (fun c => gx_ite (fun c2 => gx_Rt (gx_ret (k2 ?_))) (fun c2 => gx_throw (k1 ?_)))
  · unfold aB; rw [decide_eq_true c]; rfl
  · unfold aB; rw [decide_eq_false c, decide_eq_true c2]; rfl
  · unfold aB; rw [decide_eq_false c, decide_eq_false c2]; rfl
theorem gx_reqPh {f : Unit → osM (Nat ⊕ ρ)} (hw : WD z x ad W D) (k1 : ¬ W 3 0 0 = v → Q (.inl 0) (thz z)) (k2 : W 3 0 0 = v → gx (f () G z) Q) : gx (osbindT (osrecv [7] x (qX9_requirePhase N x v)) f G z) Q := by
  refine gx_bindT (gx_recv hw.x9.o (by decide) ?_)
  unfold qX9_requirePhase
  exact gx_gR hw.x9.o (by decide) rfl (gx_gI hw.nw.o (by decide) rfl (gx_ite (fun c => gx_Rt (gx_ret (k2 c))) (fun c => gx_throw (k1 c))))
theorem gx_reqS {f : Unit → osM (Nat ⊕ ρ)} (hw : WD z x ad W D) (k1 : W 3 2 0 = 0 → Q (.inl 0) (thz z)) (k2 : ¬ W 3 2 0 = 0 → gx (f () G z) Q) : gx (osbindT (osrecv [7] x (qX9_requireSettled N x)) f G z) Q := by
  refine gx_bindT (gx_recv hw.x9.o (by decide) ?_)
  unfold qX9_requireSettled
  exact gx_gR hw.x9.o (by decide) rfl (gx_gI hw.nw.o (by decide) rfl (gx_ite (fun c => gx_throw (k1 c)) (fun c => gx_Rt (gx_ret (k2 c)))))
def uB (n : Nat) (S : Nat → Nat → Int32) (v : Int32) : Bool := aB n v && uu S (tn v)
theorem uB_t {S : Nat → Nat → Int32} (hn : n < 2 ^ 31) (h : uB n S v = true) : ∃ a, a < n ∧ v = nI a ∧ uu S a = true := by
  unfold uB at h
  rw [Bool.and_eq_true] at h
  obtain ⟨a, ha, rfl⟩ := aB_t hn h.1
  refine ⟨a, ha, rfl, ?_⟩
  have := h.2
  rw [show tn (nI a) = a from nI_clamp (by omega)] at this
  exact this
theorem gx_reqU {f : Unit → osM (Nat ⊕ ρ)} (hw : WD z x ad W D) (h0 : W 1 0 0 = nI n) (h16 : n ≤ 16) (k1 : uB n (W 3) v = false → Q (.inl 2) (thz z)) (k2 : uB n (W 3) v = true → gx (f () G z) Q) : gx (osbindT (osrecv [7] x (qX9_requireUnit N x v)) f G z) Q := by
  refine gx_bindT (gx_recv hw.x9.o (by decide) ?_)
  unfold qX9_requireUnit qX9_requireUnit_22
  refine gx_gR hw.x9.o (by decide) rfl (gx_recvE hw.bd.o (by decide) (q_isArea hw.bd) ?_)
  rw [isAr_eq h0 h16]
  refine gx_iteB (fun c => gx_throw (k1 (by unfold uB; rw [c]; rfl))) (fun c => gx_gR hw.x9.o (by decide) rfl ?_)
  obtain ⟨a, ha, rfl⟩ := aB_t (by omega) c
  have et : tn (nI a) = a := nI_clamp (by omega)
  refine gx_recvE hw.nw.o (by decide) (q_hasUnitN hw.nw (by omega)) (gx_iteB (fun c2 => gx_throw (k1 ?_)) (fun c2 => gx_Rt (gx_ret (k2 ?_))))
  · unfold uB; rw [c, et]; exact c2
  · unfold uB; rw [c, et]; exact c2
end
section
variable {G : osG} {z : osS} {N m n np : Nat} {M : Nat → Nat → Int32} {D : Nat → Nat → Int64} {v : Int32} {Q : Int32 → osS → Prop}
theorem gx_swN {α : Type} {Fs : List (osM α)} {Fd : osM α} {Q : α → osS → Prop} {c : Nat} (hc : c < Fs.length) (h31 : c < 2 ^ 31) (k : gx ((Fs.getD c osno) G z) Q) : gx (osswitch (nI c) 0 Fs Fd G z) Q := by
  unfold osswitch
  have e := nI_toInt h31
  show gx (if (0 : Int) ≤ (nI c).toInt ∧ (nI c).toInt < 0 + (Fs.length : Int) then _ else Fd G z) Q
  rw [if_pos (by rw [e]; omega), e, show ((c : Int) - 0).toNat = c by omega]
  exact k
theorem gx_swD {α : Type} {Fs : List (osM α)} {Fd : osM α} {Q : α → osS → Prop} {c : Nat} (hc : Fs.length ≤ c) (h31 : c < 2 ^ 31) (k : gx (Fd G z) Q) : gx (osswitch (nI c) 0 Fs Fd G z) Q := by
  unfold osswitch
  have e := nI_toInt h31
  show gx (if (0 : Int) ≤ (nI c).toInt ∧ (nI c).toInt < 0 + (Fs.length : Int) then _ else Fd G z) Q
  rw [if_neg (by rw [e]; omega)]
  exact k
end
section
variable {G : osG} {z : osS} {N x n np T : Nat} {ad : Nat → Nat} {W : Nat → Nat → Nat → Int32} {D : osS} {L : List (Nat × Int32)} {F : osM (Nat ⊕ Int32)} {R : osM Int32}
theorem k0_ok {M : Nat → Nat → Int32} {t : Int32} : ∀ k, k = 1 ∨ k = 3 ∨ k = 5 ∨ k = 8 ∨ k = 9 ∨ k = 10 ∨ k = 16 ∨ k = 17 ∨ k = 41 ∨ k = 42 → (cset M 0 fun _ => t) k = M k := fun k hk => cset_ne (by omega)
end
