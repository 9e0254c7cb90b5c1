/-! the reference's settling: the coupling, what laysMoves lays (by program) -/
/-- a move's number -/
def ix (S : Nat → Nat → Int32) (a : Nat) : Nat := fb_ct (mv S) a
def cpS (C S M : Nat → Nat → Int32) (n : Nat) : Prop :=
  (M 1 0 = nI n ∧ n ≤ 16) ∧ (∀ a, a < 16 → M 3 (21 + a) = S 6 a ∧ M 3 (117 + a) = S 12 a ∧ M 3 (133 + a) = S 13 a ∧ M 1 (66 + a) = C 7 a ∧ M 1 (82 + a) = C 8 a) ∧ (∀ a, a < 16 → uu S a = true → a < n ∧ M 3 (37 + a) = S 7 a ∧ (S 7 a = 0 ∨ S 7 a = 1) ∧ (S 12 a = 3 ∨ S 12 a = 4 → M 3 (149 + a) = S 14 a) ∧ (S 12 a = 2 → uu S (gof S a) = true) ∧ (¬ S 12 a = 0 → gof S a < n)) ∧ okO S ∧ fb_ct (mv S) 16 ≤ 12
section
variable {C S M : Nat → Nat → Int32} {n : Nat}
theorem cpS_keep {M' : Nat → Nat → Int32} (h : cpS C S M n) (e1 : M' 1 = M 1) (e3 : M' 3 = M 3) : cpS C S M' n := by
  unfold cpS at h ⊢; rw [e1, e3]; exact h
theorem cpS.n0 (h : cpS C S M n) : M 1 0 = nI n := h.1.1
theorem cpS.n16 (h : cpS C S M n) : n ≤ 16 := h.1.2
theorem cpS.p (h : cpS C S M n) {a : Nat} (ha : a < 16) : M 3 (21 + a) = S 6 a := (h.2.1 a ha).1
theorem cpS.k (h : cpS C S M n) {a : Nat} (ha : a < 16) : M 3 (117 + a) = S 12 a := (h.2.1 a ha).2.1
theorem cpS.f (h : cpS C S M n) {a : Nat} (ha : a < 16) : M 3 (133 + a) = S 13 a := (h.2.1 a ha).2.2.1
theorem cpS.ar (h : cpS C S M n) {a : Nat} (ha : a < 16) : M 1 (66 + a) = C 7 a := (h.2.1 a ha).2.2.2.1
theorem cpS.fl (h : cpS C S M n) {a : Nat} (ha : a < 16) : M 1 (82 + a) = C 8 a := (h.2.1 a ha).2.2.2.2
theorem cpS.lt (h : cpS C S M n) {a : Nat} (ha : a < 16) (hu : uu S a = true) : a < n := (h.2.2.1 a ha hu).1
theorem cpS.kd (h : cpS C S M n) {a : Nat} (ha : a < 16) (hu : uu S a = true) : M 3 (37 + a) = S 7 a := (h.2.2.1 a ha hu).2.1
theorem cpS.k01 (h : cpS C S M n) {a : Nat} (ha : a < 16) (hu : uu S a = true) : S 7 a = 0 ∨ S 7 a = 1 := (h.2.2.1 a ha hu).2.2.1
theorem cpS.s (h : cpS C S M n) {a : Nat} (ha : a < 16) (hu : uu S a = true) (hk : S 12 a = 3 ∨ S 12 a = 4) : M 3 (149 + a) = S 14 a := (h.2.2.1 a ha hu).2.2.2.1 hk
theorem cpS.su (h : cpS C S M n) {a : Nat} (ha : a < 16) (hu : uu S a = true) (hk : S 12 a = 2) : uu S (gof S a) = true := (h.2.2.1 a ha hu).2.2.2.2.1 hk
theorem cpS.gn (h : cpS C S M n) {a : Nat} (ha : a < 16) (hu : uu S a = true) (hk : ¬ S 12 a = 0) : gof S a < n := (h.2.2.1 a ha hu).2.2.2.2.2 hk
theorem cpS.o (h : cpS C S M n) : okO S := h.2.2.2.1
theorem cpS.m12 (h : cpS C S M n) : fb_ct (mv S) 16 ≤ 12 := h.2.2.2.2
theorem cpS.un (h : cpS C S M n) {a : Nat} (ha : a < 16) : (!decide (M 3 (21 + a) = -1)) = uu S a := by rw [h.p ha]; rfl
theorem psg_bd (h : cpS C S M n) {a : Nat} (ha : a < 16) (hu : uu S a = true) : psg M a (M 3 (37 + a)) = bd C a (S 7 a) := by
  unfold psg bd
  rw [h.kd ha hu, h.ar ha, h.fl ha]
  rcases h.k01 ha hu with e | e <;> rw [e] <;> rfl
theorem dir_eq (h : cpS C S M n) {a b : Nat} (ha : a < 16) (hu : uu S a = true) : bt (psg M a (M 3 (37 + a))) b = cg C S a b := by
  rw [psg_bd h ha hu]
  unfold cg
  rcases h.k01 ha hu with e | e <;> rw [e] <;> rfl
theorem ix_le {a : Nat} (ha : a ≤ 16) : ix S a ≤ fb_ct (mv S) 16 := fb_ct_mono _ ha
theorem ix_lt {a : Nat} (ha : a < 16) (h : mv S a = true) : ix S a < fb_ct (mv S) 16 := by
  have := fb_ct_mono (mv S) (show a + 1 ≤ 16 by omega)
  rw [fb_ct_succ, if_pos h] at this
  show fb_ct (mv S) a < _
  omega
theorem ix_mono {a b : Nat} (hab : a < b) (h : mv S a = true) : ix S a < ix S b := by
  have := fb_ct_mono (mv S) (show a + 1 ≤ b by omega)
  rw [fb_ct_succ, if_pos h] at this
  show fb_ct (mv S) a < fb_ct (mv S) b
  omega
theorem ix_inj {a b : Nat} (ha : mv S a = true) (hb : mv S b = true) : ix S a = ix S b ↔ a = b := ⟨fun e => fb_ct_kth_one ha hb e, fun e => by rw [e]⟩
theorem ix_of {i : Nat} (h : i < fb_ct (mv S) 16) : ∃ a, a < 16 ∧ mv S a = true ∧ ix S a = i := fb_ct_kth h
theorem exn_ix {P : Nat → Bool} : exn P (fb_ct (mv S) 16) = exn (fun a => mv S a && P (ix S a)) 16 := by
  rw [Bool.eq_iff_iff, exn_iff, exn_iff]
  constructor
  · rintro ⟨i, h1, h2⟩
    obtain ⟨a, ha, hm, e⟩ := ix_of h1
    exact ⟨a, ha, by rw [hm, e, h2]; rfl⟩
  · rintro ⟨a, ha, h⟩
    rw [Bool.and_eq_true] at h
    exact ⟨ix S a, ix_lt ha h.1, h.2⟩
end
/-- the moves as the reference lays them -/
def mvI (C S M : Nat → Nat → Int32) (a : Nat) : Prop := M 26 0 = nI (ix S a) ∧ (∀ b, b < a → M 24 b = if mv S b = true then nI (ix S b) else -1) ∧ ∀ b, b < a → mv S b = true → M 21 (ix S b) = nI b ∧ M 22 (ix S b) = nI (gof S b) ∧ M 25 (ix S b) = b2i (!dm C S b)
def mvT (C S M : Nat → Nat → Int32) : Prop := mvI C S M 16 ∧ ∀ b, b < 16 → mv S b = true → M 23 (ix S b) = if opp C S b = true then nI (ix S (gof S b)) else -1
theorem mvI_keep {C S M M' : Nat → Nat → Int32} {a : Nat} (h : mvI C S M a) (e1 : M' 21 = M 21) (e2 : M' 22 = M 22) (e4 : M' 24 = M 24) (e5 : M' 25 = M 25) (e6 : M' 26 = M 26) : mvI C S M' a := by
  unfold mvI at h ⊢; rw [e1, e2, e4, e5, e6]; exact h
theorem mvT_keep {C S M M' : Nat → Nat → Int32} (h : mvT C S M) (e : ∀ k, 21 ≤ k → k < 27 → M' k = M k) : mvT C S M' := ⟨mvI_keep h.1 (e 21 (by omega) (by omega)) (e 22 (by omega) (by omega)) (e 24 (by omega) (by omega)) (e 25 (by omega) (by omega)) (e 26 (by omega) (by omega)), by rw [e 23 (by omega) (by omega)]; exact h.2⟩
def stLMa (M : Nat → Nat → Int32) (a q : Nat) (b : Bool) : Nat → Nat → Int32 := cset (cset (cset (cset (cset (cset M 24 (upd (M 24) a (-1))) 24 (upd (upd (M 24) a (-1)) a (M 26 0))) 21 (upd (M 21) q (nI a))) 22 (upd (M 22) q (M 3 (133 + a)))) 25 (upd (M 25) q (b2i (!b)))) 26 (fun _ => M 26 0 + (1 : Int32))
def stLMr (M : Nat → Nat → Int32) (a q g : Nat) : Nat → Nat → Int32 := if M 3 (21 + a) = -1 then cset M 24 (upd (M 24) a (-1)) else if M 3 (117 + a) = 1 then stLMa M a q (bt (psg M a (M 3 (37 + a))) g) else cset M 24 (upd (M 24) a (-1))
theorem vp_b0 : vp_nar .boolean (0 : Int32) = 0 := by decide +kernel
theorem vp_b1 : vp_nar .boolean (1 : Int32) = 1 := by decide +kernel
def rOpp (M : Nat → Nat → Int32) (i g w : Nat) : Int32 := if M 24 g = -1 then -1 else if M 22 w = M 21 i then (if M 25 i = 0 then (if M 25 w = 0 then M 24 g else -1) else -1) else -1
