/-! the reference's settling: bits gathered; laysDislodged (by program) -/
def stBit (kk : Nat) (b : Bool) (i : Nat) (M : Nat → Nat → Int32) : Nat → Nat → Int32 := cset M kk (fun _ => if b = true then M kk 0 ||| sg i else M kk 0)
section
variable {β ρ : Type} {b : (β → osM ρ) → β → osM ρ} {G : osG} {z : osS} {m : Nat} {M : Nat → Nat → Int32} {D : Nat → Nat → Int64} {Q : ρ → osS → Prop}
/-- a loop that looks for something -/
theorem gx_any (P : Nat → Bool) (n : Nat) (pk : Nat → β) (hs : ∀ (ih : β → osM ρ) (i : Nat), i < n → (P i = false → gx (ih (pk (i + 1)) G z) Q) → (P i = true → exn P n = true) → gx (b ih (pk i) G z) Q) (he : ∀ (ih : β → osM ρ), exn P n = false → gx (b ih (pk n) G z) Q) (N : Nat) (hN : n < N) : gx (osloop b N (pk 0) G z) Q := by
  refine gx_loop n (fun i p z' => p = pk i ∧ z' = z ∧ ∀ j, j < i → P j = false) ?_ ?_ N 0 _ z (Nat.zero_le _) (by omega) ⟨rfl, rfl, fun j hj => by omega⟩
  · rintro ih i p z' hi ⟨rfl, rfl, j1⟩ k
    refine hs ih i hi (fun hp => k _ _ ⟨rfl, rfl, fun j hj => ?_⟩) (fun hp => exn_iff.mpr ⟨i, hi, hp⟩)
    by_cases e : j = i
    · subst e; exact hp
    · exact j1 j (by omega)
  · rintro ih p z' ⟨rfl, rfl, j1⟩
    exact he ih (exn_no.mpr j1)
end
/-- the moves of an outcome: its number read by areas -/
def oX (S : Nat → Nat → Int32) (o : Int32) (a : Nat) : Bool := decide (a < 16) && (mv S a && bt o (ix S a))
theorem oX_in {S : Nat → Nat → Int32} {o : Int32} {a : Nat} (ha : a < 16) : oX S o a = (mv S a && bt o (ix S a)) := by unfold oX; rw [decide_eq_true ha, Bool.true_and]
theorem goals_bt {C S M : Nat → Nat → Int32} {n b : Nat} (hc : cpS C S M n) (ht : mvT C S M) (hb : b < 32) : bt (osit (stGo M) 0 (fb_ct (mv S) 16) 0) b = exn (fun a => oX S (M 28 0) a && decide (gof S a = b)) 16 := by
  have e := bt_gath (P := fun i => bt (M 28 0) i) (f := fun i => osshl (1 : Int32) (M 22 i)) (g0 := 0) (i := b) (n := fb_ct (mv S) 16)
  rw [b_0, Bool.false_or] at e
  refine Eq.trans e ?_
  rw [exn_ix]
  refine exn_cong (fun a ha => ?_)
  rw [oX_in ha]
  cases hm : mv S a
  · rfl
  · have hg := (mv_g hc.o ha hm).2
    rw [(ht.1.2.2 a ha hm).2.1, Bool.true_and, Bool.true_and]
    show (bt (M 28 0) (ix S a) && bt (sg (gof S a)) b) = _
    rw [b_sg (by omega) hb]
    by_cases q : b = gof S a
    · rw [decide_eq_true q, decide_eq_true q.symm]
    · rw [decide_eq_false q, decide_eq_false (fun x => q x.symm)]
theorem scs_eq {C S M : Nat → Nat → Int32} {n a : Nat} (hc : cpS C S M n) (ht : mvT C S M) (ha : a < 16) : scs M (M 24 a) = oX S (M 28 0) a := by
  rw [oX_in ha]
  unfold scs
  rw [ht.1.2.1 a ha]
  have hix : ix S a < 2 ^ 31 := by have := ix_le (S := S) (show a ≤ 16 by omega); have := hc.m12; omega
  cases hm : mv S a
  · rfl
  · rw [if_pos rfl, show tn (nI (ix S a)) = ix S a from nI_clamp hix, decide_eq_false (nI_m1 hix)]; rfl
theorem scs_h {C S M : Nat → Nat → Int32} {n a : Nat} (hc : cpS C S M n) (ht : mvT C S M) (ha : a < 16) : ¬ M 24 a = -1 → M 24 a = nI (tn (M 24 a)) ∧ tn (M 24 a) < 12 := by
  rw [ht.1.2.1 a ha]
  intro c
  cases hm : mv S a
  · rw [hm] at c; exact absurd rfl c
  · have := ix_lt ha hm
    have := hc.m12
    rw [if_pos rfl, show tn (nI (ix S a)) = ix S a from nI_clamp (by omega)]
    exact ⟨rfl, by omega⟩
def rDi (M : Nat → Nat → Int32) (g : Int32) (a : Nat) : Bool := !decide (M 3 (21 + a) = -1) && (bt g a && !scs M (M 24 a))
