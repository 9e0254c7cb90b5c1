/-! the reference: counts of a state, builds, turns (by program) -/
section
variable {G : osG} {z : osS} {N m w n : Nat} {M : Nat → Nat → Int32} {D : Nat → Nat → Int64} {f : Nat → Int32}
/-- a loop over the areas that counts -/
theorem gx_cnt {β : Type} {b : (β → osM Int32) → β → osM Int32} {Q : Int32 → osS → Prop} (P : Nat → Bool) (n : Nat) (pk : Int32 → Nat → β)
    (hs : ∀ (ih : β → osM Int32) (i : Nat) (g : Int32), i < n → (∀ g1, g1 = (if P i = true then g + 1 else g) → gx (ih (pk g1 (i + 1)) G z) Q) → gx (b ih (pk g i) G z) Q)
    (he : ∀ (ih : β → osM Int32), gx (b ih (pk (nI (fb_ct P n)) n) G z) Q) (N : Nat) (hN : n < N) : gx (osloop b N (pk (nI 0) 0) G z) Q := by
  refine gx_loop n (fun i p z' => p = pk (nI (fb_ct P i)) i ∧ z' = z) ?_ ?_ N 0 _ z (Nat.zero_le _) (by omega) ⟨rfl, rfl⟩
  · rintro ih i p z' hi ⟨rfl, rfl⟩ k
    refine hs ih i _ hi (fun g1 e => k _ _ ⟨?_, rfl⟩)
    rw [e, fb_ct_succ]
    cases P i
    · rfl
    · rw [if_pos rfl, if_pos rfl, nI_1]
  · rintro ih p z' ⟨rfl, rfl⟩
    exact he ih
def cnC (M : Nat → Nat → Int32) (f : Nat → Int32) (v : Int32) (a : Nat) : Bool := decide (M 1 (18 + a) = 1) && decide (f (5 + a) = v)
def cnU (f : Nat → Int32) (v : Int32) (a : Nat) : Bool := !decide (f (21 + a) = -1) && (decide (v = -1) || decide (f (21 + a) = v))
def cnH (M : Nat → Nat → Int32) (f : Nat → Int32) (v : Int32) (a : Nat) : Bool := decide (M 1 (34 + a) = v) && (decide (f (5 + a) = v) && decide (f (21 + a) = -1))
theorem ni_end (h16 : n ≤ 16) : nI n ≤ nI n := (nI_leI (by omega) (by omega)).mpr (Nat.le_refl _)
def rBl (M : Nat → Nat → Int32) (f : Nat → Int32) (n : Nat) (v : Int32) : Int32 := if fb_ct (cnU f v) n < fb_ct (cnC M f v) n then nI (min (fb_ct (cnC M f v) n - fb_ct (cnU f v) n) (min (fb_ct (cnH M f v) n) (12 - fb_ct (cnU f (-1)) n))) else nI (fb_ct (cnC M f v) n) - nI (fb_ct (cnU f v) n)
def cnR (M : Nat → Nat → Int32) (i : Nat) (v : Int32) (o : Bool) (a : Nat) : Bool := !decide (a = i) && (!decide (M 3 (21 + a) = -1) && (!decide (decide (M 3 (21 + a) = v) = o) && bt (psg M a (M 3 (37 + a))) i))
end
