/-! the law's own steps (1): the numbers that it draws; a text typed -/
theorem ushr9 (v : Int32) : ∃ m, m < 2 ^ 23 ∧ osushr v (9 : Int32) = nI m := by
  have e : (v.toUInt32 >>> ((9 : Int32).toUInt32 &&& Int32.toUInt32 31)).toNat = v.toUInt32.toNat >>> 9 := by
    rw [UInt32.toNat_shiftRight]; rfl
  refine ⟨v.toUInt32.toNat >>> 9, ?_, ?_⟩
  · rw [Nat.shiftRight_eq_div_pow]
    have := v.toUInt32.toNat_lt
    omega
  · unfold osushr
    apply Int32.toBitVec_inj.mp
    apply BitVec.eq_of_toNat_eq
    show (v.toUInt32 >>> ((9 : Int32).toUInt32 &&& Int32.toUInt32 31)).toNat = (BitVec.ofNat 32 (v.toUInt32.toNat >>> 9)).toNat
    rw [e, BitVec.toNat_ofNat]
    have := v.toUInt32.toNat_lt
    rw [Nat.shiftRight_eq_div_pow]
    omega
/-- all but the class' cells and the number drawn is as it was; the size is known -/
def fL (x : Nat) (z z' : osS) : Prop := (∀ a k, z.2 = some k → a < k → (a < x ∨ x + 130 ≤ a) → z'.1 a = z.1 a) ∧ ∃ k k', z.2 = some k ∧ z'.2 = some k' ∧ k ≤ k'
theorem fL.tr {x : Nat} {z z1 z2 : osS} (h : fL x z z1) (h2 : fL x z1 z2) : fL x z z2 := by
  obtain ⟨h1, k, k1, e1, e2, l1⟩ := h
  obtain ⟨h3, k3, k4, e3, e4, l3⟩ := h2
  rw [e2] at e3
  cases e3
  refine ⟨fun a q hq ha ho => ?_, k, k4, e1, e4, by omega⟩
  rw [e1] at hq
  cases hq
  exact (h3 a k1 e2 (by omega) ho).trans (h1 a k e1 ha ho)
theorem fL.of {x k : Nat} {z z1 : osS} (e : z.2 = some k) (h : osFr x (x + 129) z z1) : fL x z z1 := ⟨fun a _ _ _ ho => h.1 a (by omega), k, k, e, h.2.trans e, Nat.le_refl _⟩
theorem fL.gr {x k : Nat} {z z1 : osS} (e : z.2 = some k) (h : gr k z z1) : fL x z z1 := by
  obtain ⟨h1, k1, k2, e1, e2, l1, l2⟩ := h
  rw [e] at e1
  cases e1
  exact ⟨fun a q hq ha _ => by rw [e] at hq; cases hq; exact h1 a ha, k, k2, e, e2, l2⟩
/-- the number drawn lies behind the class' cells -/
def rgR (x : Nat) (z : osS) : Prop := (∃ g : Nat → Int32, z.1 (x + 129) = some (.inl (0, (1, .inl g)))) ∧ ∃ k, z.2 = some k ∧ x + 130 ≤ k
section
variable {α : Type} {G : osG} {z : osS} {N x : Nat} {Q : α → osS → Prop}
theorem q_next (h : rgR x z) (hA : G.2.2.1 ≤ x) : gx (qL_next N (x + 129) G z) (fun u z' => ∃ m, m < 2 ^ 23 ∧ u = nI m ∧ rgR x z' ∧ (∀ b, ¬ b = x + 129 → z'.1 b = z.1 b) ∧ z'.2 = z.2) := by
  obtain ⟨⟨g, hg⟩, k, hk, hk2⟩ := h
  unfold qL_next
  refine gx_aN (i := 0) hg (by omega) (by omega) (gx_sN (i := 0) hg (by omega) (by omega) (by omega) (gx_aN (i := 0) osup_eq (by omega) (by omega) (gx_aN (i := 0) osup_eq (by omega) (by omega) (gx_sN (i := 0) osup_eq (by omega) (by omega) (by omega) (gx_aN (i := 0) osup_eq (by omega) (by omega) (gx_ret ?_))))))
  obtain ⟨m, hm, e⟩ := ushr9 (upd (upd g 0 (g 0 * 1103515245 + 12345)) 0 (upd g 0 (g 0 * 1103515245 + 12345) 0 ^^^ osushr (upd g 0 (g 0 * 1103515245 + 12345) 0) 15) 0)
  exact ⟨m, hm, e, ⟨⟨_, osup_eq⟩, k, hk, hk2⟩, fun b hb => (osup_ne hb rfl).trans (osup_ne hb rfl), rfl⟩
theorem nI_rem {a b : Nat} (ha : a < 2 ^ 31) (hb : b < 2 ^ 31) (h0 : 0 < b) : nI a - nI a / nI b * nI b = nI (a % b) := by
  rw [nI_div ha hb, show nI (a / b) * nI b = nI (a / b * b) from nI_prod rfl rfl, nI_sub (Nat.div_mul_le_self a b)]
  congr 1
  have := Nat.div_add_mod a b
  rw [Nat.mul_comm] at this
  omega
end
