/-! the law's own steps (27): what holds while a map of the law's is read -/
def BR (k m : Nat) (B : Nat → Nat → Int32) : Prop := ∀ i j, i < j → j < 16 → (bt (B 7 i) j || bt (B 8 i) j) = true → i < k ∨ (i = k ∧ j < m)
/-- names, no homes, kinds -/
def MN (n np : Nat) (B : Nat → Nat → Int32) : Prop := (∀ k, k < n → B 5 k = nI (k + 1)) ∧ (∀ p, p < np → B 9 p = nI (p + 16)) ∧ (∀ a, a < 16 → B 6 a = -1) ∧ (∀ a, a < n → a < 6 → suit B a 1 = true) ∧ ∀ a, a < n → 3 ≤ a → suit B a 0 = true
section
variable {B S : Nat → Nat → Int32} {n np k m a c : Nat}
theorem MN_area {u : Nat} {kd : Int32} {o : Bool} (h : MN n np B) (hm : bdI B n np) (h16 : n < 16) (hu : u = n + 1) (hk : (n < 3 ∧ kd = 2) ∨ (3 ≤ n ∧ n < 6 ∧ kd = 1) ∨ (6 ≤ n ∧ ¬ kd = 2)) : MN (n + 1) np (areaAdded B n (nI u) kd o) := by
  subst hu
  obtain ⟨h5, h9, h6, s1, s0⟩ := h
  have no : ∀ j, j < 32 → n ≤ j → bt (B 2 0) j = false ∧ bt (B 3 0) j = false := fun j hj hn => by
    have := (hm.f.1 j hj).1
    constructor
    · cases q : bt (B 2 0) j
      · rfl
      · have := this (Or.inl q); omega
    · cases q : bt (B 3 0) j
      · rfl
      · have := this (Or.inr (Or.inl q)); omega
  refine ⟨fun k hk2 => ?_, fun p hp => by rw [aA_r (by omega)]; exact h9 p hp, fun a ha => by rw [aA_r (by omega)]; exact h6 a ha, fun a ha h6' => ?_, fun a ha h3' => ?_⟩
  · rw [aA_5]
    by_cases e : k = n
    · subst e; rw [upd_eq]
    · rw [upd_ne e]; exact h5 k (by omega)
  · obtain ⟨b1, b2, _⟩ := aA_b (B := B) (v := nI (n + 1)) (kd := kd) (o := o) h16 (show a < 32 by omega)
    show (bt (areaAdded B n (nI (n + 1)) kd o 3 0) a || bt (areaAdded B n (nI (n + 1)) kd o 2 0) a) = true
    rw [b1, b2]
    by_cases e : a = n
    · subst e
      rcases hk with ⟨_, rfl⟩ | ⟨_, _, rfl⟩ | ⟨q, _⟩
      · simp
      · simp
      · omega
    · have := s1 a (by omega) h6'
      have : (bt (B 3 0) a || bt (B 2 0) a) = true := this
      rw [Bool.or_eq_true] at this
      rcases this with q | q <;> rw [q] <;> simp
  · obtain ⟨b1, b2, _⟩ := aA_b (B := B) (v := nI (n + 1)) (kd := kd) (o := o) h16 (show a < 32 by omega)
    show (!bt (areaAdded B n (nI (n + 1)) kd o 3 0) a) = true
    rw [b2]
    by_cases e : a = n
    · subst e
      rw [(no a (by omega) (Nat.le_refl _)).2]
      rcases hk with ⟨q, _⟩ | ⟨_, _, rfl⟩ | ⟨_, q⟩
      · omega
      · rfl
      · rw [decide_eq_false q]; rfl
    · have : (!bt (B 3 0) a) = true := s0 a (by omega) h3'
      rw [decide_eq_false e, Bool.and_false, Bool.or_false]; exact this
theorem MN_border {ar fl : Bool} (h : MN n np B) : MN n np (bordered B a c ar fl) := by
  obtain ⟨h5, h9, h6, s1, s0⟩ := h
  have e : ∀ r, ¬ r = 7 → ¬ r = 8 → bordered B a c ar fl r = B r := fun r h1 h2 => bo_r h1 h2
  refine ⟨by rw [e 5 (by omega) (by omega)]; exact h5, by rw [e 9 (by omega) (by omega)]; exact h9, by rw [e 6 (by omega) (by omega)]; exact h6, fun a ha h6' => ?_, fun a ha h3' => ?_⟩
  · have := s1 a ha h6'
    unfold suit at this ⊢
    rw [e 3 (by omega) (by omega), e 2 (by omega) (by omega)]; exact this
  · have := s0 a ha h3'
    unfold suit at this ⊢
    rw [e 3 (by omega) (by omega), e 2 (by omega) (by omega)]; exact this
theorem BR_border {ar fl : Bool} (h : BR k m B) (hk : k < 16) (hm : m < 16) (hkm : k < m) : BR k (m + 1) (bordered B k m ar fl) := fun i j hij hj q => by
  have hb := bo_7 (B := B) (i := k) (j := m) (c := i) (ar := ar) (fl := fl) (by omega)
  rw [hb.1, hb.2, Bool.or_eq_true] at q
  have fin : (bt (B 7 i) j || bt (B 8 i) j) = true ∨ bt (jx k m i) j = true → i < k ∨ (i = k ∧ j < m + 1) := fun r => by
    rcases r with r | r
    · rcases h i j hij hj r with q | q
      · exact Or.inl q
      · exact Or.inr ⟨q.1, by omega⟩
    · rcases jx_b hk hm (show j < 32 by omega) r with ⟨q1, q2⟩ | ⟨q1, q2⟩
      · exact Or.inr ⟨q1, by omega⟩
      · omega
  apply fin
  rcases q with q | q
  · by_cases c1 : ar = true
    · rw [if_pos c1, b_or, Bool.or_eq_true] at q
      rcases q with q | q
      · exact Or.inl (by rw [q]; rfl)
      · exact Or.inr q
    · rw [if_neg c1] at q
      exact Or.inl (by rw [q]; rfl)
  · by_cases c1 : fl = true
    · rw [if_pos c1, b_or, Bool.or_eq_true] at q
      rcases q with q | q
      · exact Or.inl (by rw [q, Bool.or_true])
      · exact Or.inr q
    · rw [if_neg c1] at q
      exact Or.inl (by rw [q, Bool.or_true])
theorem BR_up {k' m' : Nat} (h : BR k m B) (hu : k < k' ∨ (k = k' ∧ m ≤ m')) : BR k' m' B := fun i j hij hj q => by
  rcases h i j hij hj q with r | r <;> omega
end
