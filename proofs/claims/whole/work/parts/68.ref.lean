/-! the reference: small reads (by program) -/
section
variable {G : osG} {z : osS} {N : Nat}
theorem ra1 (x : Int32) : x &&& 1 = if bt x 0 = true then 1 else 0 := b_ext (fun i _ => by
  rw [b_and, b_one]
  by_cases e : i = 0
  · subst e; cases h : bt x 0 <;> simp [b_0, b_one]
  · cases h : bt x 0 <;> simp [e, b_0, b_one])
theorem shr1 {s : Int32} {i : Nat} (hi : i < 32) : ((osshr s (nI i)) &&& (1 : Int32) = 1) ↔ bt s i = true := by
  have h := hsv_nI (s := s) hi
  unfold hsv at h
  rw [show decide (nI i < 0) = false from decide_eq_false (nI_pos (by omega)), ra1] at h
  rw [ra1]
  cases e : bt (osshr s (nI i)) 0 <;> rw [e] at h <;> cases e2 : bt s i <;> rw [e2] at h <;> simp at h ⊢
theorem q_X10_has {s x : Int32} {i : Nat} (hi : i < 32) (e : x = nI i) : qX10_has N s x G z = some (b2i (bt s i), z) := by
  subst e
  refine gx_eq ?_
  unfold qX10_has qX10_has_14
  refine gx_ite (fun c => gx_retZ (Or.inr rfl) ⟨by rw [(shr1 hi).mp c]; rfl, rfl⟩) (fun c => gx_retZ (Or.inl rfl) ⟨?_, rfl⟩)
  have : bt s i = false := by cases h : bt s i; rfl; exact absurd ((shr1 hi).mpr h) c
  rw [this]; rfl
theorem q_X10_in {v a c : Int32} : qX10_in N v a c G z = some (b2i (!decide (v < a) && !decide (c < v)), z) := by
  refine gx_eq ?_
  unfold qX10_in qX10_in_14 qX10_in_15
  refine gx_ite (fun c1 => gx_retZ (Or.inl rfl) ⟨by simp [c1, b2i], rfl⟩) (fun c1 => gx_ite (fun c2 => gx_retZ (Or.inl rfl) ⟨by simp [c2, b2i], rfl⟩) (fun c2 => gx_retZ (Or.inr rfl) ⟨by simp [c1, c2, b2i], rfl⟩))
theorem q_X10_isUnit {w a : Nat} {x : Int32} {f : Nat → Int32} (h : z.1 w = some (.inl (0, (261, .inl f)))) (ha : a < 16) (e : x = nI a) : qX10_isUnit N w x G z = some (b2i (!decide (f (21 + a) = -1)), z) := by
  subst e
  refine gx_eq ?_
  unfold qX10_isUnit qX10_isUnit_15
  refine gx_aE h (nI_sum (a := 21) rfl rfl) (by omega) (Nat.le_of_ble_eq_true rfl) (gx_ite (fun c1 => gx_retZ (Or.inl rfl) ⟨by simp [c1, b2i], rfl⟩) (fun c1 => gx_retZ (Or.inr rfl) ⟨by simp [c1, b2i], rfl⟩))
end
def psg (M : Nat → Nat → Int32) (a : Nat) (kd : Int32) : Int32 := if kd = 0 then M 1 (66 + a) else M 1 (82 + a)
theorem q_X10_isCoast {G : osG} {z : osS} {N : Nat} {a : Nat} {m : Nat} {M : Nat → Nat → Int32} {D : Nat → Nat → Int64} (hm : rX10 z m M D) (ha : a < 16) : qX10_isCoast N m (nI a) G z = some (b2i (decide (M 1 (2 + a) = 1)), z) := by
  refine gx_eq ?_
  unfold qX10_isCoast
  (repeat (first | unfold qX10_isCoast_17))
  exact gx_gR hm.o (by decide) rfl (gx_aE hm.a1 ((nI_sum (a := 2) (b := a) (rfl) (rfl))) (by omega) (Nat.le_of_ble_eq_true rfl) (gx_ite (fun (c_1 : (M 1 (2 + a)) = (1 : Int32)) => gx_retZ (Or.inr rfl) ⟨(by first | with_reducible rfl | (simp [c_1, b2i]; done) | (clear hm; simp_all [b2i]; done)), rfl⟩) (fun (c_1 : ¬ ((M 1 (2 + a)) = (1 : Int32))) => gx_retZ (Or.inl rfl) ⟨(by first | with_reducible rfl | (simp [c_1, b2i]; done) | (clear hm; simp_all [b2i]; done)), rfl⟩)))
theorem q_X10_isCoastE {G : osG} {z : osS} {N : Nat} {a : Nat} {m : Nat} {M : Nat → Nat → Int32} {D : Nat → Nat → Int64} {x1 : Int32} (hm : rX10 z m M D) (ha : a < 16) (e1 : x1 = nI a) : qX10_isCoast N m x1 G z = some (b2i (decide (M 1 (2 + a) = 1)), z) := by
  subst e1
  exact q_X10_isCoast hm ha
theorem q_X10_passing {G : osG} {z : osS} {N : Nat} {a : Nat} {kd : Int32} {m : Nat} {M : Nat → Nat → Int32} {D : Nat → Nat → Int64} (hm : rX10 z m M D) (ha : a < 16) : qX10_passing N m (nI a) kd G z = some (psg M a kd, z) := by
  refine gx_eq ?_
  unfold qX10_passing
  (repeat (first | unfold qX10_passing_15))
  exact gx_gR hm.o (by decide) rfl (gx_ite (fun (c_1 : kd = (0 : Int32)) => gx_aE hm.a1 ((nI_sum (a := 66) (b := a) (rfl) (rfl))) (by omega) (Nat.le_of_ble_eq_true rfl) (gx_ret ⟨(by first | with_reducible rfl | (simp [c_1, b2i, psg]; done) | (clear hm; simp_all [b2i, psg]; done)), rfl⟩)) (fun (c_1 : ¬ (kd = (0 : Int32))) => gx_aE hm.a1 ((nI_sum (a := 82) (b := a) (rfl) (rfl))) (by omega) (Nat.le_of_ble_eq_true rfl) (gx_ret ⟨(by first | with_reducible rfl | (simp [c_1, b2i, psg]; done) | (clear hm; simp_all [b2i, psg]; done)), rfl⟩)))
theorem q_X10_passingE {G : osG} {z : osS} {N : Nat} {a : Nat} {kd : Int32} {m : Nat} {M : Nat → Nat → Int32} {D : Nat → Nat → Int64} {x1 : Int32} (hm : rX10 z m M D) (ha : a < 16) (e1 : x1 = nI a) : qX10_passing N m x1 kd G z = some (psg M a kd, z) := by
  subst e1
  exact q_X10_passing hm ha
theorem q_X10_canGo {G : osG} {z : osS} {N : Nat} {a : Nat} {b : Nat} {kd : Int32} {m : Nat} {M : Nat → Nat → Int32} {D : Nat → Nat → Int64} (hm : rX10 z m M D) (ha : a < 16) (hb : b < 16) : qX10_canGo N m (nI a) (nI b) kd G z = some (b2i (bt (psg M a kd) b), z) := by
  refine gx_eq ?_
  unfold qX10_canGo
  exact gx_recvE hm.o (by decide) (q_X10_passingE hm (by omega) (rfl)) (gx_callE (q_X10_has (by omega) rfl) (gx_retZ (b2i_01 _) ⟨(by first | with_reducible rfl | (simp [b2i]; done) | (clear hm; simp_all [b2i]; done)), rfl⟩))
theorem q_X10_canGoE {G : osG} {z : osS} {N : Nat} {a : Nat} {b : Nat} {kd : Int32} {m : Nat} {M : Nat → Nat → Int32} {D : Nat → Nat → Int64} {x1 : Int32} {x2 : Int32} (hm : rX10 z m M D) (ha : a < 16) (hb : b < 16) (e1 : x1 = nI a) (e2 : x2 = nI b) : qX10_canGo N m x1 x2 kd G z = some (b2i (bt (psg M a kd) b), z) := by
  subst e1; subst e2
  exact q_X10_canGo hm ha hb
theorem q_X10_isDirect {G : osG} {z : osS} {N : Nat} {a : Nat} {b : Nat} {m : Nat} {M : Nat → Nat → Int32} {D : Nat → Nat → Int64} (hm : rX10 z m M D) (ha : a < 16) (hb : b < 16) : qX10_isDirect N m (nI a) (nI b) G z = some (b2i (bt (psg M a (M 3 (37 + a))) b), z) := by
  refine gx_eq ?_
  unfold qX10_isDirect
  exact gx_gR hm.o (by decide) rfl (gx_aE hm.a3 ((nI_sum (a := 37) (b := a) (rfl) (rfl))) (by omega) (Nat.le_of_ble_eq_true rfl) (gx_recvE hm.o (by decide) (q_X10_canGoE hm (by omega) (by omega) (rfl) (rfl)) (gx_retZ (b2i_01 _) ⟨(by first | with_reducible rfl | (simp [b2i]; done) | (clear hm; simp_all [b2i]; done)), rfl⟩)))
theorem q_X10_isDirectE {G : osG} {z : osS} {N : Nat} {a : Nat} {b : Nat} {m : Nat} {M : Nat → Nat → Int32} {D : Nat → Nat → Int64} {x1 : Int32} {x2 : Int32} (hm : rX10 z m M D) (ha : a < 16) (hb : b < 16) (e1 : x1 = nI a) (e2 : x2 = nI b) : qX10_isDirect N m x1 x2 G z = some (b2i (bt (psg M a (M 3 (37 + a))) b), z) := by
  subst e1; subst e2
  exact q_X10_isDirect hm ha hb
