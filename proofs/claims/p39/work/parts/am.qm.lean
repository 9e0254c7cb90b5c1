/-! the law's own steps (20): a map's drafts, one statement further -/
def QMx (B S : Nat → Nat → Int32) (n np : Nat) : Prop := ∃ g d f, QM B S g d f n np
section
variable {B S : Nat → Nat → Int32} {n np : Nat}
theorem QMx.bdI (h : QMx B S n np) : bdI B n np := by
  obtain ⟨g, d, f, hm, _, _⟩ := h
  exact ⟨fun _ => g, fun _ => d, hm⟩
theorem QMx.stI (h : QMx B S n np) : stI B S n np 1 := by
  obtain ⟨g, d, f, hm, _, hs⟩ := h
  exact MS_stI hm hs
theorem QMx.ph (h : QMx B S n np) : S 0 0 = 0 := by
  obtain ⟨g, d, f, hm, _, hs⟩ := h
  exact hs.2.1.1
theorem QMx_area {u : Nat} {kd : Int32} {o : Bool} (h : QMx B S n np) (h16 : n < 16) (u0 : 0 < u) (u1 : u < 2 ^ 25) (hk : kd = 0 ∨ kd = 1 ∨ kd = 2) (ho : kd = 2 → o = false) : QMx (areaAdded B n (nI u) kd o) S (n + 1) np := by
  obtain ⟨g, d, f, hm, hb, hs⟩ := h
  refine ⟨fun j => if j = 0 then nI (n + 1) else if j = 2 + n then kd else if j = 18 + n then b2i o else g j, fun j => if j = n then lN u else d j, f, cpM_area hm h16 u0 u1 hk ho ?_ ?_ ?_ (fun j h1 h2 h3 => ?_) ?_ (fun j h1 => ?_), fun a ha => ?_, MS_mono hs (fun a ha => by rw [aA_r (by omega)]) (Nat.le_succ n) (Nat.le_refl np)⟩
  · exact if_pos rfl
  · show (if 2 + n = 0 then _ else _) = _
    rw [if_neg (by omega), if_pos rfl]
  · show (if 18 + n = 0 then _ else _) = _
    rw [if_neg (by omega), if_neg (by omega), if_pos rfl]
  · show (if j = 0 then _ else _) = _
    rw [if_neg h1, if_neg h2, if_neg h3]
  · exact if_pos rfl
  · exact if_neg h1
  · show (if 50 + a = 0 then _ else _) = _
    rw [if_neg (by omega), if_neg (by omega), if_neg (by omega), aA_r (by omega), aA_r (by omega)]
    exact hb a ha
theorem QMx_power {u : Nat} (h : QMx B S n np) (h4 : np < 4) (u0 : 0 < u) (u1 : u < 2 ^ 25) : QMx (cset (cset B 9 (upd (B 9) np (nI u))) 1 fun _ => B 1 0 + (1 : Int32)) S n (np + 1) := by
  obtain ⟨g, d, f, hm, hb, hs⟩ := h
  refine ⟨fun j => if j = 1 then nI (np + 1) else g j, fun j => if j = 16 + np then lN u else d j, f, cpM_power hm h4 u0 u1 ?_ (fun j h1 => ?_) ?_ (fun j h1 => ?_), fun a ha => ?_, MS_mono hs (fun a ha => ?_) (Nat.le_refl n) (Nat.le_succ np)⟩
  · exact if_pos rfl
  · exact if_neg h1
  · exact if_pos rfl
  · exact if_neg h1
  · show (if 50 + a = 1 then _ else _) = _
    rw [if_neg (by omega), cset_ne (by omega), cset_ne (by omega), cset_ne (by omega), cset_ne (by omega)]
    exact hb a ha
  · rw [cset_ne (by omega), cset_ne (by omega)]
theorem QMx_border {i j : Nat} {ar fl : Bool} (h : QMx B S n np) (hi : i < n) (hj : j < n) (hij : ¬ i = j) (haf : ar = true ∨ fl = true) : QMx (bordered B i j ar fl) S n np := by
  obtain ⟨g, d, f, hm, hb, hs⟩ := h
  obtain ⟨h1, h2⟩ := cpM_border hm hb hi hj hij haf
  exact ⟨jns g i j ar fl, d, f, h1, h2, MS_mono hs (fun a ha => by rw [bo_r (by omega) (by omega)]) (Nat.le_refl n) (Nat.le_refl np)⟩
theorem QMx_unit {a : Nat} {v w : Int32} (h : QMx B S n np) (ha : a < n) (hp : pw np v) (hk : w = 0 ∨ w = 1) (hnu : nu S < 12) (hu0 : uu S a = false) : QMx B (placed S a v w) n np := by
  obtain ⟨g, d, f, hm, hb, hs⟩ := h
  exact ⟨g, d, _, hm, hb, MS_unit hs ha hm.n16 hm.p4 hp hk hnu hu0⟩
end
