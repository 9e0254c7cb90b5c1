/-! the face: what cannot throw; leader, outputByte, feed (by program) -/
def callT (G : osG) (z : osS) (x T : Nat) (L : List (Nat × Int32)) (F : osM (Nat ⊕ Int32)) (R : osM Int32) : Prop := ∃ H : (Nat ⊕ Int32) → (Nat → Nat) → (Nat → Nat → Nat → Int32) → (Nat → Nat → Int64) → Prop, gx (F G z) (fun r z1 => ∃ ad W D, WD z1 x ad W D ∧ H r ad W D) ∧ ∀ r z1 ad W D, WD z1 x ad W D → H r ad W D → gx (R G z1) (RF x T L r z1)
theorem call_of {G : osG} {z : osS} {x T : Nat} {ad : Nat → Nat} {W : Nat → Nat → Nat → Int32} {D : Nat → Nat → Int64} {L : List (Nat × Int32)} {F : osM (Nat ⊕ Int32)} {R : osM Int32} (hw : WD z x ad W D) (h : pairT G z x T W D L F R) : callT G z x T L F R := by
  obtain ⟨r, h1, h2⟩ := h
  refine ⟨fun r1 _ W1 D1 => r1 = r ∧ W1 = W ∧ D1 = D, gx_of h1 ⟨ad, W, D, hw, rfl, rfl, rfl⟩, ?_⟩
  rintro r1 z1 ad1 W1 D1 hw1 ⟨rfl, rfl, rfl⟩
  exact h2 z1 ad1 hw1
/-- a call that cannot throw -/
def pairP (G : osG) (z : osS) (x T : Nat) (F R : osM Int32) : Prop := ∃ v, F G z = some (v, z) ∧ gx (R G z) (fun b z2 => v = b ∧ ∃ ad W D, WD z2 x ad W D ∧ IV W D T)
section
variable {G : osG} {z : osS} {N x n np T : Nat} {ad : Nat → Nat} {W : Nat → Nat → Nat → Int32} {D : Nat → Nat → Int64} {Q : Int32 → osS → Prop}
theorem case_P {F R cont : osM Int32} (hw : WD z x ad W D) (h : pairP G z x T F R) (hk : ∀ z2 ad W D, WD z2 x ad W D → IV W D T → gx (cont G z2) Q) : gx (osbind (osrecv [7] x F) (fun a => osbind (osrecv [8] (x + 129) R) fun b => osite (a = b) cont (osret (0 : Int32))) G z) Q := by
  obtain ⟨v, h1, b, z2, h2, e, ad2, W2, D2, hw2, hi2⟩ := h
  exact gx_recvE hw.x9.o (by decide) h1 (gx_recvE hw.m.o (by decide) h2 (gx_itet e (hk z2 ad2 W2 D2 hw2 hi2)))
theorem pairP_of {F R : osM Int32} {v : Int32} (hw : WD z x ad W D) (hi : IVn W D n np T) (h1 : gx (F G z) (fun a z' => a = v ∧ z' = z)) (h2 : gx (R G z) (fun b z2 => b = v ∧ osFr (x + 129) (x + 129 + 21) z z2 ∧ rX10 z2 (x + 129) (cset (W 20) 0 fun _ => (0 : Int32)) D)) : pairP G z x T F R :=
  ⟨v, gx_eq h1, gx_mono h2 (fun b z2 ⟨e, fr, hm⟩ => ⟨e.symm, ad, _, D, hw.ref fr hm, n, np, IV_ref hi k0_ok⟩)⟩
theorem gx_told {v w : Int32} (hw : WD z x ad W D) (hA : G.2.2.1 ≤ x) (e : w = v) : gx ((osbind (osrecv [8] (x + 129) (qX10_told N (x + 129) w)) fun x3 => osret x3) G z) (fun b z2 => b = v ∧ osFr (x + 129) (x + 129 + 21) z z2 ∧ rX10 z2 (x + 129) (cset (W 20) 0 fun _ => (0 : Int32)) D) := by
  subst e
  exact gx_recvQ hw.m.o (by decide) (q_X10_told hw.m (by omega)) (fun v z2 h => gx_ret h)
theorem p_areas (hw : WD z x ad W D) (hi : IVn W D n np T) (hA : G.2.2.1 ≤ x) : pairP G z x T (qX9_areas N x) (qX10_areas N (x + 129)) := by
  unfold qX9_areas qX10_areas
  exact pairP_of (v := W 1 0 0) hw hi (gx_gR hw.x9.o (by decide) rfl (gx_gI hw.bd.o (by decide) rfl (gx_ret ⟨rfl, rfl⟩))) (gx_gR hw.m.o (by decide) rfl (gx_aE (i := 0) hw.m.a1 rfl (by omega) (Nat.le_of_ble_eq_true rfl) (gx_told hw hA (by rw [hi.m.c0]; exact hi.m.m0))))
theorem p_powers (hw : WD z x ad W D) (hi : IVn W D n np T) (hA : G.2.2.1 ≤ x) : pairP G z x T (qX9_powers N x) (qX10_powers N (x + 129)) := by
  unfold qX9_powers qX10_powers
  exact pairP_of (v := W 1 1 0) hw hi (gx_gR hw.x9.o (by decide) rfl (gx_gI hw.bd.o (by decide) rfl (gx_ret ⟨rfl, rfl⟩))) (gx_gR hw.m.o (by decide) rfl (gx_aE (i := 1) hw.m.a1 rfl (by omega) (Nat.le_of_ble_eq_true rfl) (gx_told hw hA (by rw [hi.m.c1]; exact hi.m.m1))))
theorem p_phase (hw : WD z x ad W D) (hi : IVn W D n np T) (hA : G.2.2.1 ≤ x) : pairP G z x T (qX9_phase N x) (qX10_phase N (x + 129)) := by
  unfold qX9_phase qX10_phase
  exact pairP_of (v := W 3 0 0) hw hi (gx_gR hw.x9.o (by decide) rfl (gx_gI hw.nw.o (by decide) rfl (gx_ret ⟨rfl, rfl⟩))) (gx_gR hw.m.o (by decide) rfl (gx_aE (i := 0) hw.m.a3 rfl (by omega) (Nat.le_of_ble_eq_true rfl) (gx_told hw hA hi.s.1.1)))
theorem p_turn (hw : WD z x ad W D) (hi : IVn W D n np T) (hA : G.2.2.1 ≤ x) : pairP G z x T (qX9_turn N x) (qX10_turn N (x + 129)) := by
  unfold qX9_turn qX10_turn
  exact pairP_of (v := W 3 1 0) hw hi (gx_gR hw.x9.o (by decide) rfl (gx_gI hw.nw.o (by decide) rfl (gx_ret ⟨rfl, rfl⟩))) (gx_gR hw.m.o (by decide) rfl (gx_aE (i := 1) hw.m.a3 rfl (by omega) (Nat.le_of_ble_eq_true rfl) (gx_told hw hA hi.s.1.2.1)))
theorem p_errorCode (hw : WD z x ad W D) (hi : IVn W D n np T) (hA : G.2.2.1 ≤ x) : pairP G z x T (qX9_errorCode N x) (qX10_errorCode N (x + 129)) := by
  unfold qX9_errorCode qX10_errorCode
  exact pairP_of (v := W 0 3 0) hw hi (gx_gI hw.x9.o (by decide) rfl (gx_ret ⟨rfl, rfl⟩)) (gx_gI hw.m.o (by decide) rfl (gx_told hw hA hi.e.1.symm))
theorem p_errorPosition (hw : WD z x ad W D) (hi : IVn W D n np T) (hA : G.2.2.1 ≤ x) : pairP G z x T (qX9_errorPosition N x) (qX10_errorPosition N (x + 129)) := by
  unfold qX9_errorPosition qX10_errorPosition
  exact pairP_of (v := W 0 4 0) hw hi (gx_gI hw.x9.o (by decide) rfl (gx_ret ⟨rfl, rfl⟩)) (gx_gI hw.m.o (by decide) rfl (gx_told hw hA hi.e.2.symm))
theorem p_undoCount (hw : WD z x ad W D) (hi : IVn W D n np T) (hA : G.2.2.1 ≤ x) : pairP G z x T (qX9_undoCount N x) (qX10_undoCount N (x + 129)) := by
  unfold qX9_undoCount qX10_undoCount
  exact pairP_of (v := W 0 9 0) hw hi (gx_gI hw.x9.o (by decide) rfl (gx_ret ⟨rfl, rfl⟩)) (gx_gI hw.m.o (by decide) rfl (gx_told hw hA (by obtain ⟨u, _, e1, e2, _⟩ := hi.p; rw [e1, e2])))
end
theorem sbn : ∀ a, a < 17 → ∀ b, b < 17 → ((0 < nI a - nI b) ↔ b < a) ∧ ((nI a - nI b = 0) ↔ a = b) ∧ ((nI a - nI b ≤ 0) ↔ a ≤ b) ∧ ((nI a ≤ nI b) ↔ a ≤ b) := by decide +kernel
def ahd (S : Nat → Nat → Int32) (i j : Nat) : Bool := decide (ct (S 5) (nI j) < ct (S 5) (nI i)) || (decide (ct (S 5) (nI i) = ct (S 5) (nI j)) && decide (ct (S 6) (nI j) < ct (S 6) (nI i)))
def bst (S : Nat → Nat → Int32) : Nat → Nat
  | 0 => 0
  | i + 1 => if ahd S (i + 1) (bst S i) then i + 1 else bst S i
theorem bst_le {S : Nat → Nat → Int32} : ∀ i, bst S i ≤ i
  | 0 => Nat.le_refl 0
  | i + 1 => by
    have := bst_le (S := S) i
    unfold bst
    split <;> omega
theorem bst_t {S : Nat → Nat → Int32} {i : Nat} (h : ahd S (i + 1) (bst S i) = true) : bst S (i + 1) = i + 1 := by
  rw [bst, if_pos h]
theorem bst_f {S : Nat → Nat → Int32} {i : Nat} (h : ahd S (i + 1) (bst S i) = false) : bst S (i + 1) = bst S i := by
  rw [bst, if_neg (by rw [h]; exact Bool.false_ne_true)]
