/-! State: carryOut whole (by program) -/
def cOut1 (U J L S : Nat → Nat → Int32) : Nat → Nat → Int32 := osit (fun a W => stCO U J L a W) 0 16 (osit (fun a W => stCD a W) 0 16 (osit (fun a W => stCU a W) 0 16 S))
def cOut2 (U J L S : Nat → Nat → Int32) : Nat → Nat → Int32 := osit (fun a W => stCN (jFail L J) a W) 0 16 (cset (cOut1 U J L S) 4 fun _ => (0 : Int32))
def cOut3 (J W : Nat → Nat → Int32) : Nat → Nat → Int32 := cset (cset W 2 fun _ => (1 : Int32)) 3 fun _ => J 7 0
def cOut4 (J L W : Nat → Nat → Int32) : Nat → Nat → Int32 := cset W 15 (fl (W 15) (fun i => exV L J (i / 6) (i % 6)) 96)
def cOut (U J L S : Nat → Nat → Int32) : Nat → Nat → Int32 := cOut4 J L (cOut3 J (cOut2 U J L S))
theorem q_X5_carryOut {G : osG} {z : osS} {N j s t : Nat} {L J S U : Nat → Nat → Int32} (h : rX5 z s S) (hu : rX5 z t U) (hj : rX1 z j J) (hl : rX2 z (j + 1) L) (hA : G.2.2.1 ≤ s) (hd : s + 12 ≤ j ∨ j + 12 ≤ s) (hd2 : s + 12 ≤ t ∨ t + 12 ≤ s) (hm2 : ∀ a, a < 16 → bt (J 5 0) a = true → U 13 a = nI (gof U a) ∧ gof U a < 16) (hz8 : ∀ a, a < 16 → hi0 (L 8 a)) (hz10 : ∀ a, a < 16 → hi0 (L 10 a)) (hN : 96 < N) : gx (qX5_carryOut N s t j G z) (fun _ z' => osFr s (s + 12) z z' ∧ rX5 z' s (cOut U J L S)) := by
  unfold qX5_carryOut
  refine gx_recvQ h.o (by decide) (q_X5_clearUnits h hA (by omega)) (fun _ z1 ⟨f1, h1⟩ => gx_recvQ h1.o (by decide) (q_X5_clearDislodged h1 hA (by omega)) (fun _ z2 ⟨f2, h2⟩ => ?_))
  have hu2 := (hu.keep f1 (by omega)).keep f2 (by omega)
  have hj2 := (hj.keep f1 (by omega)).keep f2 (by omega)
  have hl2 := (hl.keep f1 (by omega)).keep f2 (by omega)
  unfold qX5_carryOut_10
  refine gx_loop 16 (fun i p z' => p = (s, t, j, nI i) ∧ osFr s (s + 12) z2 z' ∧ rX5 z' s (osit (fun a W => stCO U J L a W) 0 i (osit (fun a W => stCD a W) 0 16 (osit (fun a W => stCU a W) 0 16 S)))) ?_ ?_ N 0 _ z2 (Nat.zero_le _) (by omega) ⟨rfl, osFr.rf, by rw [osit_zero]; exact h2⟩
  · rintro ih a p z' h9 ⟨rfl, f_0, h_0⟩ k
    show gx (bX5_carryOut_10 N ih s t j (nI a) G z') _
    exact q_bX5_carryOut_10 h_0 (hu2.keep f_0 (by omega)) (hj2.keep f_0 (by omega)) (hl2.keep f_0 (by omega)) hA hd hd2 (hm2 a h9) h9 (by omega) (fun z3 f_1 h_1 => k _ _ ⟨by rw [nI_1], f_0.tr f_1, by rw [osit_last, Nat.zero_add]; exact h_1⟩)
  · rintro ih p z' ⟨rfl, f_0, h_0⟩
    generalize hW : osit (fun a W => stCO U J L a W) 0 16 (osit (fun a W => stCD a W) 0 16 (osit (fun a W => stCU a W) 0 16 S)) = W1 at h_0
    have hW1 : W1 = cOut1 U J L S := by rw [← hW]; rfl
    rw [hW1] at h_0
    clear hW hW1
    have hj3 := hj2.keep f_0 (by omega)
    have hl3 := hl2.keep f_0 (by omega)
    show gx (bX5_carryOut_10 N ih s t j (nI 16) G z') _
    unfold bX5_carryOut_10
    refine gx_itet le16 (h_0.p4 (by decide) hA (fun z4 f4 h4 => gx_recvE (hj3.keep f4 (by omega)).o (by decide) (q_X1_findFailedGoals (hj3.keep f4 (by omega)) (hl3.keep f4 (by omega)) (by omega)) ?_))
    have hj4 := hj3.keep f4 (by omega)
    have hl4 := hl3.keep f4 (by omega)
    unfold qX5_carryOut_135
    refine gx_loop 16 (fun i p z' => p = (s, j, jFail L J, nI i) ∧ osFr s (s + 12) z4 z' ∧ rX5 z' s (osit (fun a W => stCN (jFail L J) a W) 0 i (cset (cOut1 U J L S) 4 fun _ => (0 : Int32)))) ?_ ?_ N 0 _ z4 (Nat.zero_le _) (by omega) ⟨rfl, osFr.rf, by rw [osit_zero]; exact h4⟩
    · rintro ih2 a p z5 h9 ⟨rfl, g_0, i_0⟩ k
      show gx (bX5_carryOut_135 N ih2 s j _ (nI a) G z5) _
      exact q_bX5_carryOut_135 i_0 hA h9 (fun z3 f_1 h_1 => k _ _ ⟨by rw [nI_1], g_0.tr f_1, by rw [osit_last, Nat.zero_add]; exact h_1⟩)
    · rintro ih2 p z5 ⟨rfl, g_0, i_0⟩
      have i_0 : rX5 z5 s (cOut2 U J L S) := i_0
      have hj5 := hj4.keep g_0 (by omega)
      have hl5 := hl4.keep g_0 (by omega)
      show gx (bX5_carryOut_135 N ih2 s j _ (nI 16) G z5) _
      unfold bX5_carryOut_135
      refine gx_itet le16 (gx_guard (Or.inr rfl) (i_0.p2 (by decide) hA (fun z6 f6 h6 => ?_)))
      have hj6 := hj5.keep f6 (by omega)
      have hl6 := hl5.keep f6 (by omega)
      refine gx_gI hj6.o (by decide) rfl (h6.p3 (by decide) hA (fun z7 f7 h7 => ?_))
      have h7 : rX5 z7 s (cOut3 J (cOut2 U J L S)) := h7
      have hj7 := hj6.keep f7 (by omega)
      have hl7 := hl6.keep f7 (by omega)
      refine gx_gR h7.o (by decide) rfl (gx_recvQ hj7.o (by decide) (q_X1_explainAll hj7 hl7 h7 hA hd hz8 hz10 hN) (fun _ z8 ⟨f8, h8⟩ => gx_ret ⟨(((((((f1.tr f2).tr f_0).tr f4).tr g_0).tr f6).tr f7).tr f8), (show rX5 z8 s (cOut4 J L (cOut3 J (cOut2 U J L S))) from h8)⟩))
