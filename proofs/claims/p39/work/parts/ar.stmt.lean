/-! the law's own steps (25): the keyword of a statement -/
theorem y_kw {b : Nat → Nat} {L p : Nat} {w r : List Nat} (hw : lets w) (h0 : 0 < w.length) (h7 : w.length ≤ 7) (hb : bAt b p (w ++ 32 :: r)) (hl : p + w.length < L) : (∀ j, kwb b L p j = decide (pkl w = kwN j)) ∧ tX b L p = p + w.length := by
  obtain ⟨h1, h2, h3⟩ := tk0 hb hw rfl h0 hl
  exact ⟨fun j => kwb_is (by omega) (h3 h7), h2⟩
section
variable {G : osG} {z : osS} {N x n np L i : Nat} {ad : Nat → Nat} {W : Nat → Nat → Nat → Int32} {D : osS} {E : Nat → Nat → Int64} {b : Nat → Nat} {B S C : Nat → Nat → Int32} {Q : Int32 → osS → Prop} {u : Nat}
/-- the keywords one after the other: the j-th is taken -/
theorem y_stmt (cx : CXm G N x L b W) (h : MW z x ad (Ws (Ws W 2 B) 4 S) D C E) (tc : tkC b L i C E) (hi : i ≤ L) (hk : ∀ j, kwb b L i j = decide (u = kwN j))
    (hj : u = kwN 0 ∨ u = kwN 1 ∨ u = kwN 2 ∨ u = kwN 4 ∨ u = kwN 7 ∨ u = kwN 5 ∨ u = kwN 6)
    (k0 : u = kwN 0 → ∀ z1 C1 E1 a0, MW z1 x ad (Ws (Ws W 2 B) 4 S) D C1 E1 → tkC b L (tX b L i) C1 E1 → gx (qX3_readArea N (x + 4) (ad 1) a0 (0 : Int32) G z1) (fun r z' => r = 1 ∧ Q 1 z'))
    (k1 : u = kwN 1 → ∀ z1 C1 E1 a0, MW z1 x ad (Ws (Ws W 2 B) 4 S) D C1 E1 → tkC b L (tX b L i) C1 E1 → gx (qX3_readArea N (x + 4) (ad 1) a0 (1 : Int32) G z1) (fun r z' => r = 1 ∧ Q 1 z'))
    (k2 : u = kwN 2 → ∀ z1 C1 E1 a0, MW z1 x ad (Ws (Ws W 2 B) 4 S) D C1 E1 → tkC b L (tX b L i) C1 E1 → gx (qX3_readArea N (x + 4) (ad 1) a0 (2 : Int32) G z1) (fun r z' => r = 1 ∧ Q 1 z'))
    (k4 : u = kwN 4 → ∀ z1 C1 E1, MW z1 x ad (Ws (Ws W 2 B) 4 S) D C1 E1 → tkC b L (tX b L i) C1 E1 → gx (qX3_readBorder N (x + 4) (ad 1) G z1) (fun r z' => r = 1 ∧ Q 1 z'))
    (k7 : u = kwN 7 → ∀ z1 C1 E1 a0, MW z1 x ad (Ws (Ws W 2 B) 4 S) D C1 E1 → tkC b L (tX b L i) C1 E1 → gx (qX3_readPower N (x + 4) (ad 1) (ad 3) a0 G z1) (fun r z' => r = 1 ∧ Q 1 z'))
    (k5 : u = kwN 5 → ∀ z1 C1 E1 a0, MW z1 x ad (Ws (Ws W 2 B) 4 S) D C1 E1 → tkC b L (tX b L i) C1 E1 → gx (qX3_readUnit N (x + 4) (ad 1) (ad 3) a0 (0 : Int32) G z1) (fun r z' => r = 1 ∧ Q 1 z'))
    (k6 : u = kwN 6 → ∀ z1 C1 E1 a0, MW z1 x ad (Ws (Ws W 2 B) 4 S) D C1 E1 → tkC b L (tX b L i) C1 E1 → gx (qX3_readUnit N (x + 4) (ad 1) (ad 3) a0 (1 : Int32) G z1) (fun r z' => r = 1 ∧ Q 1 z')) :
    gx (qX3_readStatement N (x + 4) (ad 1) (ad 3) G z) Q := by
  have ky : ∀ j, u = kwN j → kwb b L i j = true := fun j q => by rw [hk, decide_eq_true q]
  have kn : ∀ j, ¬ u = kwN j → kwb b L i j = false := fun j q => by rw [hk, decide_eq_false q]
  have fin : ∀ {m : osM Int32} {z1 C1 E1}, MW z1 x ad (Ws (Ws W 2 B) 4 S) D C1 E1 → gx (m G z1) (fun r z' => r = 1 ∧ Q 1 z') → gx (osbind (osrecv [3] (x + 4) m) (fun x16 => osretZ x16) G z1) Q := fun {m z1 C1 E1} h1 hm => gx_recvQ h1.2.o (by decide) hm (fun r z' ⟨e, q⟩ => gx_retZ (Or.inr e) (by rw [e]; exact q))
  unfold qX3_readStatement
  refine gx_gI h.2.o (by decide) rfl ?_
  by_cases c0 : u = kwN 0
  · exact y_take1 cx h tc hi (by omega) (ky 0 c0) (fun z1 C1 E1 h1 t1 => gx_itef (by decide) (fin h1 (k0 c0 z1 C1 E1 _ h1 t1)))
  refine y_take0 cx h tc hi (by omega) (kn 0 c0) (gx_itet rfl ?_)
  by_cases c1 : u = kwN 1
  · exact y_take1 cx h tc hi (by omega) (ky 1 c1) (fun z1 C1 E1 h1 t1 => gx_itef (by decide) (fin h1 (k1 c1 z1 C1 E1 _ h1 t1)))
  refine y_take0 cx h tc hi (by omega) (kn 1 c1) (gx_itet rfl ?_)
  by_cases c2 : u = kwN 2
  · exact y_take1 cx h tc hi (by omega) (ky 2 c2) (fun z1 C1 E1 h1 t1 => gx_itef (by decide) (fin h1 (k2 c2 z1 C1 E1 _ h1 t1)))
  refine y_take0 cx h tc hi (by omega) (kn 2 c2) (gx_itet rfl ?_)
  by_cases c4 : u = kwN 4
  · exact y_take1 cx h tc hi (by omega) (ky 4 c4) (fun z1 C1 E1 h1 t1 => gx_itef (by decide) (fin h1 (k4 c4 z1 C1 E1 h1 t1)))
  refine y_take0 cx h tc hi (by omega) (kn 4 c4) (gx_itet rfl ?_)
  by_cases c7 : u = kwN 7
  · exact y_take1 cx h tc hi (by omega) (ky 7 c7) (fun z1 C1 E1 h1 t1 => gx_itef (by decide) (fin h1 (k7 c7 z1 C1 E1 _ h1 t1)))
  refine y_take0 cx h tc hi (by omega) (kn 7 c7) (gx_itet rfl ?_)
  by_cases c5 : u = kwN 5
  · exact y_take1 cx h tc hi (by omega) (ky 5 c5) (fun z1 C1 E1 h1 t1 => gx_itef (by decide) (fin h1 (k5 c5 z1 C1 E1 _ h1 t1)))
  refine y_take0 cx h tc hi (by omega) (kn 5 c5) (gx_itet rfl ?_)
  by_cases c6 : u = kwN 6
  · exact y_take1 cx h tc hi (by omega) (ky 6 c6) (fun z1 C1 E1 h1 t1 => gx_itef (by decide) (fin h1 (k6 c6 z1 C1 E1 _ h1 t1)))
  rcases hj with q | q | q | q | q | q | q
  · exact absurd q c0
  · exact absurd q c1
  · exact absurd q c2
  · exact absurd q c4
  · exact absurd q c7
  · exact absurd q c5
  · exact absurd q c6
end
