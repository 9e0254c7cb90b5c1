/-! the law's own steps (21): the map's reader, at tokens that are known -/
def CXm (G : osG) (N x L : Nat) (b : Nat → Nat) (W : Nat → Nat → Nat → Int32) : Prop := osInj G ∧ G.2.2.1 ≤ x ∧ 5000 < N ∧ L ≤ 1000 ∧ txB b W
section
variable {α : Type} {G : osG} {z : osS} {N x n np L i : Nat} {ad : Nat → Nat} {W : Nat → Nat → Nat → Int32} {D : osS} {E : Nat → Nat → Int64} {b : Nat → Nat} {B S C : Nat → Nat → Int32} {Q : α → osS → Prop}
theorem y_take1 {f1 : Int32 → osM α} {j : Nat} (cx : CXm G N x L b W) (h : MW z x ad (Ws (Ws W 2 B) 4 S) D C E) (tc : tkC b L i C E) (hi : i ≤ L) (hj : j < 15) (hk : kwb b L i j = true) (ks : ∀ z1 C' E', MW z1 x ad (Ws (Ws W 2 B) 4 S) D C' E' → tkC b L (tX b L i) C' E' → gx (f1 1 G z1) Q) : gx (osbind (osstat j) (fun x5 => osbind (osrecv [3] (x + 4) (qX6_take N (x + 4) x5)) f1) G z) Q := by
  obtain ⟨hI, hA, hN, hL, hb⟩ := cx
  refine gx_callE (b := G.2.2.2.1 j) (z1 := z) rfl (gx_recvQ h.2.o (by decide) (c_take1_X3 h hb tc hL hi hA hN hI hj hk) ?_)
  rintro r z2 ⟨rfl, C2, E2, h2, tc2, k2⟩
  exact ks z2 C2 E2 h2 tc2
theorem y_take0 {f1 : Int32 → osM α} {j : Nat} (cx : CXm G N x L b W) (h : MW z x ad (Ws (Ws W 2 B) 4 S) D C E) (tc : tkC b L i C E) (hi : i ≤ L) (hj : j < 15) (hk : kwb b L i j = false) (ks : gx (f1 0 G z) Q) : gx (osbind (osstat j) (fun x5 => osbind (osrecv [3] (x + 4) (qX6_take N (x + 4) x5)) f1) G z) Q :=
  gx_callE (b := G.2.2.2.1 j) (z1 := z) rfl (gx_recvE h.2.o (by decide) (c_take0_X3 h tc hi cx.1 hj hk) ks)
theorem y_name {f1 : Int32 → osM α} {v : Nat} (cx : CXm G N x L b W) (h : MW z x ad (Ws (Ws W 2 B) 4 S) D C E) (tc : tkC b L i C E) (hi : i ≤ L) (hv : tM b L i = some v) (ks : ∀ z1 C' E', MW z1 x ad (Ws (Ws W 2 B) 4 S) D C' E' → tkC b L (tX b L i) C' E' → gx (f1 (nI v) G z1) Q) : gx (osbind (osrecv [3] (x + 4) (qX6_takeName N (x + 4))) f1 G z) Q := by
  obtain ⟨hI, hA, hN, hL, hb⟩ := cx
  refine gx_recvQ h.2.o (by decide) (c_name_X3 h hb tc hL hi hA hN hI) ?_
  rintro r z1 ⟨C1, E1, h1, e7, ⟨q, rfl, e8, e9⟩ | ⟨v', q, rfl, t1, e8, e9⟩⟩
  · rw [hv] at q; cases q
  · rw [hv] at q; cases q
    exact ks z1 C1 E1 h1 t1
theorem y_area {f1 : Int32 → osM α} {v k : Nat} (cx : CXm G N x L b W) (h : MW z x ad (Ws (Ws W 2 B) 4 S) D C E) (tc : tkC b L i C E) (hi : i ≤ L) (b0 : B 0 0 = nI n) (h16 : n ≤ 16) (hv : tM b L i = some v) (hk : fd (fun k => decide (B 5 k = nI v)) 0 n = some k) (ks : ∀ z1 C' E', MW z1 x ad (Ws (Ws W 2 B) 4 S) D C' E' → tkC b L (tX b L i) C' E' → gx (f1 (nI k) G z1) Q) : gx (osbind (osrecv [3] (x + 4) (qX6_takeArea N (x + 4) (ad 1))) f1 G z) Q := by
  obtain ⟨hI, hA, hN, hL, hb⟩ := cx
  refine gx_recvQ h.2.o (by decide) (c_area_X3 h hb tc hL hi hA hN hI (n := n) (B := B) (fun z1 C1 E1 h1 => h1.b2) b0 h16) ?_
  rintro r z1 ⟨C1, E1, h1, e7, ⟨q, rfl, e8, e9⟩ | ⟨v', q, v1, v2, ⟨ef, rfl, e8, e9⟩ | ⟨k', ef, hk', rfl, t1, e8, e9⟩⟩⟩
  · rw [hv] at q; cases q
  · rw [hv] at q; cases q
    rw [hk] at ef; cases ef
  · rw [hv] at q; cases q
    rw [hk] at ef; cases ef
    exact ks z1 C1 E1 h1 t1
end
