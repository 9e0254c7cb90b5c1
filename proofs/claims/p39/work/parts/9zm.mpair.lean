theorem Ws_sw {W : Nat → Nat → Nat → Int32} {B B' S : Nat → Nat → Int32} : Ws (Ws (Ws W 2 B) 4 S) 2 B' = Ws (Ws W 2 B') 4 S := by
  funext j
  unfold Ws
  by_cases e : j = 2
  · rw [if_pos e, if_neg (show ¬ j = 4 by omega), if_pos e]
  · rw [if_neg e, if_neg e, if_neg e]
section
variable {G : osG} {z z1 : osS} {N x n np L i i0 : Nat} {ad : Nat → Nat} {W : Nat → Nat → Nat → Int32} {D D' : osS} {E : Nat → Nat → Int64} {b : Nat → Nat} {M0 M B B' S S' C : Nat → Nat → Int32}
theorem MW.b2 (h : MW z x ad (Ws (Ws W 2 B) 4 S) D C E) : rX0 z (ad 1) B := h.1.sp
theorem MW.d1 (h : MW z x ad (Ws (Ws W 2 B) 4 S) D C E) : rX5 z (ad 3) S := by
  have := h.1.dr
  rw [Ws_eq] at this; exact this
theorem MW.d2 (h : MW z x ad (Ws (Ws W 2 B) 4 S) D C E) (hf : osFr (ad 3) (ad 3 + 12) z z1) (hc : rX5 z1 (ad 3) S') : MW z1 x ad (Ws (Ws W 2 B) 4 S') D C E := by
  have := h.d hf hc
  rw [Ws_ws] at this; exact this
theorem MW.s2 (h : MW z x ad (Ws (Ws W 2 B) 4 S) D C E) (hf : osFr (ad 1) (ad 1 + 6) z z1) (hc : rX0 z1 (ad 1) B') : MW z1 x ad (Ws (Ws W 2 B') 4 S) D C E := by
  have := h.s hf hc
  rw [Ws_sw] at this; exact this
theorem MW.hA (h : MW z x ad W D C E) (hA : G.2.2.1 ≤ x) : G.2.2.1 ≤ ad 3 ∧ G.2.2.1 ≤ ad 1 := by have := h.1.ok.s; have := h.1.ok.b; omega
theorem nm_fdM {g : Nat → Int32} {d : Nat → Int64} {v : Nat} (hm : cpM B (fun _ => g) (fun _ => d) n np) (hv : v < 2 ^ 25) : fd (fun k => decide (d (0 + k) = lN v)) 0 n = fd (fun k => decide (B 5 k = nI v)) 0 n := nm_fd hm hv
theorem pm_fdM {g : Nat → Int32} {d : Nat → Int64} {v : Nat} (hm : cpM B (fun _ => g) (fun _ => d) n np) (hv : v < 2 ^ 25) : fd (fun k => decide (d (16 + k) = lN v)) 0 np = fd (fun k => decide (B 9 k = nI v)) 0 np := by
  have h4 := hm.p4
  refine fd_cong (fun j _ hj => ?_)
  obtain ⟨w, w0, w1, w2, w3⟩ := hm.2.2.2.1 j (by omega)
  have w3' : d (16 + j) = lN w := w3
  rw [w3', w2]
  exact dec_iff ((lN_eq (by omega) (by omega)).trans ⟨fun q => by rw [q], fun q => by
    have q := congrArg Int32.toInt q
    rw [nI_toInt (by omega), nI_toInt (by omega)] at q
    omega⟩)
end
