/-! tell: the whole call (by program) -/
def swA (ad : Nat → Nat) (k : Nat) : Nat := if k = 2 then ad 3 else if k = 3 then ad 2 else ad k
def swW (W : Nat → Nat → Nat → Int32) (k : Nat) : Nat → Nat → Int32 := if k = 3 then W 4 else if k = 4 then W 3 else W k
theorem swA_p {ad : Nat → Nat} {i : Nat} : swA ad (4 + i) = ad (4 + i) := by unfold swA; rw [if_neg (by omega), if_neg (by omega)]
theorem swW_p {W : Nat → Nat → Nat → Int32} {k : Nat} (h : ¬ k = 3) (h2 : ¬ k = 4) : swW W k = W k := by unfold swW; rw [if_neg h, if_neg h2]
section
variable {G : osG} {z : osS} {N x n np T L : Nat} {ad : Nat → Nat} {W : Nat → Nat → Nat → Int32} {D : osS}
theorem c_adopt (hw : WD z x ad W D) (hA : G.2.2.1 ≤ x) : gx (qX9_adoptDraft N x G z) (fun _ z' => WD z' x (swA ad) (swW W) D) := by
  unfold qX9_adoptDraft
  refine gx_gR hw.x9.o (by decide) rfl (gx_gR hw.x9.o (by decide) rfl (hw.x9.p13 (by decide) hA (fun z1 f1 h1 => h1.p12 (by decide) hA (fun z2 f2 h2 => gx_ret ?_))))
  have fr := f1.tr f2
  obtain ⟨ha, hz, ⟨h9, h4, h1', h2', hb, hs, hn, hdr, ⟨f, hp, hp2⟩, hpa, ⟨t3, A3, D3, h3⟩, t7, A7, D7, h7⟩, hr, ho⟩ := hw
  have hb9 := ha.b
  have hs9 := ha.s
  refine ⟨⟨ha.1, ?_, fun i hi => ?_, fun i j hi hj e => ?_⟩, hz.tr (fr.wide (by omega) (by omega)), ⟨h2, h4.keep fr (by omega), h1'.keep fr (by omega), h2'.keep fr (by omega), (show rX0 _ (ad 0) (W 1) from hb.keep fr (by omega)), (show rX0 _ (ad 1) (W 2) from hs.keep fr (by omega)), (show rX5 _ (ad 3) (W 4) from hdr.keep fr (by omega)), (show rX5 _ (ad 2) (W 3) from hn.keep fr (by omega)), ⟨f, fr.at (by omega) hp, fun i hi => by rw [swA_p]; exact hp2 i hi⟩, fun i hi => ?_, ⟨t3, A3, D3, h3.keep fr (by omega)⟩, t7, A7, D7, h7.keep fr (by omega)⟩, trivial, trivial⟩
  · show (ad 3 = x + 33 ∧ ad 2 = x + 45) ∨ (ad 3 = x + 45 ∧ ad 2 = x + 33)
    omega
  · rw [swA_p]; exact ha.2.2.1 i hi
  · rw [swA_p, swA_p] at e; exact ha.2.2.2 i j hi hj e
  · rw [swA_p, swW_p (by omega) (by omega)]
    exact (hpa i hi).keep fr (by have := ha.p hi; omega)
end
section
variable {G : osG} {N m c l : Nat} {M : Nat → Nat → Int32} {D : Nat → Nat → Int64} {v : Int32}
end
section
variable {G : osG} {z : osS} {N x n np T L : Nat} {ad : Nat → Nat} {W : Nat → Nat → Nat → Int32} {D D' : osS} {b : Nat → Nat} {M0 M S : Nat → Nat → Int32} {v : Int32}
end
