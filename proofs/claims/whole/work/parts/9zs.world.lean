/-! the world at the law's start; the law's answer (by program) -/
def ad0 (x : Nat) (k : Nat) : Nat := if k = 0 then x + 21 else if k = 1 then x + 27 else if k = 2 then x + 33 else if k = 3 then x + 45 else x + 57 + 12 * (k - 4)
def W00 (M : Nat → Nat → Int32) (k : Nat) : Nat → Nat → Int32 := if k = 0 then rw4m else if k = 1 ∨ k = 2 then bclr rw0 else if k = 3 ∨ k = 4 then sclr rw1 else if k = 5 then rw1 else if k = 6 ∨ k = 7 then rw0 else if k = 20 then M else sclr rw1
theorem ad0_p {x i : Nat} : ad0 x (4 + i) = x + 57 + 12 * i := by
  unfold ad0
  rw [if_neg (by omega), if_neg (by omega), if_neg (by omega), if_neg (by omega), show 4 + i - 4 = i by omega]
theorem W00_p {M : Nat → Nat → Int32} {i : Nat} (h : i < 6) : W00 M (8 + i) = sclr rw1 := by
  unfold W00
  rw [if_neg (by omega), if_neg (by omega), if_neg (by omega), if_neg (by omega), if_neg (by omega), if_neg (by omega)]
theorem os_answer {G : osG} {B L b : Nat} {xs : Nat → Int32} (hI : osInj G) (hB : G.2.2.1 = B) (hL : L ≤ 3072) : gx (qL_law 6000 L xs 600 b G (fun _ => none, some B)) (fun r _ => r = 1) := by
  have hN : 5000 < 6000 := by decide
  unfold qL_law
  refine gx_newH (q := B) rfl (by omega) (fun z1 d1 n1 f1 => gx_call (i_X9 (a := B) d1 f1 (by omega) hN) ?_)
  rintro _ z2 ⟨e2, K2, h9, h4, ⟨tb3, A3, D3, h3⟩, ⟨tb7, A7, D7, h7⟩, h1, h2, ⟨f, hp, hp2⟩, hb, hs, hn, hd, hpa⟩
  refine gx_newH e2 (by omega) (fun z3 d3 n3 f3 => gx_call (q_X10_init (a := B + 129) d3 f3 (by omega) hN) ?_)
  rintro _ z4 ⟨e4, K4, M, D, g, hm, m0, m1, m3, mg, m8, md⟩
  replace e4 : z4.2 = some (B + 150) := e4
  refine gx_newH e4 (by omega) (fun z5 d5 n5 f5 => ?_)
  replace f5 : z5.2 = some (B + 151) := f5
  refine gx_newH f5 (by omega) (fun z6 d6 n6 f6 => gx_callE (b := ()) (z1 := (z6.1, none)) rfl ?_)
  have kc : ∀ c, c < B + 129 → z6.1 c = z2.1 c := fun c hc => (n6 c (by omega)).trans ((n5 c (by omega)).trans ((K4 c (by omega)).trans (n3 c (by omega))))
  have hm6 : rX10 (z6.1, none) (B + 129) M D := rX10.keep (z := (z4.1, none)) (z1 := (z6.1, none)) (fr0 (lo := B + 150) (hi := B + 152) (fun c hc => (n6 c (by omega)).trans (n5 c (by omega)))) (by omega) hm
  have k0 : ∀ k, k = 0 ∨ k = 9 ∨ k = 10 ∨ k = 16 ∨ k = 41 ∨ k = 42 → ∀ j, M k j = 0 := fun k hk j => by
    rw [m0 k (by omega) (by omega) (by omega) (by omega) (by omega)]
    show (if k = 17 then (-1 : Int32) else 0) = 0
    rw [if_neg (by omega)]
  have m17 : M 17 0 = -1 := by rw [m0 17 (by omega) (by omega) (by omega) (by omega) (by omega)]; rfl
  have hw : WD (z6.1, none) B (ad0 B) (W00 M) D := by
    refine ⟨⟨Or.inl ⟨rfl, rfl⟩, Or.inl ⟨rfl, rfl⟩, fun i hi => ⟨i, hi, ad0_p⟩, fun i j _ _ e => ?_⟩, rfl, ⟨⟨(kc _ (by omega)).trans h9.1, (kc _ (by omega)).trans h9.2⟩, h4.kp (fun c _ _ => kc c (by omega)), h1.kp (fun c _ _ => kc c (by omega)), h2.kp (fun c _ _ => kc c (by omega)), (show rX0 _ (B + 21) (bclr rw0) from hb.kp (fun c _ _ => kc c (by omega))), (show rX0 _ (B + 27) (bclr rw0) from hs.kp (fun c _ _ => kc c (by omega))), (show rX5 _ (B + 33) (sclr rw1) from hn.kp (fun c _ _ => kc c (by omega))), (show rX5 _ (B + 45) (sclr rw1) from hd.kp (fun c _ _ => kc c (by omega))), ⟨f, (kc _ (by omega)).trans hp, fun i hi => by rw [ad0_p]; exact hp2 i hi⟩, fun i hi => ?_, ⟨tb3, A3, D3, h3.kp (fun c _ _ => kc c (by omega))⟩, tb7, A7, D7, h7.kp (fun c _ _ => kc c (by omega))⟩, hm6, ⟨_, (n6 (B + 150) (by omega)).trans d5⟩, _, d6⟩
    · rw [ad0_p, ad0_p] at e; omega
    · rw [ad0_p, W00_p hi]
      exact (hpa i hi).kp (fun c _ _ => kc c (by omega))
  have hq := QM_0 (C := rw0) (S := rw1) (g := M 1) (g4 := holdF g) (d := D 6) m1 rfl mg
  have hst := MS_stI hq.1 hq.2.2
  have hv : IV (W00 M) D 1 := by
    refine ⟨0, 0, ?_, ?_, ?_, ⟨0, by omega, rfl, ?_, fun k hk => ⟨0, by omega, ?_, rfl⟩⟩, ⟨?_, ?_⟩, ⟨0, by omega, rfl, m8, fun i hi => absurd hi (Nat.not_lt_zero i)⟩, ⟨0, by omega, rfl, ?_, fun k hk => absurd hk (Nat.not_lt_zero k)⟩⟩
    · exact cpM_pt hq.1 (fun _ _ => rfl) (fun _ _ => rfl)
    · exact cpT_fE hq.2.2.1 m3
    · exact hst
    · exact k0 10 (by omega) 0
    · exact k0 9 (by omega) k
    · exact (k0 16 (by omega) 0).symm
    · exact m17.symm
    · exact k0 42 (by omega) 0
  exact law_loop (load_ok hI (by omega) hN) (tell_ok hI (by omega) hN) hw hv hI (by omega) hN hL
