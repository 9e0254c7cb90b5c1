/-! the law's own steps (35): a round; the law -/
theorem gx_ldL {α : Type} {G : osG} {z : osS} {L i : Nat} {xs : Nat → Int32} {f : Int32 → osM α} {Q : α → osS → Prop} (h : i < L) (hL : L < 2 ^ 31) (k : gx (f (xs i) G z) Q) : gx (osbind (ossld L xs (nI i)) f G z) Q := by
  refine gx_callE (b := xs i) (z1 := z) ?_ k
  unfold ossld
  rw [if_pos (nI_in h hL), nI_clamp (by omega)]
theorem gx_lenL {α : Type} {G : osG} {z : osS} {L : Nat} {f : Int32 → osM α} {Q : α → osS → Prop} (hL : L < 2 ^ 31) (k : gx (f (nI L) G z) Q) : gx (osbind (osslen2 L) f G z) Q := gx_callE (b := nI L) (z1 := z) (by unfold osslen2; rw [if_pos hL]; rfl) k
section
variable {G : osG} {z z1 : osS} {N L x n np k T : Nat} {xs : Nat → Int32} {ad : Nat → Nat} {W : Nat → Nat → Nat → Int32} {Q : Int32 → osS → Prop} {l4 : Int32} {c34 : Nat × Nat × Int32 × Int32 → osM Int32}
theorem LW.gN (h : LW z x ad W n np T) (e : z.2 = some k) (g : gN x k z z1) (hr : rgR x z1) : LW z1 x ad W n np T := by
  obtain ⟨q, hq, hq2⟩ := h.sz
  rw [e] at hq
  cases hq
  exact ⟨h.w.far (fun c h1 h3 => g.1 c (by omega) (by omega)), h.i.oD, h.z0, hr⟩
/-- a round of the law: a map is drawn, told twice, five turns -/
theorem l_63 {v w : Int32} (h : LW z x ad W n np T) (hI : osInj G) (hA : G.2.2.1 ≤ x) (hN : 5000 < N)
    (kk : ∀ z' ad' W' n' np' T', LW z' x ad' W' n' np' T' → gx (c34 (x, x + 129, (1 : Int32), (l4 + (1 : Int32))) G z') Q) : gx (qL_law_63 N L xs c34 x (x + 129) l4 v w (0 : Int32) (x + 129) G z) Q := by
  obtain ⟨⟨g, hg⟩, q, hq, hq2⟩ := h.r
  unfold qL_law_63
  refine gx_sN (i := 0) hg (by omega) (by omega) (by omega) ?_
  generalize hz1 : osup z (x + 129) _ = z1
  have h1 : LW z1 x ad W n np T := by
    subst hz1
    exact (h.nx ⟨⟨_, osup_eq⟩, q, hq, hq2⟩ (fun b hb => osup_ne hb rfl) rfl).1
  refine l_next h1 hA (fun z2 m2 hm2 h2 f2 => gx_guard (by decide) (gx_retb ?_))
  rw [show ((2 : Int32) + (nI m2 - nI m2 / (2 : Int32) * (2 : Int32))) = nI (2 + m2 % 2) by rw [show (nI m2 - nI m2 / (2 : Int32) * (2 : Int32)) = nI (m2 % 2) from nI_rem (b := 2) (by omega) (by omega) (by omega)]; exact nI_sum (a := 2) (b := m2 % 2) rfl rfl]
  refine l_next h2 hA (fun z3 m3 hm3 h3 f3 => gx_guard (by decide) (gx_retb ?_))
  rw [show ((3 : Int32) + (nI m3 - nI m3 / (2 : Int32) * (2 : Int32))) = nI (3 + m3 % 2) by rw [show (nI m3 - nI m3 / (2 : Int32) * (2 : Int32)) = nI (m3 % 2) from nI_rem (b := 2) (by omega) (by omega) (by omega)]; exact nI_sum (a := 3) (b := m3 % 2) rfl rfl]
  generalize hnp : 2 + m2 % 2 = np'
  generalize hrw : 3 + m3 % 2 = rows
  have hnp3 : np' ≤ 3 ∧ 0 < np' := by omega
  have hr34 : rows = 3 ∨ rows = 4 := by omega
  obtain ⟨q3, hq3, hq3'⟩ := h3.sz
  refine gx_bind (q_L_map hq3 hq3' h3.r hA hI hr34 hnp3.1 (fun z4 s lo t r4 g4 hlo hs hp hlt => ?_))
  have h4 := h3.gN hq3 g4 r4
  refine gx_bind (q_L_load h4 hs (by omega) hp hI hA hN (fun z5 ad5 W5 h5 hMI e9 => ?_))
  have hnu : nu (W5 3) = 0 := by have := nu_lt hMI.2.2.2 (Nat.zero_le 16); omega
  rw [hnu]
  refine gx_itet rfl (l_areas h5.w h5.c0 (gx_itet ?_ ?_))
  · exact (nI_prod (a := 3) (b := rows) rfl rfl).symm
  obtain ⟨q5, hq5, hq5'⟩ := h5.sz
  refine sB_new hq5 (by omega) (fun z6 g6 b6 => ?_)
  have g6' : gN x q5 z5 z6 := gN.gr g6 (Nat.le_refl _)
  have r6 := h5.r.gr g6 hq5'
  obtain ⟨q6, hq6, _, hq6a, hq6b⟩ := b6.sz
  refine gx_bind (q_L_map hq6 (by omega) r6 hA hI hr34 hnp3.1 (fun z7 s7 lo7 t7 r7 g7 hlo7 hs7 hp7 hl7 => ?_))
  have b7 := b6.gN hq5' hq6 g7
  refine sB_str b7 hs7 (by omega) hI (by show 2 * (0 + t7.length) ≤ 1200; omega) (by omega) (fun z8 g8 b8 => ?_)
  have r8 := r7.gr g8 hq5'
  obtain ⟨q8, hq8, _, hq8a, hq8b⟩ := b8.sz
  rw [show (3 : Int32) * nI rows = nI (3 * rows) from nI_prod (a := 3) (b := rows) rfl rfl]
  refine gx_bind (q_L_unitsT hq8 (by omega) r8 hA hI (by omega) hnp3.1 hnp3.2 (fun z9 s9 lo9 u9 r9 g9 hlo9 hs9 hp9 hl9 => ?_))
  have b9 := b8.gN hq5' hq8 g9
  refine sB_str b9 hs9 (by omega) hI (by show 2 * ((t7).length + u9.length) ≤ 1200; omega) (by omega) (fun zA gA bA => ?_)
  have bA' : buR zA q5 q5 (t7 ++ u9) := bA
  have hlA : (t7 ++ u9).length = t7.length + u9.length := List.length_append
  refine sB_out bA' (by omega) hI (by omega) (by omega) (fun zB sB kB eB gB _ hsB => ?_)
  have gg : gN x q5 z5 zB := g6'.tr ((g7.lo hq6b).tr ((gN.gr g8 (Nat.le_refl _)).tr ((g9.lo hq8b).tr ((gN.gr gA (Nat.le_refl _)).tr (gN.gr gB (Nat.le_refl _))))))
  have rB := (r9.gr gA hq5').gr gB hq5'
  have hB := h5.gN hq5 gg rB
  obtain ⟨qA, hqA, _, _, hqA2⟩ := bA'.sz
  have hkB : q5 ≤ kB := by rw [eB] at hqA; cases hqA; exact hqA2
  refine gx_bind (q_L_load hB hsB (by omega) (hp9 t7 hp7) hI hA hN (fun zC adC WC hC hMC eC9 => ?_))
  have hnu2 : nu (WC 3) ≤ 12 := nu12 hC.i.i.j
  refine gx_itef (nI_pos (by omega)) (l_undoCount hC.w (gx_itet eC9 ?_))
  unfold qL_law_164
  refine l_168 hC hMC.1.ph ⟨hMC.2.1.1, hMC.2.1.2.2.1⟩ (by omega) (by omega) (by omega) hI hA hN (fun zD adD WE hD => ?_)
  unfold qL_law_263
  exact kk zD adD WE _ _ _ hD
/-- three rounds -/
theorem q_law34 (h : LW z x ad W n np T) (hI : osInj G) (hA : G.2.2.1 ≤ x) (hN : 5000 < N) (hL : L < 2 ^ 31) : gx (qL_law_34 N L xs (x, x + 129, (1 : Int32), (0 : Int32)) G z) (fun r _ => r = 1) := by
  unfold qL_law_34
  refine gx_loop 3 (fun j p z' => p = (x, x + 129, (1 : Int32), nI j) ∧ ∃ ad' W' n' np' T', LW z' x ad' W' n' np' T') ?_ ?_ 4 0 _ z (Nat.zero_le _) (by omega) ⟨rfl, ad, W, n, np, T, h⟩
  · rintro ih j p z' hj ⟨rfl, ad', W', n', np', T', h'⟩ k
    show gx (bL_law_34 N L xs ih x (x + 129) (1 : Int32) (nI j) G z') _
    unfold bL_law_34
    obtain ⟨⟨g, hg⟩, q, hq, hq2⟩ := h'.r
    refine gx_itef (nI_nleE (a := 3) (b := j) rfl rfl hj (by omega)) (gx_itef (by decide) (gx_aN (i := 0) hg (by omega) (by omega) (gx_lenL hL ?_)))
    have fin : ∀ {v w : Int32}, gx (qL_law_63 N L xs ih x (x + 129) (nI j) v w (0 : Int32) (x + 129) G z') (fun r _ => r = 1) := fun {v w} => l_63 h' hI hA hN (fun z2 ad2 W2 n2 np2 T2 h2 => by
      rw [nI_1]
      exact k _ _ ⟨rfl, ad2, W2, n2, np2, T2, h2⟩)
    by_cases c : L ≤ j
    · exact gx_itet ((nI_leI hL (by omega)).mpr c) fin
    · exact gx_itef (nI_nleE rfl rfl (by omega) hL) (gx_ldL (by omega) hL fin)
  · rintro ih p z' ⟨rfl, _⟩
    show gx (bL_law_34 N L xs ih x (x + 129) (1 : Int32) (nI 3) G z') _
    unfold bL_law_34 qL_law_269
    exact gx_itet ((nI_leI (a := 3) (b := 3) (by omega) (by omega)).mpr (Nat.le_refl _)) (gx_guard rfl (gx_ret rfl))
end
theorem os_answer {G : osG} {B L : Nat} {xs : Nat → Int32} (hI : osInj G) (hB : G.2.2.1 = B) (hL : L ≤ 260) : gx (qL_law 6000 L xs G (fun _ => none, some B)) (fun r _ => r = 1) := by
  have hN : 5000 < 6000 := by decide
  unfold qL_law
  refine gx_newH (q := B) rfl (by omega) (fun z1 d1 n1 f1 => gx_call (i_X9 (a := B) d1 f1 (by omega) hN) ?_)
  rintro _ z2 ⟨e2, K2, h9, h4, ⟨tb3, A3, D3, h3⟩, ⟨tb7, A7, D7, h7⟩, h1, h2, ⟨f, hp, hp2⟩, hb, hs, hn, hd, hpa⟩
  refine gx_newH e2 (by omega) (fun z3 d3 n3 f3 => ?_)
  have kc : ∀ c, c < B + 129 → z3.1 c = z2.1 c := fun c hc => n3 c (by omega)
  have hw : WD z3 B (ad0 B) (W00 rw0) z3 := by
    refine ⟨⟨Or.inl ⟨rfl, rfl⟩, Or.inl ⟨rfl, rfl⟩, fun i hi => ⟨i, hi, ad0_p⟩, fun i j _ _ e => ?_⟩, osFr.rf, ⟨⟨(kc _ (by omega)).trans h9.1, (kc _ (by omega)).trans h9.2⟩, h4.kp (fun c _ _ => kc c (by omega)), h1.kp (fun c _ _ => kc c (by omega)), h2.kp (fun c _ _ => kc c (by omega)), (show rX0 _ (B + 21) (bclr rw0) from hb.kp (fun c _ _ => kc c (by omega))), (show rX0 _ (B + 27) (bclr rw0) from hs.kp (fun c _ _ => kc c (by omega))), (show rX5 _ (B + 33) (sclr rw1) from hn.kp (fun c _ _ => kc c (by omega))), (show rX5 _ (B + 45) (sclr rw1) from hd.kp (fun c _ _ => kc c (by omega))), ⟨f, (kc _ (by omega)).trans hp, fun i hi => by rw [ad0_p]; exact hp2 i hi⟩, fun i hi => ?_, ⟨tb3, A3, D3, h3.kp (fun c _ _ => kc c (by omega))⟩, tb7, A7, D7, h7.kp (fun c _ _ => kc c (by omega))⟩, trivial, trivial⟩
    · rw [ad0_p, ad0_p] at e; omega
    · rw [ad0_p, W00_p hi]
      exact (hpa i hi).kp (fun c _ _ => kc c (by omega))
  have hq : MI 0 0 0 0 0 (bclr rw0) (sclr rw1) := MI_0
  have hr : rgR B z3 := ⟨⟨_, d3⟩, B + 129 + 1, f3, by omega⟩
  have hv : LW z3 B (ad0 B) (W00 rw0) 0 0 1 := by
    refine ⟨hw, ⟨?_, ?_, ⟨0, by omega, rfl⟩, ⟨0, by omega, rfl, fun i hi => absurd hi (Nat.not_lt_zero i)⟩, fun k hk => ⟨0, by omega, rfl⟩⟩, rfl, hr⟩
    · exact hq.1.bdI
    · exact hq.1.stI
  have fin : ∀ {v : Int32}, gx (qL_law_27 6000 L xs B v (0 : Int32) (B + 129) (B + 129) G z3) (fun r _ => r = 1) := fun {v} => by
    obtain ⟨⟨g, hg⟩, q, hq, hq2⟩ := hr
    unfold qL_law_27
    refine gx_sN (i := 0) hg (by omega) (by omega) (by omega) ?_
    exact q_law34 (hv.nx ⟨⟨_, osup_eq⟩, q, hq, hq2⟩ (fun b hb => osup_ne hb rfl) rfl).1 hI (by omega) hN (by omega)
  refine gx_lenL (by omega) (gx_ite (fun _ => fin) (fun c => ?_))
  have hL0 : 0 < L := Nat.pos_of_ne_zero (fun q => c (by rw [q]; rfl))
  exact gx_ldL (i := 0) hL0 (by omega) fin
