/-! the law's own steps (31): a map's text: the areas -/
theorem MI_0 {C S : Nat → Nat → Int32} : MI 0 0 0 0 0 (bclr C) (sclr S) := by
  obtain ⟨b0, b1, b2, b3, b4, br⟩ := bclr_at (C := C)
  obtain ⟨s0, s1, s2, s3, s4, sr, s15⟩ := sclr_at (S := S)
  refine ⟨⟨clM, fun _ => 0, holdF clD, QM_0 (g := clM) (f := clD) (fun _ _ => rfl) rfl (fun _ _ => rfl)⟩, ⟨fun k hk => absurd hk (Nat.not_lt_zero k), fun p hp => absurd hp (Nat.not_lt_zero p), fun a ha => (br a ha).1, fun a ha => absurd ha (Nat.not_lt_zero a), fun a ha => absurd ha (Nat.not_lt_zero a)⟩, fun i j hij hj q => ?_, fun a ha _ => ?_⟩
  · rw [(br i (by omega)).2.1, (br i (by omega)).2.2, b_0] at q
    exact absurd q (by decide)
  · unfold uu; rw [(sr a ha).2.1]; rfl
theorem MI_up {n np k m q k' m' q' : Nat} {B S : Nat → Nat → Int32} (h : MI n np k m q B S) (hu : k < k' ∨ (k = k' ∧ m ≤ m')) (hq : q ≤ q') : MI n np k' m' q' B S := ⟨h.1, h.2.1, BR_up h.2.2.1 hu, fun a ha hqa => h.2.2.2 a ha (by omega)⟩
section
variable {α : Type} {G : osG} {z : osS} {N x k0 d k i m : Nat} {np nA : Int32} {Q : Nat → osS → Prop} {t u : List Nat}
theorem PF_0 : PF G N x [] (MI 0 0 0 0 0) := PF_mono PF_nil (fun B S ⟨B0, S0, e1, e2⟩ => by rw [e1, e2]; exact MI_0)
/-- one area -/
theorem l_map50 {kd : Int32} {c16 : Nat × Int32 × Nat × Int32 × Int32 → osM Nat} (hk : (i < 3 ∧ kd = 2) ∨ (3 ≤ i ∧ i < 6 ∧ kd = 1) ∨ (6 ≤ i ∧ (kd = 0 ∨ kd = 1))) (hi : i < 12) (hr : rgR x z) (hb : buR z k0 d t) (hx : x + 130 ≤ k0) (hA : G.2.2.1 ≤ x) (hI : osInj G) (hl : t.length + 15 ≤ 600) (hp : PF G N x t (MI i 0 0 0 0))
    (kk : ∀ z1 t1, rgR x z1 → gN x k0 z z1 → buR z1 k0 d t1 → PF G N x t1 (MI (i + 1) 0 0 0 0) → (kd = 2 → t1.length ≤ t.length + 6) → t1.length ≤ t.length + 15 → gx (c16 (x + 129, np, d, nA, nI (i + 1)) G z1) Q) : gx (qL_map_50 N c16 (x + 129) np d nA (nI i) kd G z) Q := by
  have hA0 : G.2.2.1 ≤ k0 := by omega
  have fin : ∀ {w : List Nat} {jc : Nat}, jc < 17 → osTs.getD jc [] = (w ++ [32]).map nI → asc (w ++ [32]) → w.length ≤ 5 → (kd = 2 → w.length ≤ 3) → SR G N x (w ++ [32, 97 + i]) (MI i 0 0 0 0) (MI (i + 1) 0 0 0 0) → (¬ kd = 2 → SR G N x (w ++ [32, 97 + i, 32, 99, 101, 110, 116, 101, 114]) (MI i 0 0 0 0) (MI (i + 1) 0 0 0 0)) → gx (qL_map_77 N c16 (x + 129) np d nA (nI i) kd (G.2.2.2.2 jc) d G z) Q := by
    intro w jc hjc ej hu hw hw2 s0 s1
    have hlw : (w ++ [32]).length = w.length + 1 := by simp
    unfold qL_map_77
    refine sB_cst hb rfl hA0 hI hjc ej hu (by omega) (fun z1 g1 b1 => tB_chr b1 hA0 hI (by omega) rfl (by rw [List.length_append]; omega) (fun z2 g2 b2 => ?_))
    have r2 := hr.gr (g1.tr g2) hx
    have gN2 : gN x k0 z z2 := gN.gr (g1.tr g2) (Nat.le_refl _)
    have hl2 : (t ++ (w ++ [32]) ++ [97 + i]).length = t.length + w.length + 2 := by
      rw [List.length_append, List.length_append, hlw]; rfl
    have fin2 : ∀ {z3} {jc2 : Nat} {v : List Nat}, rgR x z3 → gN x k0 z z3 → buR z3 k0 d (t ++ (w ++ [32]) ++ [97 + i]) → jc2 < 17 → osTs.getD jc2 [] = (v ++ [59]).map nI → asc (v ++ [59]) → (w.length + v.length + 3 ≤ 15) → (kd = 2 → v.length = 0) → SR G N x (w ++ 32 :: (97 + i) :: v) (MI i 0 0 0 0) (MI (i + 1) 0 0 0 0) → gx (qL_map_111 N c16 (x + 129) np d nA (nI i) (G.2.2.2.2 jc2) d G z3) Q := by
      intro z3 jc2 v r3 g3 b3 hj2 e2 hu2 hlv hv2 hs
      have hlv1 : (v ++ [59]).length = v.length + 1 := by simp
      unfold qL_map_111
      refine sB_cst b3 rfl hA0 hI hj2 e2 hu2 (by omega) (fun z4 g4 b4 => ?_)
      rw [nI_1]
      have e : t ++ (w ++ [32]) ++ [97 + i] ++ (v ++ [59]) = t ++ ((w ++ 32 :: (97 + i) :: v) ++ [59]) := by simp
      have hl4 : (t ++ (w ++ [32]) ++ [97 + i] ++ (v ++ [59])).length = t.length + w.length + v.length + 3 := by
        rw [List.length_append, hl2, hlv1]; omega
      rw [e] at b4 hl4
      exact kk z4 _ (r3.gr g4 hx) (g3.tr (gN.gr g4 (Nat.le_refl _))) b4 (PF_step hp hs) (fun q => by have := hw2 q; have := hv2 q; omega) (by omega)
    have semi : ∀ {z3}, rgR x z3 → gN x k0 z z3 → buR z3 k0 d (t ++ (w ++ [32]) ++ [97 + i]) → gx (qL_map_109 N c16 (x + 129) np d nA (nI i) d G z3) Q := by
      intro z3 r3 g3 b3
      unfold qL_map_109
      exact gx_callE (b := G.2.2.2.2 4) (z1 := z3) rfl (fin2 (jc2 := 4) (v := []) r3 g3 b3 (by omega) rfl (asc_of rfl) (by simp; omega) (fun _ => rfl) s0)
    refine gx_ite (fun _ => semi r2 gN2 b2) (fun hkd => n_next r2 b2 hx hA (fun z3 m _ r3 g3 b3 => gx_guard (by decide) (gx_ite (fun _ => ?_) (fun _ => semi r3 (gN2.tr g3) b3))))
    exact gx_callE (b := G.2.2.2.2 3) (z1 := z3) rfl (fin2 (jc2 := 3) (v := [32, 99, 101, 110, 116, 101, 114]) r3 (gN2.tr g3) b3 (by omega) rfl (asc_of rfl) (by simp; omega) (fun q => absurd q hkd) (s1 hkd))
  unfold qL_map_50
  by_cases c2 : kd = 2
  · refine gx_itet c2 (gx_callE (b := G.2.2.2.2 0) (z1 := z) rfl ?_)
    have hs := SR_area (G := G) (N := N) (x := x) (n := i) (np := 0) (k := 0) (m := 0) (q := 0) (w := kw_se) (j := 2) (kd := kd) (Or.inr (Or.inr ⟨rfl, rfl, c2⟩)) hi hk
    exact fin (w := kw_se) (jc := 0) (by omega) rfl (asc_of rfl) (by decide) (fun _ => by decide) hs.1 hs.2
  · refine gx_itef c2 ?_
    by_cases c1 : kd = 1
    · refine gx_itet c1 (gx_callE (b := G.2.2.2.2 1) (z1 := z) rfl ?_)
      have hs := SR_area (G := G) (N := N) (x := x) (n := i) (np := 0) (k := 0) (m := 0) (q := 0) (w := kw_co) (j := 1) (kd := kd) (Or.inr (Or.inl ⟨rfl, rfl, c1⟩)) hi hk
      exact fin (w := kw_co) (jc := 1) (by omega) rfl (asc_of rfl) (by decide) (fun q => absurd q c2) hs.1 hs.2
    · have c0 : kd = 0 := by
        rcases hk with ⟨_, e⟩ | ⟨_, _, e⟩ | ⟨_, e | e⟩
        · exact absurd e c2
        · exact absurd e c1
        · exact e
        · exact absurd e c1
      refine gx_itef c1 (gx_callE (b := G.2.2.2.2 2) (z1 := z) rfl ?_)
      have hs := SR_area (G := G) (N := N) (x := x) (n := i) (np := 0) (k := 0) (m := 0) (q := 0) (w := kw_la) (j := 0) (kd := kd) (Or.inl ⟨rfl, rfl, c0⟩) hi hk
      exact fin (w := kw_la) (jc := 2) (by omega) rfl (asc_of rfl) (by decide) (fun q => absurd q c2) hs.1 hs.2
/-- all areas -/
theorem q_map16 (hm : m = 9 ∨ m = 12) (hr : rgR x z) (hb : buR z k0 d []) (hx : x + 130 ≤ k0) (hA : G.2.2.1 ≤ x) (hI : osInj G)
    (kk : ∀ z1 t1, rgR x z1 → gN x k0 z z1 → buR z1 k0 d t1 → PF G N x t1 (MI m 0 0 0 0) → t1.length ≤ 153 → gx (qL_map_124 N (np, d, nI m, (0 : Int32)) G z1) Q) : gx (qL_map_16 N (x + 129, np, d, nI m, (0 : Int32)) G z) Q := by
  obtain ⟨q0, hq0, _, _, hq1⟩ := hb.sz
  unfold qL_map_16
  refine gx_loop m (fun i p z' => p = (x + 129, np, d, nI m, nI i) ∧ rgR x z' ∧ gN x k0 z z' ∧ ∃ t', buR z' k0 d t' ∧ PF G N x t' (MI i 0 0 0 0) ∧ (i ≤ 3 → t'.length ≤ 6 * i) ∧ (3 ≤ i → t'.length + 27 ≤ 15 * i)) ?_ ?_ 13 0 _ z (Nat.zero_le _) (by omega) ⟨rfl, hr, gN.rf hq0 hq1, [], hb, PF_0, fun _ => Nat.zero_le _, fun q => by omega⟩
  · rintro ih i p z' hi ⟨rfl, r', g', t', b', p', l1, l2⟩ k
    show gx (bL_map_16 N ih (x + 129) np d (nI m) (nI i) G z') _
    unfold bL_map_16
    have hl : t'.length + 15 ≤ 600 := by
      by_cases c : i ≤ 3
      · have := l1 c; omega
      · have := l2 (by omega); omega
    have go : ∀ {kd z2}, rgR x z2 → gN x k0 z' z2 → buR z2 k0 d t' → ((i < 3 ∧ kd = (2 : Int32)) ∨ (3 ≤ i ∧ i < 6 ∧ kd = 1) ∨ (6 ≤ i ∧ (kd = 0 ∨ kd = 1))) → gx (qL_map_50 N ih (x + 129) np d (nI m) (nI i) kd G z2) Q := fun {kd z2} r2 g2 b2 hk => l_map50 hk (by omega) r2 b2 hx hA hI hl p' (fun z3 t3 r3 g3 b3 p3 h3 h4 => k _ _ ⟨rfl, r3, g'.tr (g2.tr g3), t3, b3, p3, fun q => by have := h3 (by rcases hk with ⟨_, e⟩ | ⟨e, _⟩ | ⟨e, _⟩ <;> first | exact e | omega); have := l1 (by omega); omega, fun q => by
      by_cases c : i < 3
      · have := h3 (by rcases hk with ⟨_, e⟩ | ⟨e, _⟩ | ⟨e, _⟩ <;> first | exact e | omega)
        have := l1 (by omega)
        omega
      · have := l2 (by omega)
        omega⟩)
    obtain ⟨q2, hq2, _, _, hq3⟩ := b'.sz
    refine gx_itef (nI_nleE (a := m) (b := i) rfl rfl hi (by omega)) ?_
    by_cases c3 : i < 3
    · exact gx_itef (nI_nleE (a := 3) (b := i) rfl rfl c3 (by omega)) (go r' (gN.rf hq2 hq3) b' (Or.inl ⟨c3, rfl⟩))
    · refine gx_itet ((nI_leI (a := 3) (b := i) (by omega) (by omega)).mpr (by omega)) ?_
      by_cases c6 : i < 6
      · exact gx_itef (nI_nleE (a := 6) (b := i) rfl rfl c6 (by omega)) (go r' (gN.rf hq2 hq3) b' (Or.inr (Or.inl ⟨by omega, c6, rfl⟩)))
      · refine gx_itet ((nI_leI (a := 6) (b := i) (by omega) (by omega)).mpr (by omega)) (n_next r' b' hx hA (fun z2 mm hmm r2 g2 b2 => gx_guard (by decide) ?_))
        rw [show (nI mm - nI mm / (2 : Int32) * (2 : Int32)) = nI (mm % 2) from nI_rem (b := 2) (by omega) (by omega) (by omega)]
        refine go r2 g2 b2 (Or.inr (Or.inr ⟨by omega, ?_⟩))
        rcases (show mm % 2 = 0 ∨ mm % 2 = 1 by omega) with e | e <;> rw [e]
        · exact Or.inl rfl
        · exact Or.inr rfl
  · rintro ih p z' ⟨rfl, r', g', t', b', p', l1, l2⟩
    show gx (bL_map_16 N ih (x + 129) np d (nI m) (nI m) G z') _
    unfold bL_map_16
    refine gx_itet ((nI_leI (a := m) (b := m) (by omega) (by omega)).mpr (Nat.le_refl _)) (kk z' t' r' g' b' p' ?_)
    have := l2 (by omega)
    omega
end
