/-! the law's own steps (33): the text of the units -/
section
variable {α : Type} {G : osG} {z : osS} {N x k0 d k i m np j : Nat} {Q : Nat → osS → Prop} {t u : List Nat}
/-- behind any text that told the map, u tells units, all below area q -/
def UT (G : osG) (N x m np : Nat) (u : List Nat) (q : Nat) : Prop := ∀ t, PF G N x t (MI m np m 0 0) → PF G N x (t ++ u) (MI m np m 0 q)
theorem UT_up {q q' : Nat} (h : UT G N x m np u q) (hq : q ≤ q') : UT G N x m np u q' := fun t ht => PF_mono (h t ht) (fun B S h9 => MI_up h9 (Or.inr ⟨rfl, Nat.le_refl _⟩) hq)
theorem UT_0 : UT G N x m np [] 0 := fun t ht => by rw [List.append_nil]; exact ht
/-- one unit -/
theorem l_un66 {kd : Int32} {c14 : Nat × Int32 × Int32 × Nat × Int32 × Int32 → osM Nat} (hk : (kd = 1 ∧ i < 6) ∨ (kd = 0 ∧ 3 ≤ i)) (hm : m = 9 ∨ m = 12) (hi : i < m) (hnp : np ≤ 3) (hn0 : 0 < np) (hr : rgR x z) (hb : buR z k0 d u) (hx : x + 130 ≤ k0) (hA : G.2.2.1 ≤ x) (hI : osInj G) (hl : u.length ≤ 80) (hp : UT G N x m np u i)
    (kk : ∀ z1 u1, rgR x z1 → gN x k0 z z1 → buR z1 k0 d u1 → UT G N x m np u1 (i + 1) → u1.length ≤ u.length + 10 → gx (c14 (x + 129, nI m, nI np, d, nI (j + 1), nI (i + 1)) G z1) Q) : gx (qL_units_66 N c14 (x + 129) (nI m) (nI np) d (nI j) (nI i) kd G z) Q := by
  have hA0 : G.2.2.1 ≤ k0 := by omega
  have fin : ∀ {w : List Nat} {jc : Nat}, jc < 17 → osTs.getD jc [] = (w ++ [32]).map nI → asc (w ++ [32]) → w.length ≤ 5 → (∀ p0, p0 < np → SR G N x (w ++ [32, 97 + (15 + p0), 32, 97 + i]) (MI m np m 0 i) (MI m np m 0 (i + 1))) → gx (qL_units_81 N c14 (x + 129) (nI m) (nI np) d (nI j) (nI i) (G.2.2.2.2 jc) d G z) Q := by
    intro w jc hjc ej hu hw hs
    have hlw : (w ++ [32]).length = w.length + 1 := by simp
    unfold qL_units_81
    refine sB_cst hb rfl hA0 hI hjc ej hu (by omega) (fun z1 g1 b1 => ?_)
    have hl1 : (u ++ (w ++ [32])).length = u.length + w.length + 1 := by rw [List.length_append, hlw]; omega
    refine n_next (hr.gr g1 hx) b1 hx hA (fun z2 mm hmm r2 g2 b2 => gx_guard (fun q => by have := (nI_00 (by omega)).mp q; omega) ?_)
    rw [nI_rem (by omega) (by omega) (by omega)]
    have hp0 : mm % np < np := Nat.mod_lt _ hn0
    refine tB_chr2 b2 hA0 hI (by omega) rfl (by omega) (fun z3 g3 b3 => ?_)
    have hl3 : (u ++ (w ++ [32]) ++ [97 + (15 + mm % np)]).length = u.length + w.length + 2 := by rw [List.length_append, hl1]; rfl
    refine sB_chr (c := 32) b3 hA0 hI (by omega) (by omega) (fun z4 g4 b4 => ?_)
    have hl4 : (u ++ (w ++ [32]) ++ [97 + (15 + mm % np)] ++ [32]).length = u.length + w.length + 3 := by rw [List.length_append, hl3]; rfl
    refine tB_chr b4 hA0 hI (by omega) rfl (by omega) (fun z5 g5 b5 => ?_)
    have hl5 : (u ++ (w ++ [32]) ++ [97 + (15 + mm % np)] ++ [32] ++ [97 + i]).length = u.length + w.length + 4 := by rw [List.length_append, hl4]; rfl
    refine sB_chr (c := 59) b5 hA0 hI (by omega) (by omega) (fun z6 g6 b6 => ?_)
    have hl6 : (u ++ (w ++ [32]) ++ [97 + (15 + mm % np)] ++ [32] ++ [97 + i] ++ [59]).length = u.length + w.length + 5 := by rw [List.length_append, hl5]; rfl
    have e : u ++ (w ++ [32]) ++ [97 + (15 + mm % np)] ++ [32] ++ [97 + i] ++ [59] = u ++ ((w ++ [32, 97 + (15 + mm % np), 32, 97 + i]) ++ [59]) := by simp
    rw [e] at b6 hl6
    have g := g3.tr (g4.tr (g5.tr g6))
    unfold qL_units_120
    rw [nI_1, nI_1]
    refine kk z6 _ (r2.gr g hx) ((gN.gr g1 (Nat.le_refl _)).tr (g2.tr (gN.gr g (Nat.le_refl _)))) b6 (fun t ht => ?_) (by omega)
    rw [← List.append_assoc t]
    exact PF_step (hp t ht) (hs _ hp0)
  unfold qL_units_66
  rcases hk with ⟨e, h6⟩ | ⟨e, h3⟩
  · subst e
    refine gx_itef (by decide) (gx_callE (b := G.2.2.2.2 8) (z1 := z) rfl (fin (w := kw_fl) (jc := 8) (by omega) rfl (asc_of rfl) (by decide) (fun p0 hp0 => SR_unit (Or.inr ⟨rfl, rfl, rfl, h6⟩) (by omega) hi (Nat.le_refl _) hp0)))
  · subst e
    refine gx_itet rfl (gx_callE (b := G.2.2.2.2 9) (z1 := z) rfl (fin (w := kw_ar) (jc := 9) (by omega) rfl (asc_of rfl) (by decide) (fun p0 hp0 => SR_unit (Or.inl ⟨rfl, rfl, rfl, h3⟩) (by omega) hi (Nat.le_refl _) hp0)))
/-- the units' text -/
theorem q_L_unitsT (e : z.2 = some k) (hk : x + 130 ≤ k) (hr : rgR x z) (hA : G.2.2.1 ≤ x) (hI : osInj G) (hm : m = 9 ∨ m = 12) (hnp : np ≤ 3) (hn0 : 0 < np)
    (kk : ∀ z1 s lo u1, rgR x z1 → gN x k z z1 → k ≤ lo → stR G lo z1 s u1 → UT G N x m np u1 16 → u1.length ≤ 90 → Q s z1) : gx (qL_units N (x + 129) (nI m) (nI np) G z) Q := by
  unfold qL_units
  refine sB_new e (by omega) (fun z1 g1 b1 => ?_)
  have g1' : gN x k z z1 := gN.gr g1 (Nat.le_refl _)
  have hA0 : G.2.2.1 ≤ k := by omega
  have out : ∀ {z' u' i}, i ≤ 16 → rgR x z' → gN x k z z' → buR z' k k u' → UT G N x m np u' i → u'.length ≤ 90 → gx (qL_units_126 N k G z') Q := fun {z' u' i} hi r' g' b' p' l' => by
    unfold qL_units_126
    refine sB_out b' hA0 hI (by omega) (by omega) (fun z1 s k1 e1 g1 _ hs => gx_ret (kk z1 s k1 u' (r'.gr g1 hk) (g'.tr (gN.gr g1 (Nat.le_refl _))) ?_ hs (UT_up p' hi) l'))
    obtain ⟨q2, hq2, _, _, hq3⟩ := b'.sz
    rw [e1] at hq2
    cases hq2
    exact hq3
  unfold qL_units_14
  refine gx_loop m (fun i p z' => ∃ j, p = (x + 129, nI m, nI np, k, nI j, nI i) ∧ j ≤ 9 ∧ rgR x z' ∧ gN x k z z' ∧ ∃ u', buR z' k k u' ∧ UT G N x m np u' i ∧ u'.length ≤ 10 * j) ?_ ?_ 13 0 _ z1 (Nat.zero_le _) (by omega) ⟨0, rfl, by omega, hr.gr g1 hk, g1', [], b1, UT_0, Nat.zero_le _⟩
  · rintro ih i p z' hi ⟨j, rfl, hj, r', g', u', b', p', l'⟩ kc
    show gx (bL_units_14 N ih (x + 129) (nI m) (nI np) k (nI j) (nI i) G z') _
    unfold bL_units_14
    refine gx_itef (nI_nleE (a := m) (b := i) rfl rfl hi (by omega)) ?_
    by_cases c9 : 9 ≤ j
    · exact gx_itet ((nI_leI (a := 9) (b := j) (by omega) (by omega)).mpr c9) (out (by omega) r' g' b' p' (by omega))
    refine gx_itef (nI_nleE (a := 9) (b := j) rfl rfl (by omega) (by omega)) (n_next r' b' hk hA (fun z2 mm hmm r2 g2 b2 => gx_guard (by decide) (gx_ite (fun _ => ?_) (fun _ => ?_))))
    · unfold qL_units_120
      rw [nI_1]
      exact kc _ _ ⟨j, rfl, hj, r2, g'.tr g2, u', b2, UT_up p' (Nat.le_succ i), l'⟩
    · have go : ∀ {kd : Int32} {z3}, ((kd = 1 ∧ i < 6) ∨ (kd = 0 ∧ 3 ≤ i)) → rgR x z3 → gN x k z z3 → buR z3 k k u' → gx (qL_units_66 N ih (x + 129) (nI m) (nI np) k (nI j) (nI i) kd G z3) Q := fun {kd z3} hkd r3 g3 b3 => l_un66 hkd hm hi hnp hn0 r3 b3 hk hA hI (by omega) p' (fun z4 u4 r4 g4 b4 p4 l4 => kc _ _ ⟨j + 1, rfl, by omega, r4, g3.tr g4, u4, b4, p4, by omega⟩)
      unfold qL_units_61 qL_units_65
      by_cases c3 : i < 3
      · exact gx_itet ((nI_ltI (a := i) (b := 3) (by omega) (by omega)).mpr c3) (go (Or.inl ⟨rfl, by omega⟩) r2 (g'.tr g2) b2)
      refine gx_itef (fun q => c3 ((nI_ltI (a := i) (b := 3) (by omega) (by omega)).mp q)) ?_
      by_cases c6 : 6 ≤ i
      · exact gx_itet ((nI_leI (a := 6) (b := i) (by omega) (by omega)).mpr c6) (go (Or.inr ⟨rfl, by omega⟩) r2 (g'.tr g2) b2)
      refine gx_itef (nI_nleE (a := 6) (b := i) rfl rfl (by omega) (by omega)) (n_next r2 b2 hk hA (fun z3 m3 hm3 r3 g3 b3 => gx_guard (by decide) (gx_ite (fun _ => go (Or.inl ⟨rfl, by omega⟩) r3 (g'.tr (g2.tr g3)) b3) (fun _ => go (Or.inr ⟨rfl, by omega⟩) r3 (g'.tr (g2.tr g3)) b3))))
  · rintro ih p z' ⟨j, rfl, hj, r', g', u', b', p', l'⟩
    show gx (bL_units_14 N ih (x + 129) (nI m) (nI np) k (nI j) (nI m) G z') _
    unfold bL_units_14
    exact gx_itet ((nI_leI (a := m) (b := m) (by omega) (by omega)).mpr (Nat.le_refl _)) (out (by omega) r' g' b' p' (by omega))
end
