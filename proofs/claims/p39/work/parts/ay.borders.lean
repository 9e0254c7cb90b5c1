/-! the law's own steps (32): a map's text: the borders, the powers -/
section
variable {α : Type} {G : osG} {z : osS} {N x k0 d k i m np a c q : Nat} {Q : Nat → osS → Prop} {t u : List Nat}
/-- one border -/
theorem l_bor {v w : Int32} {f : Nat → osM α} {Q : α → osS → Prop} (hr : rgR x z) (hb : buR z k0 d t) (hx : x + 130 ≤ k0) (hA : G.2.2.1 ≤ x) (hI : osInj G) (hl : t.length + 11 ≤ 600) (hm : m ≤ 12) (ha : a < m) (hc : c < m) (hac : a < c) (hkd : c < 6 ∨ 3 ≤ a) (hq : q ≤ c) (ev : v = nI a) (ew : w = nI c) (hp : PF G N x t (MI m np a q 0))
    (kk : ∀ z1 t1, rgR x z1 → gN x k0 z z1 → buR z1 k0 d t1 → PF G N x t1 (MI m np a (c + 1) 0) → t1.length = t.length + 11 → gx (f d G z1) Q) : gx (osbind (qL_border N v w) (fun x2 => osbind (osrecv [9] d (qBJ4_append_15ec4 N d x2)) f) G z) Q := by
  obtain ⟨q0, hq0, hq1, hq2, hq3⟩ := hb.sz
  refine gx_bind (q_L_border hq0 (by omega) hI (by omega) (by omega) ev ew (fun z1 s lo g1 hlo hs => ?_))
  have b1 := hb.gN hx hq0 (gN.gr g1 (Nat.le_refl _))
  have hl9 : ((kw_bo ++ [32, 97 + a, 32, 97 + c]) ++ [59]).length = 11 := rfl
  refine sB_str b1 hs (by omega) hI (by omega) (by omega) (fun z2 g2 b2 => kk z2 _ ((hr.gr g1 (by omega)).gr g2 hx) ((gN.gr g1 hq3).tr (gN.gr g2 (Nat.le_refl _))) b2 (PF_step hp (SR_border ha hc hac hm hkd rfl hq)) ?_)
  rw [List.length_append, hl9]
/-- all borders -/
theorem q_map124 {npv : Int32} (hm : m = 9 ∨ m = 12) (hr : rgR x z) (hb : buR z k0 d t) (hx : x + 130 ≤ k0) (hA : G.2.2.1 ≤ x) (hI : osInj G) (hl : t.length ≤ 153) (hp : PF G N x t (MI m 0 0 0 0))
    (kk : ∀ z1 t1, rgR x z1 → gN x k0 z z1 → buR z1 k0 d t1 → PF G N x t1 (MI m 0 m 0 0) → t1.length ≤ 461 → gx (qL_map_222 N (npv, d, (0 : Int32)) G z1) Q) : gx (qL_map_124 N (npv, d, nI m, (0 : Int32)) G z) Q := by
  obtain ⟨q0, hq0, _, _, hq1⟩ := hb.sz
  unfold qL_map_124
  refine gx_loop m (fun i p z' => p = (npv, d, nI m, nI i) ∧ rgR x z' ∧ gN x k0 z z' ∧ ∃ t', buR z' k0 d t' ∧ PF G N x t' (MI m 0 i 0 0) ∧ t'.length ≤ 153 + 11 * (7 * (i / 3) + 3 * (i % 3))) ?_ ?_ 13 0 _ z (Nat.zero_le _) (by omega) ⟨rfl, hr, gN.rf hq0 hq1, t, hb, hp, by omega⟩
  · rintro ih i p z' hi ⟨rfl, r', g', t', b', p', l'⟩ k
    show gx (bL_map_124 N ih npv d (nI m) (nI i) G z') _
    unfold bL_map_124
    have e3 : nI i + (3 : Int32) = nI (i + 3) := nI_sum (a := i) (b := 3) rfl rfl
    have e4 : nI i + (4 : Int32) = nI (i + 4) := nI_sum (a := i) (b := 4) rfl rfl
    have er : (nI i - nI i / (3 : Int32) * (3 : Int32)) = nI (i % 3) := nI_rem (b := 3) (by omega) (by omega) (by omega)
    have f213 : ∀ {z1 t1 q1}, rgR x z1 → gN x k0 z' z1 → buR z1 k0 d t1 → PF G N x t1 (MI m 0 i q1 0) → t1.length ≤ 153 + 11 * (7 * ((i + 1) / 3) + 3 * ((i + 1) % 3)) → gx (qL_map_213 N ih npv d (nI m) (nI i) G z1) Q := fun {z1 t1 q1} r1 g1 b1 p1 l1 => by
      unfold qL_map_213
      rw [nI_1]
      exact k _ _ ⟨rfl, r1, g'.tr g1, t1, b1, PF_mono p1 (fun B S h => MI_up h (Or.inl (Nat.lt_succ_self i)) (Nat.le_refl _)), l1⟩
    have f176 : ∀ {z1 t1 q1}, q1 ≤ i + 4 → rgR x z1 → gN x k0 z' z1 → buR z1 k0 d t1 → PF G N x t1 (MI m 0 i q1 0) → t1.length ≤ 153 + 11 * (7 * (i / 3) + 3 * (i % 3)) + (if i % 3 < 2 then 22 else 11) → gx (qL_map_176 N ih npv d (nI m) (nI i) G z1) Q := fun {z1 t1 q1} hq r1 g1 b1 p1 l1 => by
      unfold qL_map_176
      rw [er]
      refine gx_guard (by decide) ?_
      by_cases c2 : i % 3 < 2
      · rw [if_pos c2] at l1
        refine gx_itef (nI_nleE (a := 2) (b := i % 3) rfl rfl c2 (by omega)) ?_
        by_cases c3 : i ≤ 2
        · exact gx_itet ((nI_leI (a := i) (b := 2) (by omega) (by omega)).mpr c3) (f213 r1 g1 b1 p1 (by omega))
        · refine gx_itef (nI_nleE (a := i) (b := 2) rfl rfl (by omega) (by omega)) ?_
          rw [e4]
          by_cases c4 : m ≤ i + 4
          · exact gx_itet ((nI_leI (by omega) (by omega)).mpr c4) (f213 r1 g1 b1 p1 (by omega))
          · refine gx_itef (nI_nleE rfl rfl (by omega) (by omega)) (l_bor r1 b1 hx hA hI (by omega) (by omega) hi (c := i + 4) (by omega) (by omega) (by omega) hq rfl rfl p1 (fun z2 t2 r2 g2 b2 p2 l2 => f213 r2 (g1.tr g2) b2 p2 (by omega)))
      · rw [if_neg c2] at l1
        exact gx_itet ((nI_leI (a := 2) (b := i % 3) (by omega) (by omega)).mpr (by omega)) (f213 r1 g1 b1 p1 (by omega))
    have f153 : ∀ {z1 t1 q1}, q1 ≤ i + 3 → rgR x z1 → gN x k0 z' z1 → buR z1 k0 d t1 → PF G N x t1 (MI m 0 i q1 0) → t1.length ≤ 153 + 11 * (7 * (i / 3) + 3 * (i % 3)) + (if i % 3 < 2 then 11 else 0) → gx (qL_map_153 N ih npv d (nI m) (nI i) G z1) Q := fun {z1 t1 q1} hq r1 g1 b1 p1 l1 => by
      unfold qL_map_153
      rw [e3]
      have l3 : t1.length + 11 ≤ 153 + 11 * (7 * (i / 3) + 3 * (i % 3)) + (if i % 3 < 2 then 22 else 11) := by
        by_cases c2 : i % 3 < 2
        · rw [if_pos c2] at l1 ⊢; omega
        · rw [if_neg c2] at l1 ⊢; omega
      by_cases c4 : m ≤ i + 3
      · exact gx_itet ((nI_leI (by omega) (by omega)).mpr c4) (f176 (by omega) r1 g1 b1 p1 (by omega))
      · refine gx_itef (nI_nleE rfl rfl (by omega) (by omega)) (l_bor r1 b1 hx hA hI ?_ (by omega) hi (c := i + 3) (by omega) (by omega) (by omega) hq rfl rfl p1 (fun z2 t2 r2 g2 b2 p2 l2 => f176 (by omega) r2 (g1.tr g2) b2 p2 (by omega)))
        have : (if i % 3 < 2 then 22 else 11) ≤ 22 := by split <;> omega
        omega
    obtain ⟨q2, hq2, _, _, hq3⟩ := b'.sz
    refine gx_itef (nI_nleE (a := m) (b := i) rfl rfl hi (by omega)) (gx_guard (by decide) ?_)
    rw [er, nI_1]
    by_cases c2 : i % 3 < 2
    · refine gx_itef (nI_nleE (a := 2) (b := i % 3) rfl rfl c2 (by omega)) (l_bor r' b' hx hA hI (by omega) (by omega) hi (c := i + 1) (by omega) (by omega) (by omega) (Nat.zero_le _) rfl rfl p' (fun z2 t2 r2 g2 b2 p2 l2 => f153 (by omega) r2 g2 b2 p2 ?_))
      rw [if_pos c2]; omega
    · refine gx_itet ((nI_leI (a := 2) (b := i % 3) (by omega) (by omega)).mpr (by omega)) (f153 (Nat.zero_le _) r' (gN.rf hq2 hq3) b' p' ?_)
      rw [if_neg c2]; omega
  · rintro ih p z' ⟨rfl, r', g', t', b', p', l'⟩
    show gx (bL_map_124 N ih npv d (nI m) (nI m) G z') _
    unfold bL_map_124
    exact gx_itet ((nI_leI (a := m) (b := m) (by omega) (by omega)).mpr (Nat.le_refl _)) (kk z' t' r' g' b' p' (by omega))
/-- the powers; the text is told -/
theorem q_map222 (hm : m = 9 ∨ m = 12) (hnp : np ≤ 3) (hr : rgR x z) (hb : buR z k0 d t) (hx : x + 130 ≤ k0) (hA : G.2.2.1 ≤ x) (hI : osInj G) (hl : t.length ≤ 461) (hp : PF G N x t (MI m 0 m 0 0))
    (kk : ∀ z1 s lo t1, rgR x z1 → gN x k0 z z1 → k0 ≤ lo → stR G lo z1 s t1 → PF G N x t1 (MI m np m 0 0) → t1.length ≤ 485 → Q s z1) : gx (qL_map_222 N (nI np, d, (0 : Int32)) G z) Q := by
  obtain ⟨q0, hq0, _, _, hq1⟩ := hb.sz
  have hA0 : G.2.2.1 ≤ k0 := by omega
  unfold qL_map_222
  refine gx_loop np (fun i p z' => p = (nI np, d, nI i) ∧ rgR x z' ∧ gN x k0 z z' ∧ ∃ t', buR z' k0 d t' ∧ PF G N x t' (MI m i m 0 0) ∧ t'.length ≤ 461 + 8 * i) ?_ ?_ 4 0 _ z (Nat.zero_le _) (by omega) ⟨rfl, hr, gN.rf hq0 hq1, t, hb, hp, by omega⟩
  · rintro ih i p z' hi ⟨rfl, r', g', t', b', p', l'⟩ k
    show gx (bL_map_222 N ih (nI np) d (nI i) G z') _
    unfold bL_map_222
    refine gx_itef (nI_nleE (a := np) (b := i) rfl rfl hi (by omega)) ?_
    have hl6 : (kw_po ++ [32]).length = 6 := rfl
    refine sB_con (u := kw_po ++ [32]) b' hA0 hI (by omega) rfl (asc_of rfl) (by omega) (fun z1 g1 b1 => ?_)
    have hl1 : (t' ++ (kw_po ++ [32])).length = t'.length + 6 := by rw [List.length_append, hl6]
    refine tB_chr2 b1 hA0 hI (by omega) rfl (by omega) (fun z2 g2 b2 => ?_)
    have hl2 : (t' ++ (kw_po ++ [32]) ++ [97 + (15 + i)]).length = t'.length + 7 := by rw [List.length_append, hl1]; rfl
    refine sB_chr (c := 59) b2 hA0 hI (by omega) (by omega) (fun z3 g3 b3 => ?_)
    have hl3 : (t' ++ (kw_po ++ [32]) ++ [97 + (15 + i)] ++ [59]).length = t'.length + 8 := by rw [List.length_append, hl2]; rfl
    have e : t' ++ (kw_po ++ [32]) ++ [97 + (15 + i)] ++ [59] = t' ++ ((kw_po ++ [32, 97 + (15 + i)]) ++ [59]) := by simp
    rw [e] at b3 hl3
    have g := g1.tr (g2.tr g3)
    rw [nI_1]
    exact k _ _ ⟨rfl, r'.gr g hx, g'.tr (gN.gr g (Nat.le_refl _)), _, b3, PF_step p' (SR_power (by omega) (by omega)), by omega⟩
  · rintro ih p z' ⟨rfl, r', g', t', b', p', l'⟩
    show gx (bL_map_222 N ih (nI np) d (nI np) G z') _
    unfold bL_map_222
    refine gx_itet ((nI_leI (a := np) (b := np) (by omega) (by omega)).mpr (Nat.le_refl _)) (sB_out b' hA0 hI (by omega) (by omega) (fun z1 s k1 e1 g1 _ hs => gx_ret (kk z1 s k1 t' (r'.gr g1 hx) (g'.tr (gN.gr g1 (Nat.le_refl _))) ?_ hs p' (by omega))))
    obtain ⟨q2, hq2, _, _, hq3⟩ := b'.sz
    rw [e1] at hq2
    cases hq2
    exact hq3
/-- a map's text -/
theorem q_L_map {rows : Nat} (e : z.2 = some k) (hk : x + 130 ≤ k) (hr : rgR x z) (hA : G.2.2.1 ≤ x) (hI : osInj G) (hm : rows = 3 ∨ rows = 4) (hnp : np ≤ 3)
    (kk : ∀ z1 s lo t1, rgR x z1 → gN x k z z1 → k ≤ lo → stR G lo z1 s t1 → PF G N x t1 (MI (3 * rows) np (3 * rows) 0 0) → t1.length ≤ 485 → Q s z1) : gx (qL_map N (x + 129) (nI rows) (nI np) G z) Q := by
  unfold qL_map
  refine sB_new e (by omega) (fun z1 g1 b1 => ?_)
  rw [show (3 : Int32) * nI rows = nI (3 * rows) from nI_prod (a := 3) (b := rows) rfl rfl]
  have g1' : gN x k z z1 := gN.gr g1 (Nat.le_refl _)
  exact q_map16 (by omega) (hr.gr g1 hk) b1 hk hA hI (fun z2 t2 r2 g2 b2 p2 l2 => q_map124 (by omega) r2 b2 hk hA hI l2 p2 (fun z3 t3 r3 g3 b3 p3 l3 => q_map222 (by omega) hnp r3 b3 hk hA hI l3 p3 (fun z4 s lo t4 r4 g4 hlo hs p4 l4 => kk z4 s lo t4 r4 (g1'.tr (g2.tr (g3.tr g4))) hlo hs p4 l4)))
end
