/-! the law's own steps (19): five turns -/
section
variable {G : osG} {z : osS} {N L x n np T : Nat} {xs : Nat → Int32} {ad : Nat → Nat} {W : Nat → Nat → Nat → Int32} {Q : Int32 → osS → Prop} {l4 : Int32} {c34 : Nat × Nat × Int32 × Int32 → osM Int32}
theorem l_222 {j : Nat} {c168 : Nat × Nat × Int32 × Int32 × Int32 → osM Int32} (h : LW z x ad W n np T) (ph : ¬ W 3 0 0 = 1) (hnm : nmB (W 1) n) (h12 : n ≤ 12) (h1 : 0 < n) (hT : T < 4400) (hI : osInj G) (hA : G.2.2.1 ≤ x) (hN : 5000 < N)
    (kk : ∀ z' ad' W', LW z' x ad' W' n np (T + 1) → W' 1 = W 1 → W' 3 0 0 = 0 → gx (c168 (x, x + 129, (1 : Int32), l4, nI (j + 1)) G z') Q) : gx (qL_law_222 N L xs c34 c168 x (x + 129) (1 : Int32) l4 (nI j) G z) Q := by
  have fin : ∀ {z' ad' W'}, LW z' x ad' W' n np (T + 1) → W' 1 = W 1 → W' 3 0 0 = 0 → gx (qL_law_240 N L xs c34 c168 x (x + 129) (1 : Int32) l4 (nI j) G z') Q := fun {z' ad' W'} h' e1 p' => by
    unfold qL_law_240 qL_law_256
    refine gx_itef (by decide) (l_phase h'.w (gx_itet p' ?_))
    rw [nI_1]
    exact kk z' ad' W' h' e1 p'
  unfold qL_law_222
  refine gx_itef (by decide) (l_phase h.w (gx_ite (fun c => ?_) (fun c => fin (h.up (Nat.le_succ T)) rfl ?_)))
  · exact gx_bind (q_L_builds h c hnm h12 h1 (by omega) hI hA hN (fun z2 ad2 W2 h2 e2 p2 => fin h2 e2 p2))
  · rcases h.i.i.ph with q | q | q
    · exact q
    · exact absurd q ph
    · exact absurd q c
/-- five turns -/
theorem l_168 (h : LW z x ad W n np T) (ph : W 3 0 0 = 0) (hnm : nmB (W 1) n) (h12 : n ≤ 12) (h1 : 0 < n) (hT : T < 3000) (hI : osInj G) (hA : G.2.2.1 ≤ x) (hN : 5000 < N)
    (kk : ∀ z' ad' W', LW z' x ad' W' n np (T + 20) → gx (qL_law_263 N L xs c34 x (x + 129) (1 : Int32) l4 G z') Q) : gx (qL_law_168 N L xs c34 (x, x + 129, (1 : Int32), l4, (0 : Int32)) G z) Q := by
  unfold qL_law_168
  refine gx_loop 5 (fun j p z' => p = (x, x + 129, (1 : Int32), l4, nI j) ∧ ∃ ad' W', LW z' x ad' W' n np (T + 4 * j) ∧ W' 1 = W 1 ∧ W' 3 0 0 = 0) ?_ ?_ 6 0 _ z (Nat.zero_le _) (by omega) ⟨rfl, ad, W, h, rfl, ph⟩
  · rintro ih j p z' hj ⟨rfl, ad', W', h', e1, p1⟩ kc
    show gx (bL_law_168 N L xs c34 ih x (x + 129) (1 : Int32) l4 (nI j) G z') _
    unfold bL_law_168 qL_law_203
    refine gx_itef (nI_nleE (a := 5) (b := j) rfl rfl (by omega) (by omega)) (gx_itef (by decide) (gx_bind (q_L_orders h' p1 h12 hI hA hN (fun z2 ad2 W2 m hm f2 h2 k2 p2 => gx_itef (nI_pos (by omega)) (gx_bind (q_L_settles h2 p2 h12 (by omega) hA hN (fun z3 ad3 W3 h3 e3 s3 r3 => gx_itef (by decide) (gx_itef (by decide) (l_phase h3.w (gx_ite (fun c => ?_) (fun c => ?_)))))))))))
    · have e31 : W3 1 = W 1 := e3.trans (k2.1.trans e1)
      refine gx_bind (q_L_retreats h3 c (by rw [e31]; exact hnm.1) h12 (by omega) s3 r3 hI hA hN (fun z4 ad4 W4 h4 e4 p4 => ?_))
      exact l_222 h4 p4 (by rw [e4, e31]; exact hnm) h12 h1 (by omega) hI hA hN (fun z5 ad5 W5 h5 e5 p5 => kc _ _ ⟨rfl, ad5, W5, h5, e5.trans (e4.trans e31), p5⟩)
    · have e31 : W3 1 = W 1 := e3.trans (k2.1.trans e1)
      exact l_222 h3 c (by rw [e31]; exact hnm) h12 h1 (by omega) hI hA hN (fun z5 ad5 W5 h5 e5 p5 => kc _ _ ⟨rfl, ad5, W5, h5.up (by omega), e5.trans e31, p5⟩)
  · rintro ih p z' ⟨rfl, ad', W', h', e1, p1⟩
    show gx (bL_law_168 N L xs c34 ih x (x + 129) (1 : Int32) l4 (nI 5) G z') _
    unfold bL_law_168
    exact gx_itet ((nI_leI (a := 5) (b := 5) (by omega) (by omega)).mpr (Nat.le_refl _)) (kk z' ad' W' h')
end
