/-! load, in both (by program) -/
section
variable {G : osG} {α : Type} {N m n : Nat} {M : Nat → Nat → Int32} {D : Nat → Nat → Int64}
theorem ux_aJ {Q : α → (Nat → Nat → Int32) → (Nat → Nat → Int64) → Prop} {a n i : Nat} {x : Int32} {g : Nat → Int64} {f : Int64 → osM α} (h : ∀ z, rX10 z m M D → z.1 a = some (.inl (2, (n, .inr (.inl g))))) (e : x = nI i) (hi : i < n) (hn : n < 2 ^ 31) (kk : ux G m (f (g i)) M D Q) : ux G m (osbind (osaJ 2 a x) f) M D Q := ux_st (fun z hz R k => gx_aEJ (h z hz) e hi hn k) kk
theorem ux_s1 {Q : α → (Nat → Nat → Int32) → (Nat → Nat → Int64) → Prop} (hA : G.2.2.1 ≤ m) {i : Nat} {x v : Int32} {f : Unit → osM α} (e : x = nI i) (hi : i < 98) (k : ux G m (f ()) (cset M 1 (upd (M 1) i v)) D Q) : ux G m (osbind (ossI 0 (m + 1) x v) f) M D Q := ux_w (fun z hz R kk => hz.s1 e hi hA kk) k
theorem ux_s6 {Q : α → (Nat → Nat → Int32) → (Nat → Nat → Int64) → Prop} (hA : G.2.2.1 ≤ m) {i : Nat} {x : Int32} {v : Int64} {f : Unit → osM α} (e : x = nI i) (hi : i < 20) (k : ux G m (f ()) M (cset D 6 (vp_updL (D 6) i v)) Q) : ux G m (osbind (ossJ 2 (m + 6) x v) f) M D Q := ux_w (fun z hz R kk => hz.s6 e hi hA kk) k
theorem ux_p8 {Q : α → (Nat → Nat → Int32) → (Nat → Nat → Int64) → Prop} (hA : G.2.2.1 ≤ m) {v : Int32} {f : Unit → osM α} (k : ux G m (f ()) (cset M 8 fun _ => v) D Q) : ux G m (osbind (osput [8] 8 m (.int v)) f) M D Q := ux_w (fun z hz R kk => hz.p8 (by decide) hA kk) k
theorem ux_clears {Q : Unit → (Nat → Nat → Int32) → (Nat → Nat → Int64) → Prop} (hA : G.2.2.1 ≤ m) (hN : 5000 < N) (kk : ∀ M' g, (∀ k, ¬ k = 2 → ¬ k = 4 → M' k = M k) → (∀ j, j < 98 → M' 2 j = clM j) → M' 4 = holdF g → (∀ j, j < 261 → g j = clD j) → Q () M' D) : ux G m (qX10_clears N m) M D Q := by
  unfold qX10_clears qX10_clears_2
  refine ux_loop 98 (fun i p M' D' => p = (m, nI i) ∧ D' = D ∧ (∀ k, ¬ k = 2 → M' k = M k) ∧ ∀ j, j < i → M' 2 j = 0) ?_ ?_ N 0 _ M D (Nat.zero_le _) (by omega) ⟨rfl, rfl, fun _ _ => rfl, fun j hj => absurd hj (Nat.not_lt_zero j)⟩
  · rintro ih i p M' D' hi ⟨rfl, rfl, er, e2⟩ k
    show ux G m (bX10_clears_2 N ih m (nI i)) M' D' _
    unfold bX10_clears_2
    refine ux_itef (nI_ge (a := i) (b := 98) hi (by omega)) (ux_gR rfl (ux_s2 (i := i) hA rfl hi (k _ _ _ ⟨congrArg (fun t => (_, t)) (nI_sum (b := 1) rfl rfl), rfl, fun r hr => ?_, fun j hj => ?_⟩)))
    · rw [cset_ne hr]; exact er r hr
    · show (if j = i then (0 : Int32) else M' 2 j) = 0
      by_cases q : j = i
      · rw [if_pos q]
      · rw [if_neg q]; exact e2 j (by omega)
  · rintro ih p M1 D1 ⟨rfl, rfl, er1, e21⟩
    show ux G m (bX10_clears_2 N ih m (nI 98)) M1 D1 _
    unfold bX10_clears_2 qX10_clears_23
    refine ux_itet (by decide) ?_
    refine ux_loop 261 (fun i p M' D' => p = (m, nI i) ∧ D' = D1 ∧ (∀ k, ¬ k = 4 → M' k = M1 k) ∧ ∀ j, j < i → M' 4 j = 0) ?_ ?_ N 0 _ M1 D1 (Nat.zero_le _) (by omega) ⟨rfl, rfl, fun _ _ => rfl, fun j hj => absurd hj (Nat.not_lt_zero j)⟩
    · rintro ih i p M' D' hi ⟨rfl, rfl, er, e2⟩ k
      show ux G m (bX10_clears_23 N ih m (nI i)) M' D' _
      unfold bX10_clears_23
      refine ux_itef (nI_ge (a := i) (b := 261) hi (by omega)) (ux_gR rfl (ux_s4 (i := i) hA rfl hi (k _ _ _ ⟨congrArg (fun t => (_, t)) (nI_sum (b := 1) rfl rfl), rfl, fun r hr => ?_, fun j hj => ?_⟩)))
      · rw [cset_ne hr]; exact er r hr
      · show (if j = i then (0 : Int32) else M' 4 j) = 0
        by_cases q : j = i
        · rw [if_pos q]
        · rw [if_neg q]; exact e2 j (by omega)
    · rintro ih p M2 D2 ⟨rfl, rfl, er2, e42⟩
      show ux G m (bX10_clears_23 N ih m (nI 261)) M2 D2 _
      unfold bX10_clears_23 qX10_clears_52
      refine ux_itet (by decide) (ux_gR rfl (ux_s4 (i := 1) hA rfl (by omega) ?_))
      refine ux_loop 16 (fun i p M' D' => p = (m, nI i) ∧ D' = D2 ∧ (∀ k, ¬ k = 2 → ¬ k = 4 → M' k = M k) ∧ (∀ j, j < 98 → M' 2 j = if 34 ≤ j ∧ j < 34 + i then -1 else 0) ∧ ∀ j, j < 261 → M' 4 j = if j = 1 then 1 else if 5 ≤ j ∧ j < 5 + i ∨ 21 ≤ j ∧ j < 21 + i ∨ 53 ≤ j ∧ j < 53 + i ∨ 85 ≤ j ∧ j < 85 + i ∨ 101 ≤ j ∧ j < 101 + i then -1 else 0) ?_ ?_ N 0 _ _ D2 (Nat.zero_le _) (by omega) ⟨rfl, rfl, fun k q2 q4 => ?_, fun j hj => ?_, fun j hj => ?_⟩
      · rintro ih i p M' D' hi ⟨rfl, rfl, er, e2, e4⟩ k
        show ux G m (bX10_clears_52 N ih m (nI i)) M' D' _
        unfold bX10_clears_52
        refine ux_itef (nI_ge (a := i) (b := 16) hi (by omega)) (ux_gR rfl (ux_s2 hA (nI_sum (a := 34) (b := i) rfl rfl) (by omega) (ux_gR rfl (ux_s4 hA (nI_sum (a := 5) (b := i) rfl rfl) (by omega) (ux_gR rfl (ux_s4 hA (nI_sum (a := 21) (b := i) rfl rfl) (by omega) (ux_gR rfl (ux_s4 hA (nI_sum (a := 53) (b := i) rfl rfl) (by omega) (ux_gR rfl (ux_s4 hA (nI_sum (a := 85) (b := i) rfl rfl) (by omega) (ux_gR rfl (ux_s4 hA (nI_sum (a := 101) (b := i) rfl rfl) (by omega) (k _ _ _ ⟨congrArg (fun t => (_, t)) (nI_sum (b := 1) rfl rfl), rfl, fun r q2 q4 => ?_, fun j hj => ?_, fun j hj => ?_⟩)))))))))))))
        · rw [cset_ne q4, cset_ne q4, cset_ne q4, cset_ne q4, cset_ne q4, cset_ne q2]; exact er r q2 q4
        · show (if j = 34 + i then (-1 : Int32) else M' 2 j) = _
          rw [e2 j hj]
          by_cases q : j = 34 + i
          · rw [if_pos q, if_pos (by omega)]
          · rw [if_neg q]
            by_cases q2 : 34 ≤ j ∧ j < 34 + i
            · rw [if_pos q2, if_pos (by omega)]
            · rw [if_neg q2, if_neg (by omega)]
        · show (if j = 101 + i then (-1 : Int32) else if j = 85 + i then -1 else if j = 53 + i then -1 else if j = 21 + i then -1 else if j = 5 + i then -1 else M' 4 j) = _
          rw [e4 j hj]
          by_cases q : j = 101 + i ∨ j = 85 + i ∨ j = 53 + i ∨ j = 21 + i ∨ j = 5 + i
          · rw [if_neg (show ¬ j = 1 by omega), if_neg (show ¬ j = 1 by omega), if_pos (show 5 ≤ j ∧ j < 5 + (i + 1) ∨ 21 ≤ j ∧ j < 21 + (i + 1) ∨ 53 ≤ j ∧ j < 53 + (i + 1) ∨ 85 ≤ j ∧ j < 85 + (i + 1) ∨ 101 ≤ j ∧ j < 101 + (i + 1) by omega)]
            split
            · rfl
            · split
              · rfl
              · split
                · rfl
                · split
                  · rfl
                  · rw [if_pos (by omega)]
          · rw [if_neg (by omega), if_neg (by omega), if_neg (by omega), if_neg (by omega), if_neg (by omega)]
            by_cases q1 : j = 1
            · rw [if_pos q1, if_pos q1]
            · rw [if_neg q1, if_neg q1]
              by_cases q2 : 5 ≤ j ∧ j < 5 + i ∨ 21 ≤ j ∧ j < 21 + i ∨ 53 ≤ j ∧ j < 53 + i ∨ 85 ≤ j ∧ j < 85 + i ∨ 101 ≤ j ∧ j < 101 + i
              · rw [if_pos q2, if_pos (by omega)]
              · rw [if_neg q2, if_neg (by omega)]
      · rintro ih p M4 D4 ⟨rfl, rfl, er4, e2, e4⟩
        show ux G m (bX10_clears_52 N ih m (nI 16)) M4 D4 _
        unfold bX10_clears_52
        refine ux_itet (by decide) (ux_gR rfl (ux_bind (ux_of (r := ()) (M1 := cset M4 4 (holdF (M4 4))) (D1 := D4) (fun z hz => gx_mono (q_X10_allHold hz.a4 (by omega) (by omega)) (fun _ z5 ⟨f5, h5⟩ => ⟨rfl, f5.wide (by omega) (by omega), hz.row4 f5 h5⟩)) (ux_ret (kk _ (M4 4) (fun k q2 q4 => ?_) (fun j hj => ?_) rfl (fun j hj => ?_))))))
        · rw [cset_ne q4]; exact er4 k q2 q4
        · show M4 2 j = _
          rw [e2 j hj]; rfl
        · rw [e4 j hj]
          unfold clD
          by_cases q1 : j = 1
          · rw [if_pos q1, if_pos q1]
          · rw [if_neg q1, if_neg q1]
            by_cases q2 : 5 ≤ j ∧ j < 37 ∨ 53 ≤ j ∧ j < 69 ∨ 85 ≤ j ∧ j < 117
            · rw [if_pos q2, if_pos (by omega)]
            · rw [if_neg q2, if_neg (by omega)]
      · rw [cset_ne q4, er2 k q4]; exact er1 k q2
      · show M2 2 j = _
        rw [er2 2 (by omega), e21 j hj, if_neg (by omega)]
      · show (if j = 1 then (1 : Int32) else M2 4 j) = _
        by_cases q1 : j = 1
        · rw [if_pos q1, if_pos q1]
        · rw [if_neg q1, if_neg q1, e42 j hj, if_neg (by omega)]
theorem ux_settles {Q : Unit → (Nat → Nat → Int32) → (Nat → Nat → Int64) → Prop} (hA : G.2.2.1 ≤ m) (hN : 5000 < N) (kk : ∀ M' D', (∀ k, ¬ k = 1 → ¬ k = 3 → ¬ k = 8 → M' k = M k) → (∀ j, j < 98 → M' 1 j = M 2 j) → (∀ j, j < 261 → M' 3 j = M 4 j) → M' 8 0 = 0 → (∀ k, ¬ k = 6 → D' k = D k) → (∀ j, j < 20 → D' 6 j = D 7 j) → Q () M' D') : ux G m (qX10_settles N m) M D Q := by
  unfold qX10_settles qX10_settles_2
  refine ux_loop 98 (fun i p M' D' => p = (m, nI i) ∧ D' = D ∧ (∀ k, ¬ k = 1 → M' k = M k) ∧ ∀ j, j < i → M' 1 j = M 2 j) ?_ ?_ N 0 _ M D (Nat.zero_le _) (by omega) ⟨rfl, rfl, fun _ _ => rfl, fun j hj => absurd hj (Nat.not_lt_zero j)⟩
  · rintro ih i p M' D' hi ⟨rfl, rfl, er, e1⟩ k
    show ux G m (bX10_settles_2 N ih m (nI i)) M' D' _
    unfold bX10_settles_2
    refine ux_itef (nI_ge (a := i) (b := 98) hi (by omega)) (ux_gR rfl (ux_gR rfl (ux_a (i := i) (fun z hz => hz.a2) rfl hi (by omega) (ux_s1 (i := i) hA rfl hi (k _ _ _ ⟨congrArg (fun t => (_, t)) (nI_sum (b := 1) rfl rfl), rfl, fun r hr => ?_, fun j hj => ?_⟩)))))
    · rw [cset_ne hr]; exact er r hr
    · show (if j = i then M' 2 i else M' 1 j) = _
      by_cases q : j = i
      · rw [if_pos q, er 2 (by omega), q]
      · rw [if_neg q]; exact e1 j (by omega)
  · rintro ih p M1 D1 ⟨rfl, rfl, er1, e1⟩
    show ux G m (bX10_settles_2 N ih m (nI 98)) M1 D1 _
    unfold bX10_settles_2 qX10_settles_28
    refine ux_itet (by decide) ?_
    refine ux_loop 20 (fun i p M' D' => p = (m, nI i) ∧ M' = M1 ∧ (∀ k, ¬ k = 6 → D' k = D1 k) ∧ ∀ j, j < i → D' 6 j = D1 7 j) ?_ ?_ N 0 _ M1 D1 (Nat.zero_le _) (by omega) ⟨rfl, rfl, fun _ _ => rfl, fun j hj => absurd hj (Nat.not_lt_zero j)⟩
    · rintro ih i p M' D' hi ⟨rfl, rfl, er, e6⟩ k
      show ux G m (bX10_settles_28 N ih m (nI i)) M' D' _
      unfold bX10_settles_28
      refine ux_itef (nI_ge (a := i) (b := 20) hi (by omega)) (ux_gR rfl (ux_gR rfl (ux_aJ (i := i) (fun z hz => hz.a7) rfl hi (by omega) (ux_s6 (i := i) hA rfl hi (k _ _ _ ⟨congrArg (fun t => (_, t)) (nI_sum (b := 1) rfl rfl), rfl, fun r hr => ?_, fun j hj => ?_⟩)))))
      · rw [cset_ne hr]; exact er r hr
      · show vp_updL (D' 6) i (D' 7 i) j = _
        by_cases q : j = i
        · subst q; rw [updL_eq, er 7 (by omega)]
        · rw [vL_ne q]; exact e6 j (by omega)
    · rintro ih p M2 D2 ⟨rfl, rfl, er2, e62⟩
      show ux G m (bX10_settles_28 N ih m (nI 20)) M2 D2 _
      unfold bX10_settles_28
      refine ux_itet (by decide) (ux_call (ux_takesDraft hA hN (fun M3 t3 r3 => ux_p8 hA (ux_ret (kk _ D2 (fun k k1 k3 k8 => ?_) (fun j hj => ?_) (fun j hj => ?_) rfl er2 e62)))))
      · rw [cset_ne k8, r3 k k3]; exact er1 k k1
      · show M3 1 j = _
        rw [r3 1 (by omega)]; exact e1 j hj
      · show M3 3 j = _
        rw [t3 j hj, er1 4 (by omega)]
end
section
variable {C S : Nat → Nat → Int32}
theorem bc_at : ∀ (i : Nat), (∀ k, ¬ (k = 6 ∨ k = 7 ∨ k = 8) → osit (fun a W => stBC a W) 0 i C k = C k) ∧ ∀ a, a < i → osit (fun a W => stBC a W) 0 i C 6 a = -1 ∧ osit (fun a W => stBC a W) 0 i C 7 a = 0 ∧ osit (fun a W => stBC a W) 0 i C 8 a = 0
  | 0 => ⟨fun _ _ => rfl, fun a ha => absurd ha (Nat.not_lt_zero a)⟩
  | i + 1 => by
    obtain ⟨h1, h2⟩ := bc_at i
    rw [osit_last, Nat.zero_add]
    generalize osit (fun a W => stBC a W) 0 i C = X at h1 h2 ⊢
    refine ⟨fun k hk => ?_, fun a ha => ?_⟩
    · show stBC i X k = _
      unfold stBC
      rw [cset_ne (by omega), cset_ne (by omega), cset_ne (by omega)]; exact h1 k hk
    · show upd (X 6) i (-1) a = -1 ∧ upd (X 7) i 0 a = 0 ∧ upd (X 8) i 0 a = 0
      by_cases e : a = i
      · subst e; exact ⟨upd_eq, upd_eq, upd_eq⟩
      · rw [upd_ne e, upd_ne e, upd_ne e]; exact h2 a (by omega)
theorem bclr_at : bclr C 0 0 = 0 ∧ bclr C 1 0 = 0 ∧ bclr C 2 0 = 0 ∧ bclr C 3 0 = 0 ∧ bclr C 4 0 = 0 ∧ ∀ a, a < 16 → bclr C 6 a = -1 ∧ bclr C 7 a = 0 ∧ bclr C 8 a = 0 := by
  unfold bclr
  obtain ⟨h1, h2⟩ := bc_at (C := bclr0 C) 16
  rw [h1 0 (by omega), h1 1 (by omega), h1 2 (by omega), h1 3 (by omega), h1 4 (by omega)]
  exact ⟨rfl, rfl, rfl, rfl, rfl, h2⟩
theorem sclr_at : sclr S 0 0 = 0 ∧ sclr S 1 0 = 1 ∧ sclr S 2 0 = 0 ∧ sclr S 3 0 = 0 ∧ sclr S 4 0 = 0 ∧ (∀ a, a < 16 → sclr S 5 a = -1 ∧ sclr S 6 a = -1 ∧ sclr S 7 a = -1 ∧ sclr S 8 a = -1 ∧ sclr S 9 a = -1 ∧ sclr S 10 a = -1 ∧ sclr S 11 a = -1 ∧ sclr S 12 a = 0 ∧ sclr S 13 a = -1 ∧ sclr S 14 a = -1) ∧ ∀ j, j < 96 → sclr S 15 j = 0 := by
  unfold sclr
  rw [cf_HA, cf_CD, cf_CU, cf_SR, cf_SO]
  refine ⟨rfl, rfl, rfl, rfl, rfl, fun a ha => ⟨?_, ?_, ?_, ?_, ?_, ?_, ?_, ?_, ?_, ?_⟩, fun j hj => ?_⟩
  · exact fl_in (g := fun _ => -1) ha
  · exact fl_in (g := fun _ => -1) ha
  · exact fl_in (g := fun _ => -1) ha
  · exact fl_in (g := fun _ => -1) ha
  · exact fl_in (g := fun _ => -1) ha
  · exact fl_in (g := fun _ => -1) ha
  · exact fl_in (g := fun _ => -1) ha
  · exact fl_in (g := fun _ => 0) ha
  · exact fl_in (g := fun _ => -1) ha
  · exact fl_in (g := fun _ => -1) ha
  · exact fl_in (g := fun _ => 0) hj
theorem QM_0 {g g4 f : Nat → Int32} {d : Nat → Int64} (h2 : ∀ j, j < 98 → g j = clM j) (h4 : g4 = holdF f) (hf : ∀ j, j < 261 → f j = clD j) : QM (bclr C) (sclr S) g d g4 0 0 := by
  obtain ⟨b0, b1, b2, b3, b4, br⟩ := bclr_at (C := C)
  obtain ⟨s0, s1, s2, s3, s4, sr, s15⟩ := sclr_at (S := S)
  have m0 : ∀ j, j < 98 → ¬ (34 ≤ j ∧ j < 50) → g j = 0 := fun j hj hn => by rw [h2 j hj]; unfold clM; rw [if_neg hn]
  have gx4 : ∀ j, j < 261 → g4 j = if 117 ≤ j ∧ j < 133 then 0 else if 133 ≤ j ∧ j < 165 then -1 else clD j := fun j hj => by rw [h4, holdF_at, hf j hj]
  have g0 : ∀ j, j < 261 → ¬ j = 1 → ¬ (5 ≤ j ∧ j < 37 ∨ 53 ≤ j ∧ j < 69 ∨ 85 ≤ j ∧ j < 117) → ¬ (133 ≤ j ∧ j < 165) → g4 j = 0 := fun j hj h1 hn h3 => by
    rw [gx4 j hj]
    by_cases q : 117 ≤ j ∧ j < 133
    · rw [if_pos q]
    · rw [if_neg q, if_neg h3]
      unfold clD; rw [if_neg h1, if_neg hn]
  have g1 : ∀ j, j < 261 → ¬ j = 1 → (5 ≤ j ∧ j < 37 ∨ 53 ≤ j ∧ j < 69 ∨ 85 ≤ j ∧ j < 117) ∨ (133 ≤ j ∧ j < 165) → g4 j = -1 := fun j hj h1 hn => by
    rw [gx4 j hj, if_neg (by omega)]
    by_cases q : 133 ≤ j ∧ j < 165
    · rw [if_pos q]
    · rw [if_neg q]
      unfold clD; rw [if_neg h1, if_pos (by omega)]
  have huu : ∀ a, a < 16 → uu (sclr S) a = false := fun a ha => by unfold uu; rw [(sr a ha).2.1]; rfl
  have hds : ∀ a, a < 16 → ds (sclr S) a = false := fun a ha => by unfold ds; rw [(sr a ha).2.2.2.1]; rfl
  refine ⟨⟨⟨by omega, by omega, b0, m0 0 (by omega) (by omega), b1, m0 1 (by omega) (by omega)⟩, fun a ha => ?_, fun a ha => absurd ha (Nat.not_lt_zero a), fun p hp => absurd hp (Nat.not_lt_zero p), fun j hj => ?_, fun a c ha hc q => ?_, fun a ha q => ?_⟩, fun a ha => ?_, ⟨⟨?_, ?_, ?_, ?_, ?_⟩, fun a ha => ?_, fun a ha q => ?_, fun a ha q => ?_, fun a w ha hw => ?_⟩, ⟨s0, s1, s2, fun a ha => ?_⟩, fun a ha q => ?_, fun a ha _ => (sr a ha).2.2.1, fun a ha => ?_, ?_⟩
  · obtain ⟨r6, r7, r8⟩ := br a ha
    show g (66 + a) = _ ∧ g (82 + a) = _ ∧ g (34 + a) = _ ∧ g (2 + a) = _ ∧ g (18 + a) = _
    rw [m0 (66 + a) (by omega) (by omega), m0 (82 + a) (by omega) (by omega), m0 (2 + a) (by omega) (by omega), m0 (18 + a) (by omega) (by omega), r6, r7, r8, b4, b_0]
    refine ⟨rfl, rfl, ?_, ?_, rfl⟩
    · rw [h2 (34 + a) (by omega)]; unfold clM; rw [if_pos (by omega)]
    · unfold kdOf; rw [b3, b2, b_0, if_neg (by decide), if_neg (by decide)]
  · rw [b2, b3, b4, b_0]
    exact ⟨fun q => (by rcases q with q | q | q <;> cases q), fun _ => rfl⟩
  · obtain ⟨r6, r7, r8⟩ := br a ha
    rw [r7, r8, b_0] at q
    rcases q with q | q <;> cases q
  · exact absurd (br a ha).1 q
  · obtain ⟨r6, r7, r8⟩ := br a ha
    rw [r7, r8, m0 (50 + a) (by omega) (by omega)]; rfl
  · rw [g0 0 (by omega) (by omega) (by omega) (by omega), s0]
  · rw [gx4 1 (by omega), if_neg (by omega), if_neg (by omega), s1]; rfl
  · rw [g0 2 (by omega) (by omega) (by omega) (by omega), s2]
  · rw [g0 3 (by omega) (by omega) (by omega) (by omega), s3]
  · rw [g0 4 (by omega) (by omega) (by omega) (by omega), s4]
  · obtain ⟨r5, r6, r7, r8, r9, r10, r11, r12, r13, r14⟩ := sr a ha
    rw [r5, r6, r8, r11, r12, r13, r14, g1 (5 + a) (by omega) (by omega) (by omega), g1 (21 + a) (by omega) (by omega) (by omega), g1 (53 + a) (by omega) (by omega) (by omega), g1 (101 + a) (by omega) (by omega) (by omega), g0 (117 + a) (by omega) (by omega) (by omega) (by omega), g1 (133 + a) (by omega) (by omega) (by omega), g1 (149 + a) (by omega) (by omega) (by omega)]
    exact ⟨rfl, rfl, rfl, rfl, rfl, rfl, rfl⟩
  · rw [huu a ha] at q; cases q
  · rw [hds a ha] at q; cases q
  · rw [s15 _ (by omega), g0 (165 + 6 * a + w) (by omega) (by omega) (by omega) (by omega)]
  · obtain ⟨r5, r6, r7, r8, r9, r10, r11, r12, r13, r14⟩ := sr a ha
    exact ⟨r8, r9, r11, r12, r13, r14⟩
  · rw [huu a ha] at q; cases q
  · rw [(sr a ha).1, (br a ha).1]
  · rw [nu_uu, fb_ct_zero.mpr huu]; omega
theorem cpM_pt {g : Nat → Int32} {d : Nat → Int64} {M : Nat → Nat → Int32} {D : Nat → Nat → Int64} {n np : Nat} (h : cpM C (fun _ => g) (fun _ => d) n np) (h1 : ∀ j, j < 98 → M 1 j = g j) (h6 : ∀ j, j < 20 → D 6 j = d j) : cpM C M D n np := by
  obtain ⟨⟨a1, a2, a3, a4, a5, a6⟩, b1, b2, b3, b4, b5, b6⟩ := h
  refine ⟨⟨a1, a2, a3, by rw [h1 0 (by omega)]; exact a4, a5, by rw [h1 1 (by omega)]; exact a6⟩, fun a ha => ?_, fun a ha => ?_, fun p hp => ?_, b4, b5, b6⟩
  · rw [h1 (66 + a) (by omega), h1 (82 + a) (by omega), h1 (34 + a) (by omega), h1 (2 + a) (by omega), h1 (18 + a) (by omega)]
    exact b1 a ha
  · rw [h6 a (by omega)]; exact b2 a ha
  · rw [h6 (16 + p) (by omega)]; exact b3 p hp
end
def sbA (ad : Nat → Nat) (k : Nat) : Nat := if k = 0 then ad 1 else if k = 1 then ad 0 else ad k
def sbW (W : Nat → Nat → Nat → Int32) (k : Nat) : Nat → Nat → Int32 := if k = 1 then W 2 else if k = 2 then W 1 else W k
section
variable {α : Type} {G : osG} {z : osS} {N x n np T L : Nat} {ad : Nat → Nat} {W : Nat → Nat → Nat → Int32} {D D' : Nat → Nat → Int64} {b : Nat → Nat} {M0 M B S : Nat → Nat → Int32} {v : Int32}
theorem sbA_p {i : Nat} : sbA ad (2 + i) = ad (2 + i) := by unfold sbA; rw [if_neg (by omega), if_neg (by omega)]
theorem gx_swap {Q : α → osS → Prop} {f : Unit → osM α} (hw : WD z x ad W D) (hA : G.2.2.1 ≤ x) (k : ∀ z', WD z' x (sbA ad) (sbW W) D → gx (f () G z') Q) : gx (osbind (osgR [7] 11 x) (fun x7 => osbind (osgR [7] 10 x) fun x8 => osbind (osput [7] 11 x (.ref x8)) fun _ => osbind (osput [7] 10 x (.ref x7)) f) G z) Q := by
  refine gx_gR hw.x9.o (by decide) rfl (gx_gR hw.x9.o (by decide) rfl (hw.x9.p11 (by decide) hA (fun z1 f1 h1 => h1.p10 (by decide) hA (fun z2 f2 h2 => k z2 ?_))))
  have fr := f1.tr f2
  obtain ⟨ha, hz, ⟨h9, h4, h1', h2', hb, hs, hn, hdr, ⟨f, hp, hp2⟩, hpa, ⟨t3, A3, D3, h3⟩, t7, A7, D7, h7⟩, hr, ho⟩ := hw
  have hb9 := ha.b
  have hs9 := ha.s
  refine ⟨⟨?_, ha.2.1, fun i hi => ?_, fun i j hi hj e => ?_⟩, fr.2.trans hz, ⟨h2, h4.keep fr (by omega), h1'.keep fr (by omega), h2'.keep fr (by omega), (show rX0 _ (ad 1) (W 2) from hs.keep fr (by omega)), (show rX0 _ (ad 0) (W 1) from hb.keep fr (by omega)), (show rX5 _ (ad 2) (W 3) from hn.keep fr (by omega)), (show rX5 _ (ad 3) (W 4) from hdr.keep fr (by omega)), ⟨f, fr.at (by omega) hp, fun i hi => ?_⟩, fun i hi => ?_, ⟨t3, A3, D3, h3.keep fr (by omega)⟩, t7, A7, D7, h7.keep fr (by omega)⟩, hr.keep fr (by omega), ho.keep fr (by omega)⟩
  · show (ad 1 = x + 21 ∧ ad 0 = x + 27) ∨ (ad 1 = x + 27 ∧ ad 0 = x + 21)
    omega
  · rw [show 4 + i = 2 + (2 + i) by omega, sbA_p, show 2 + (2 + i) = 4 + i by omega]; exact ha.2.2.1 i hi
  · rw [show 4 + i = 2 + (2 + i) by omega, show 4 + j = 2 + (2 + j) by omega, sbA_p, sbA_p, show 2 + (2 + i) = 4 + i by omega, show 2 + (2 + j) = 4 + j by omega] at e; exact ha.2.2.2 i j hi hj e
  · rw [show 4 + i = 2 + (2 + i) by omega, sbA_p, show 2 + (2 + i) = 4 + i by omega]; exact hp2 i hi
  · rw [show 4 + i = 2 + (2 + i) by omega, sbA_p, show 2 + (2 + i) = 4 + i by omega]
    have e : sbW W (8 + i) = W (8 + i) := by unfold sbW; rw [if_neg (by omega), if_neg (by omega)]
    rw [e]
    exact (hpa i hi).keep fr (by have := ha.p hi; omega)
theorem m_readMap (cx : CM G N x L b W) (hw : WD z x ad W D) (tr : tkR b L 0 M) (e16 : M 16 0 = 0) (e17 : M 17 0 = -1) (hr : RM M0 D M D') {f : Nat → Int32} (h2 : ∀ j, j < 98 → M 2 j = clM j) (h4 : M 4 = holdF f) (hf : ∀ j, j < 261 → f j = clD j) : gx (qX3_readMap N (x + 4) (x + 1) (nI L) (ad 1) (ad 3) G z) (fun a z' => ux G (x + 129) (qX10_readMap N (x + 129)) M D' (fun b1 M2 D2 => PL x ad W D M0 a z' b1 M2 D2)) := by
  obtain ⟨hI, hA, hN, hL, hb⟩ := id cx
  have hb9 := hw.ok.b
  have hs9 := hw.ok.s
  unfold qX3_readMap qX10_readMap
  refine gx_recvQ hw.sp.o (by decide) (q_X0_clear hw.sp (by omega) (by omega)) (fun _ z1 ⟨f1, b1⟩ => ?_)
  have w1 := hw.cs f1 b1
  refine gx_recvQ w1.dr.o (by decide) (q_X5_clear w1.dr (by omega) (by omega)) (fun _ z2 ⟨f2, d2⟩ => ?_)
  have w2 := w1.cd f2 d2
  obtain ⟨⟨tb, A, E, h⟩, _⟩ := w2.rd
  refine gx_recvQ h.o (by decide) (c_begin_X3 w2 hb hL hA hN) ?_
  rintro _ z3 ⟨C, E, h3, tc, e8, e9⟩
  exact m_all cx ⟨h3, tc, tr, ⟨by rw [e8]; exact e16.symm, by rw [e9]; exact e17.symm⟩, hr⟩ (QM_0 h2 h4 hf)
theorem IV_load {W W' : Nat → Nat → Nat → Int32} {D D' : Nat → Nat → Int64} {n np n' np' T : Nat} (hi : IVn W D n np T) (hm : cpM (W' 1) (W' 20) D' n' np') (e7 : W' 7 = W 7) (e9 : W' 0 9 0 = 0) (m8 : W' 20 8 0 = 0) (e00 : W' 0 0 = W 0 0) (e01 : W' 0 1 0 = 0) (m10 : W' 20 10 0 = 0) (em : ∀ k, k = 9 ∨ k = 41 ∨ k = 42 → W' 20 k = W 20 k) (he : W' 0 3 0 = W' 20 16 0 ∧ W' 0 4 0 = W' 20 17 0) (ht : cpT (W' 3) (W' 20 3)) (hs : stI (W' 1) (W' 3) n' np' T) : IVn W' D' n' np' T := by
  obtain ⟨h1, h2, h3, ⟨c, hc, i1, i2, i3⟩, h5, _, h10⟩ := hi
  refine ⟨hm, ht, hs, ⟨0, by omega, e01, m10, ?_⟩, he, ⟨0, by omega, e9, m8, fun i hi => absurd hi (Nat.not_lt_zero i)⟩, ?_⟩
  · rw [em 9 (by omega), e00]; exact i3
  · unfold cpO at h10 ⊢
    rw [e7, em 41 (by omega), em 42 (by omega)]; exact h10
theorem c_load (hw : WD z x ad W D) (hi : IVn W D n np T) (hI : osInj G) (hA : G.2.2.1 ≤ x) (hN : 5000 < N) : callT G z x T [(1, (1 : Int32)), (0, (2 : Int32))] (qX9_load N x v) (qX10_load N (x + 129) v) := by
  refine callT_ux (W := W) (D := D) ?_
  obtain ⟨c, hc, e1, e10, hio⟩ := hi.in
  have hA' : G.2.2.1 ≤ x + 129 := by omega
  have rej : (v < 0 ∨ ¬ v ≤ nI c) → ux G (x + 129) (qX10_load N (x + 129) v) (W 20) D (fun b M' D' => ∃ ad W1, WD z x ad W1 D ∧ W1 20 = W 20 ∧ IV (Ws W1 20 M') D' T ∧ agr [(1, (1 : Int32)), (0, (2 : Int32))] (.inl 1) (M' 0 0) b) := fun q => by
    unfold qX10_load
    exact ux_call (ux_opens0 e10 q hA' (ux_itet rfl (ux_ret ⟨ad, W, hw, rfl, ⟨n, np, IV_ref hi k0_ok⟩, agrT (j := 1) (q := (1, 1)) rfl rfl (by decide)⟩)))
  unfold qX9_load
  refine gx_bindT (gx_recv hw.x9.o (by decide) ?_)
  unfold qX9_requireLength qX9_requireLength_13
  by_cases c1 : v < 0
  · exact gx_itet c1 (gx_throw hw.nz (rej (Or.inl c1)))
  refine gx_itef c1 (gx_gI hw.x9.o (by decide) rfl ?_)
  rw [e1]
  by_cases c2 : v ≤ nI c
  · refine gx_itet c2 (gx_Rt (gx_ret ?_))
    obtain ⟨l, hl, rfl⟩ := nI_of c1
    have hlc : l ≤ c := (nI_leI hl (by omega)).mp c2
    obtain ⟨b, hb⟩ : ∃ b : Nat → Nat, ∀ k, k < 1000 → b k < 256 ∧ W 20 9 k = nI (b k) ∧ W 0 0 k = (nI (b k)).toInt8.toInt32 := by
      refine ⟨fun k => tn (W 20 9 k), fun k hk => ?_⟩
      obtain ⟨w, w1, w2, w3⟩ := hio k hk
      have : tn (W 20 9 k) = w := by rw [w2]; exact nI_clamp (by omega)
      show tn (W 20 9 k) < 256 ∧ W 20 9 k = nI (tn (W 20 9 k)) ∧ W 0 0 k = (nI (tn (W 20 9 k))).toInt8.toInt32
      rw [this]
      exact ⟨w1, w2, w3⟩
    refine hw.x9.p1 (by decide) hA (fun z1 f1 h1 => ?_)
    have w1 := hw.c9 f1 h1
    refine gx_gR w1.x9.o (by decide) rfl (gx_gR w1.x9.o (by decide) rfl (gx_gR w1.x9.o (by decide) rfl (gx_gR w1.x9.o (by decide) rfl ?_)))
    unfold qX10_load
    refine sm_u (ux_call (ux_opens e10 hlc hc hA' (fun M1 o0 o12 o11 o16 o17 o10 ok => ux_itef (by decide) (ux_call (ux_clears hA' hN (fun M2 f dr d2 d4 df => sm_g ?_))))))
    have ek : ∀ k, ¬ (k = 0 ∨ k = 2 ∨ k = 4 ∨ k = 10 ∨ k = 11 ∨ k = 12 ∨ k = 16 ∨ k = 17) → M2 k = W 20 k := fun k hk => by rw [dr k (by omega) (by omega)]; exact ok k (by omega)
    have cx : CM G N x l b (Ws W 0 (cset (W 0) 1 fun _ => (0 : Int32))) := ⟨hI, hA, hN, by omega, fun k hk => ⟨(hb k hk).1, (hb k hk).2.2⟩⟩
    have tr : tkR b l 0 M2 := by
      refine ⟨⟨by rw [dr 12 (by omega) (by omega)]; exact o12, fun k hk => ?_⟩, 0, Nat.zero_le _, rfl, by rw [dr 11 (by omega) (by omega)]; exact o11⟩
      rw [ek 9 (by omega)]; exact (hb k hk).2.1
    obtain ⟨⟨tb, A, B, hrd⟩, _⟩ := w1.rd
    refine sm_call hrd.o (by decide) (m_readMap (M0 := M2) cx w1 tr (by rw [dr 16 (by omega) (by omega)]; exact o16) (by rw [dr 17 (by omega) (by omega)]; exact o17) ⟨fun _ _ => rfl, fun _ _ _ => rfl⟩ d2 d4 df) (fun r1 z3 r2 M3 D3 hx => ?_)
    obtain ⟨hr, B', S', C', E', h7, he, hcase⟩ := hx
    refine gx_gR h7.1.x9.o (by decide) rfl (gx_recvQ h7.1.x9.o (by decide) (c_note_X3 h7 hA) (fun _ z4 h4 => ?_))
    have em : ∀ k, k = 1 ∨ k = 3 ∨ k = 5 ∨ k = 8 ∨ k = 9 ∨ k = 41 ∨ k = 42 → M3 k = W 20 k := fun k hk => by rw [hr.1 k (by omega)]; exact ek k (by omega)
    have m10 : M3 10 0 = 0 := by rw [hr.1 10 (by omega), dr 10 (by omega) (by omega)]; exact o10
    have d6 : D3 6 = D 6 := hr.2 6 (by omega) (by omega)
    rcases hcase with ⟨rfl, rfl⟩ | ⟨rfl, rfl, n', np', hQ⟩
    · refine gx_itet rfl (gx_throw h4.1.nz (ux_call (ux_isRead hA' (fun _ => ux_itet rfl (ux_ret ⟨ad, _, h4.1, rfl, ⟨n, np, IV_told hi rfl rfl (fun i hi6 => ?_) rfl rfl rfl m10 (fun k hk => ?_) d6 he ?_ hi.i⟩, agrT (j := 0) (q := (0, 2)) rfl rfl (by decide)⟩)) (fun q => absurd q (by decide)) (Or.inl rfl))))
      · rw [Ws_ne (by omega), Ws_ne (by omega), Ws_ne (by omega), Ws_ne (by omega), Ws_ne (by omega)]
      · rw [Ws_eq, cset_ne (by omega)]; exact em k (by omega)
      · show cpT (W 3) (M3 3)
        rw [em 3 (by omega)]; exact hi.s
    · obtain ⟨hm, hbo, hms⟩ := hQ
      have hst := MS_stI hm hms
      obtain ⟨t, _, t1, t2⟩ := hi.i.j.t
      refine gx_itef (by decide) (gx_swap h4.1 hA (fun z5 w5 => gx_recvQ w5.x9.o (by decide) (c_adopt w5 hA) (fun _ z6 w6 => w6.x9.p9 (by decide) hA (fun z7 f7 h9 => ?_))))
      have w7 := w6.c9 f7 h9
      have hd7 : rX5 z7 (swA (sbA ad) 2) S' := w7.nw
      refine gx_gR w7.x9.o (by decide) rfl (gx_recvE hd7.o (by decide) (q_countAllUnits hd7 (by omega)) (gx_Rt (gx_ret (ux_call (ux_isRead hA' (fun q => absurd q (by decide)) (fun _ => ux_itef (by decide) (ux_call (ux_settles hA' hN (fun M4 D4 r4 s1 s3 s8 sd s6 => ?_)))) (Or.inr rfl))))))
      have hm4 : cpM B' M4 D4 n' np' := cpM_pt hm (fun j hj => s1 j hj) (fun j hj => s6 j hj)
      have ht4 : cpT S' (M4 3) := cpT_fE hms.1 (fun j hj => s3 j hj)
      have hnu := nu12 hst.j
      refine ux_gR rfl (ux_rE (fun z hz => q_X10_unitsOf hz hz.a3 hm4.m0 hm4.n16 (by omega)) (ux_ret ⟨_, _, w7, rfl, ⟨n', np', IV_load hi ?_ rfl rfl ?_ rfl rfl ?_ (fun k hk => ?_) ?_ ?_ ?_⟩, ?_, ?_⟩))
      · exact hm4
      · exact s8
      · show M4 10 0 = 0
        rw [r4 10 (by omega) (by omega) (by omega), cset_ne (by omega)]; exact m10
      · show M4 k = W 20 k
        rw [r4 k (by omega) (by omega) (by omega), cset_ne (by omega)]; exact em k (by omega)
      · show C' 8 0 = M4 16 0 ∧ C' 9 0 = M4 17 0
        rw [r4 16 (by omega) (by omega) (by omega), r4 17 (by omega) (by omega) (by omega), cset_ne (by omega), cset_ne (by omega)]; exact he
      · exact ht4
      · exact stI_T hst (by omega)
      · show M4 0 0 = 0
        rw [r4 0 (by omega) (by omega) (by omega)]; rfl
      · rw [cnU_all hst.j ht4 hm4.n16]
  · exact gx_itef c2 (gx_throw hw.nz (rej (Or.inr c2)))
theorem load_ok (hI : osInj G) (hA : G.2.2.1 ≤ x) (hN : 5000 < N) : loadOK G N x := fun z ad W D n np T v _ hw hi => c_load hw hi hI hA hN
end
