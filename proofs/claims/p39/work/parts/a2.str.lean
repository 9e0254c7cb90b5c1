/-! strings (2): a builder is made, letters and texts go to its end, its text is told (by program: a2.py) -/
theorem getD_single {c : Nat} : [c].getD 0 0 = c := rfl
section
variable {α : Type} {G : osG} {z : osS} {N k0 a lo s : Nat} {t u : List Nat} {Q : α → osS → Prop}

/-- a new builder -/
theorem sb_new {k : Nat} {f : Nat → osM α} (e2 : z.2 = some k) (hA : G.2.2.1 ≤ k) (kk : ∀ z1, gr k z z1 → buR z1 k k [] → gx (f k G z1) Q) : gx (osbind (osnew (.inr (9, [.null, .int 0, .int 0, .int 0]))) (fun x1 => osbind (qJ4_init_da8c8 N x1) fun _ => f x1) G z) Q := by
  refine gx_newH e2 hA (fun z1 d1 n1 f1 => ?_)
  unfold qJ4_init_da8c8 qJ5_init_d00df
  refine gx_bind (gx_bind (gx_itef (by decide) ?_))
  show gx ((osbind (osnewB 64 (nI 16)) _) G z1) _
  refine gx_newBy f1 (by omega) (by omega) (by omega) (fun z2 d2 n2 f2 => ?_)
  refine gx_putH (fs := [.null, .int 0, .int 0, .int 0]) (c := 9) ((n2 k (by omega)).trans d1) (by decide) (Nat.le_of_ble_eq_true rfl) hA (fun z3 d3 n3 f3 => gx_putH d3 (by decide) (Nat.le_of_ble_eq_true rfl) hA (fun z4 d4 n4 f4 => gx_ret (gx_ret ?_)))
  have e4 : z4.2 = some (k + 1 + 1) := f4.trans (f3.trans f2)
  refine kk z4 ⟨fun b hb => (n4 b (by omega)).trans ((n3 b (by omega)).trans ((n2 b (by omega)).trans (n1 b (by omega)))), k, _, e2, e4, Nat.le_refl _, by omega⟩ ⟨(fun c hc => nomatch hc), k + 1, 16, fun _ => 0, ⟨⟨_, e4, by omega, by omega, by omega, by omega, by omega⟩, d4, (n4 _ (by omega)).trans ((n3 _ (by omega)).trans d2), Nat.zero_le _, fun _ _ => fitc 0 (by decide)⟩, Or.inl (Nat.le_refl _), fun j hj => by cases hj⟩
/-- a letter -/
theorem sb_chr {c : Nat} {f : Nat → osM α} (h : buR z k0 a t) (hA : G.2.2.1 ≤ k0) (hI : osInj G) (hc : c < 128) (hl : 2 * (t.length + 1) ≤ 64) (kk : ∀ z1, gr k0 z z1 → buR z1 k0 a (t ++ [c]) → gx (f a G z1) Q) : gx (osbind (osrecv [9] a (qJ4_append_cf468 N a (nI c))) f G z) Q := by
  obtain ⟨ha, v, cap, g, hw, hcap, hg⟩ := h
  have hz := hw.2.1
  have hle : t.length ≤ cap := hw.2.2.2.1
  unfold qJ4_append_cf468
  refine gx_bind (gx_recv hz (by decide) (gx_bind (gx_recv hz (by decide) ?_)))
  unfold qJ5_append_3fe6f
  refine gx_gI hz (by decide) rfl ?_
  rw [nI_1]
  refine gx_call (q_ensure hw hA (by omega) (by omega) (fun q => by split <;> omega) hI) ?_
  rintro _ z1 ⟨g1, _, v1, cap1, f1, w1, q1, q2, e1⟩
  obtain ⟨⟨k, b0, b1, b2, b3, b4, b5⟩, y1, y2, y3, y4⟩ := id w1
  have hcb : cap1 ≤ 2400 := by
    rcases q2 with q | ⟨q, e⟩
    · omega
    · rw [e]; split <;> omega
  refine gx_callE (b := 1) (z1 := z1) ?_ (gx_itef (by decide) (gx_callE (b := 1) (z1 := z1) ?_ (gx_itef (by decide) ?_)))
  · refine gx_eq (gx_recv y1 (by decide) ?_)
    unfold qJ5_isLatin1_aae02 qJ5_isLatin1_aae02_18
    exact gx_itef (by decide) (gx_gI y1 (by decide) rfl (gx_itet rfl (gx_retZ (Or.inr rfl) ⟨rfl, rfl⟩)))
  · refine gx_eq ?_
    unfold qJ1_canEncode_fc78d qJ1_canEncode_fc78d_12
    exact gx_itef (fun cc => by have := (nI_ltI (a := 255) (by omega) (by omega)).mp cc; omega) (gx_retZ (Or.inr rfl) ⟨rfl, rfl⟩)
  refine gx_gR y1 (by decide) rfl (gx_gI y1 (by decide) rfl (gx_putH y1 (by decide) (Nat.le_of_ble_eq_true rfl) (by omega) (fun z2 d2 n2 f2 => ?_)))
  rw [narc c hc]
  have y2' : z2.1 v1 = some (.inl (1, (cap1, .inl f1))) := (n2 v1 b5).trans y2
  refine gx_sN y2' (by omega) (by omega) (by omega) (gx_ret ?_)
  refine gx_ret (kk _ (g1.tr ⟨fun b hb => (osup_ne (by omega) rfl).trans (n2 b (by omega)), k, k, b0, f2.trans b0, by omega, Nat.le_refl _⟩) ⟨asc_app ha (fun q hq => by cases List.mem_singleton.mp hq; exact hc), v1, cap1, upd f1 t.length (nI c), ⟨⟨k, f2.trans b0, b1, b2, b3, b4, b5⟩, ?_, osup_eq, by rw [List.length_append]; show t.length + 1 ≤ cap1; omega, fun j hj => ?_⟩, ?_, fun j hj => ?_⟩)
  · refine osup_ne (fun q => b5 q.symm) ?_
    rw [d2, nI_1, List.length_append]; rfl
  · by_cases q : j = t.length
    · subst q; rw [upd_eq]; exact fitc c hc
    · rw [upd_ne q]; exact y4 j hj
  · rw [List.length_append]
    show cap1 ≤ 16 ∨ cap1 ≤ 2 * (t.length + 1)
    rcases q2 with q | ⟨q, e⟩
    · omega
    · rw [e]; split <;> omega
  · rw [List.length_append] at hj
    have hj : j < t.length + 1 := hj
    by_cases q : j = t.length
    · subst q; rw [upd_eq, get_appr (Nat.le_refl _), Nat.sub_self]; rfl
    · rw [upd_ne q, e1 j (by omega), hg j (by omega), get_appl (by omega)]
/-- a text -/
theorem sb_str {f : Nat → osM α} (h : buR z k0 a t) (hs : stR G lo z s u) (hA : G.2.2.1 ≤ k0) (hI : osInj G) (hl : 2 * (t.length + u.length) ≤ 64) (hlo : a < lo) (kk : ∀ z1, gr k0 z z1 → buR z1 k0 a (t ++ u) → gx (f a G z1) Q) : gx (osbind (osrecv [9] a (qJ4_append_15ec4 N a s)) f G z) Q := by
  obtain ⟨ha, v, cap, g, hw, hcap, hg⟩ := h
  have hz := hw.2.1
  have hle : t.length ≤ cap := hw.2.2.2.1
  have hul := hs.1.2
  unfold qJ4_append_15ec4
  refine gx_bind (gx_recv hz (by decide) (gx_bind (gx_recv hz (by decide) ?_)))
  unfold qJ5_append_cf1ce
  refine gx_callE (b := nI u.length) (z1 := z) (q_sLen hs hI) (gx_gI hz (by decide) rfl ?_)
  rw [nI_add]
  refine gx_call (q_ensure hw hA (by omega) (by omega) (fun q => by split <;> omega) hI) ?_
  rintro _ z1 ⟨g1, gk, v1, cap1, f1, w1, q1, q2, e1⟩
  obtain ⟨⟨k, b0, b1, b2, b3, b4, b5⟩, y1, y2, y3, y4⟩ := id w1
  have hcb : cap1 ≤ 2400 := by
    rcases q2 with q | ⟨q, e⟩
    · omega
    · rw [e]; split <;> omega
  obtain ⟨k9, c0, c1, c2, c3, c4, c5⟩ := hw.1
  have hs1 : stR G lo z1 s u := hs.keep (fun c hc hq => gk c (by omega) hq) (fun q hq => g1.le hq)
  obtain ⟨w, x1, x2, x3, ⟨fs, x4, x5⟩, x6, x7⟩ := hs1.vw hI
  refine gx_gI y1 (by decide) rfl (gx_call (Q1 := fun _ z2 => z2.1 v1 = some (.inl (1, (cap1, .inl (va_cpy fs f1 0 t.length u.length)))) ∧ (∀ b, ¬ b = v1 → z2.1 b = z1.1 b) ∧ z2.2 = z1.2) (gx_recv y1 (by decide) ?_) ?_)
  · unfold qJ5_putStringAt_47b60
    refine gx_callE (b := ()) (z1 := z1) ?_ (gx_gR y1 (by decide) rfl (gx_gI y1 (by decide) rfl ?_))
    · refine gx_eq (gx_recv y1 (by decide) ?_)
      unfold qJ5_inflateIfNeededFor_a7421 qJ5_inflateIfNeededFor_a7421_21
      exact gx_itef (by decide) (gx_gI y1 (by decide) rfl (gx_callE (b := 0) (z1 := z1) (q_sCod hs1 hI) (gx_itet rfl (gx_ret ⟨rfl, rfl⟩))))
    · refine gx_bind ?_
      rw [x7]
      unfold qJ0_getBytes_840e7
      refine gx_callE (b := 0) (z1 := z1) (q_sCod hs1 hI) (gx_itet rfl (gx_callE x1 (gx_callE x1 (gx_callE x3 ?_))))
      rw [sh0l]
      exact gx_bcopy (dp := t.length) x4 y2 (Nat.le_refl _) q1 (by omega) (by omega) (fun j hj => by rw [x5 j hj]; exact fitc _ (asc_get hs.1.1 hj)) (by omega) (fun z2 d2 n2 f2 => gx_ret (gx_ret ⟨d2, n2, f2⟩))
  rintro _ z2 ⟨d2, n2, f2⟩
  have y1' : z2.1 a = some (.inr (9, [.ref v1, .int 0, .int 0, .int (nI t.length)])) := (n2 a (fun q => b5 q.symm)).trans y1
  refine gx_gI y1' (by decide) rfl ?_
  rw [nI_add]
  refine gx_putH y1' (by decide) (Nat.le_of_ble_eq_true rfl) (by omega) (fun z3 d3 n3 f3 => gx_ret (gx_ret (kk z3 (g1.tr ⟨fun b hb => (n3 b (by omega)).trans (n2 b (by omega)), k, k, b0, f3.trans (f2.trans b0), by omega, Nat.le_refl _⟩) ⟨asc_app ha hs.1.1, v1, cap1, va_cpy fs f1 0 t.length u.length, ⟨⟨k, f3.trans (f2.trans b0), b1, b2, b3, b4, b5⟩, ?_, (n3 v1 b5).trans d2, by rw [List.length_append]; exact q1, fun j hj => ?_⟩, ?_, fun j hj => ?_⟩)))
  · rw [d3, List.length_append]; rfl
  · unfold va_cpy
    by_cases c9 : t.length ≤ j ∧ j < t.length + u.length
    · rw [if_pos c9, Nat.zero_add, x5 _ (by omega)]
      exact fitc _ (asc_get hs.1.1 (by omega))
    · rw [if_neg c9]; exact y4 j hj
  · rw [List.length_append]
    rcases q2 with q | ⟨q, e⟩
    · omega
    · rw [e]; split <;> omega
  · rw [List.length_append] at hj
    unfold va_cpy
    by_cases c9 : t.length ≤ j ∧ j < t.length + u.length
    · rw [if_pos c9, Nat.zero_add, x5 _ (by omega), get_appr (by omega)]
    · rw [if_neg c9, e1 j (by omega), hg j (by omega), get_appl (by omega)]
/-- the text that it holds -/
theorem sb_out {f : Nat → osM α} (h : buR z k0 a t) (hA : G.2.2.1 ≤ k0) (hI : osInj G) (hl : 2 * t.length ≤ 64) (h1000 : t.length ≤ 1000) (kk : ∀ z1 s k, z.2 = some k → gr k0 z z1 → gr k z z1 → stR G k z1 s t → gx (f s G z1) Q) : gx (osbind (osrecv [9] a (qJ4_toString_0e30d N a)) f G z) Q := by
  obtain ⟨ha, v, cap, g, hw, hcap, hg⟩ := h
  obtain ⟨⟨k, e2, a1, a2, v1, v2, va⟩, za, zv, hn, hft⟩ := id hw
  refine gx_bind (gx_recv za (by decide) ?_)
  unfold qJ4_toString_0e30d
  refine gx_newH e2 (by omega) (fun z1 d1 n1 f1 => ?_)
  have za1 : z1.1 a = some (.inr (9, [.ref v, .int 0, .int 0, .int (nI t.length)])) := (n1 a (by omega)).trans za
  have zv1 : z1.1 v = some (.inl (1, (cap, .inl g))) := (n1 v (by omega)).trans zv
  have fin : ∀ (z2 z3 : osS) (q : Nat) (f9 : Nat → Int32), z2.1 k = z1.1 k → z2.1 q = some (.inl (1, (t.length, .inl f9))) → (∀ b, b < k → z2.1 b = z1.1 b) → z2.2 = some (q + 1) → k < q → (∀ j, j < t.length → f9 j = nI (t.getD j 0)) → z3.1 k = some (.inr (8, [.ref q, .int 0, .int 0, .int 0])) → (∀ b, ¬ b = k → z3.1 b = z2.1 b) → z3.2 = z2.2 → gx (f k G z3) Q := fun z2 z3 q f9 p1 p2 p3 p4 p5 p6 p7 p8 p9 => by
    have gk : gr k z z3 := ⟨fun b hb => (p8 b (by omega)).trans ((p3 b hb).trans (n1 b (by omega))), k, q + 1, e2, p9.trans p4, Nat.le_refl _, by omega⟩
    exact kk z3 k k e2 (gk.lo (by omega)) gk ⟨⟨ha, h1000⟩, by omega, Or.inr ⟨q, f9, q + 1, p9.trans p4, Nat.le_refl _, by omega, by omega, by omega, p7, (p8 q (by omega)).trans p2, p6⟩⟩
  unfold qJ0_init_81219 qJ0_init_db425 qJ0_init_db425_97
  refine gx_bind (gx_bind (gx_callE (b := v) (z1 := z1) ?_ (gx_callE (b := nI t.length) (z1 := z1) ?_ (gx_callE (b := 1) (z1 := z1) ?_ (gx_itef (by decide) ?_)))))
  · refine gx_eq (gx_recv za1 (by decide) ?_)
    unfold qJ5_getValue_6d5f1
    exact gx_gR za1 (by decide) rfl (gx_ret ⟨rfl, rfl⟩)
  · refine gx_eq (gx_recv za1 (by decide) ?_)
    unfold qJ4_length_8abf5 qJ5_length_8abf5
    exact gx_bind (gx_recv za1 (by decide) (gx_gI za1 (by decide) rfl (gx_ret (gx_ret ⟨rfl, rfl⟩))))
  · refine gx_eq (gx_recv za1 (by decide) ?_)
    unfold qJ5_isLatin1_aae02 qJ5_isLatin1_aae02_18
    exact gx_itef (by decide) (gx_gI za1 (by decide) rfl (gx_itet rfl (gx_retZ (Or.inr rfl) ⟨rfl, rfl⟩)))
  refine gx_putH (fs := [.null, .int 0, .int 0, .int 0]) d1 (by decide) (Nat.le_of_ble_eq_true rfl) (by omega) (fun z2 d2 n2 f2 => ?_)
  have zv2 : z2.1 v = some (.inl (1, (cap, .inl g))) := (n2 v (by omega)).trans zv1
  have e22 : z2.2 = some (k + 1) := f2.trans f1
  refine gx_call (Q1 := fun q z3 => q = k + 1 ∧ ∃ f9, z3.1 (k + 1) = some (.inl (1, (t.length, .inl f9))) ∧ (∀ b, ¬ b = k + 1 → z3.1 b = z2.1 b) ∧ z3.2 = some (k + 1 + 1) ∧ ∀ j, j < t.length → f9 j = nI (t.getD j 0)) ?_ ?_
  · unfold qJ7_copyOfRange_39247
    refine gx_itet rfl (gx_len zv2 (gx_ite (fun c => ?_) (fun c => ?_)))
    · have hc : t.length = cap := nI_eqN (by omega) (by omega) c
      refine gx_callE (b := k + 1) (z1 := (fun b => if b = k + 1 then some (.inl (1, (cap, .inl g))) else z2.1 b, some (k + 1 + 1))) ?_ (gx_callE (b := ()) (z1 := (fun b => if b = k + 1 then some (.inl (1, (cap, .inl g))) else z2.1 b, some (k + 1 + 1))) ?_ (gx_ret ⟨rfl, g, by rw [hc]; exact if_pos rfl, fun b hb => if_neg hb, rfl, fun j hj => hg j hj⟩))
      · unfold osbclone
        rw [osga_of zv2]
        show (if cap ≤ 64 ∧ ∀ i, i < cap → fits .byte (.int (g i)) = true then osnew (.inl (1, (cap, .inl g))) G z2 else none) = _
        rw [if_pos ⟨by omega, hft⟩]
        unfold osnew; rw [e22]
        show (if G.2.2.1 ≤ k + 1 then _ else none) = _
        rw [if_pos (by omega)]
      · unfold osbcast
        rw [osga_of (x := (cap, .inl g)) (if_pos rfl)]
    · unfold qJ7_copyOfRange_39247_10 qJ7_copyOfRangeByte_39247 qJ7_checkLength_df160
      have em : nI t.length - (0 : Int32) = nI t.length := nI_sub (b := 0) (Nat.zero_le _)
      have em2 : nI cap - (0 : Int32) = nI cap := nI_sub (b := 0) (Nat.zero_le _)
      refine gx_bind (gx_bind (gx_itet ((nI_leI (a := 0) (by omega) (by omega)).mpr (Nat.zero_le _)) (gx_ret ?_)))
      rw [em]
      refine gx_newBy e22 (by omega) (by omega) (by omega) (fun z3 d3 n3 f3 => ?_)
      have zv3 : z3.1 v = some (.inl (1, (cap, .inl g))) := (n3 v (by omega)).trans zv2
      refine gx_len zv3 ?_
      show gx ((osbind (osbcopy v (0 : Int32) (k + 1) (0 : Int32) (osmin (nI cap - (0 : Int32)) (nI t.length))) fun _ => osret (k + 1)) G z3) _
      rw [em2, osmin_ni (by omega) (by omega), show (if t.length < cap then t.length else cap) = t.length by split <;> omega]
      refine gx_bcopy (dp := 0) (n0 := cap) (f := g) (by unfold osbsrc; rw [osfind_n100 hI (by omega), osga_of zv3]) d3 hn (by omega) (by omega) (by omega) (fun j hj => hft j (by omega)) (by omega) (fun z4 d4 n4 f4 => gx_ret (gx_ret ⟨rfl, _, d4, fun b hb => (n4 b hb).trans (n3 b hb), f4.trans f3, fun j hj => ?_⟩))
      unfold va_cpy
      rw [if_pos (by omega)]
      rw [show 0 + (j - 0) = j by omega]
      exact hg j hj
  rintro _ z3 ⟨rfl, f9, d3, n3, f3, hf9⟩
  refine gx_putH (fs := [.null, .int 0, .int 0, .int 0]) ((n3 k (by omega)).trans d2) (by decide) (Nat.le_of_ble_eq_true rfl) (by omega) (fun z4 d4 n4 f4 => gx_ret (gx_ret (gx_ret (fin z3 z4 (k + 1) f9 ?_ d3 (fun b hb => (n3 b (by omega)).trans (n2 b (by omega))) f3 (by omega) hf9 d4 n4 f4))))
  rw [n3 k (by omega), d2, d1]; rfl

/-- a new builder -/
theorem sB_new {k : Nat} {f : Nat → osM α} (e2 : z.2 = some k) (hA : G.2.2.1 ≤ k) (kk : ∀ z1, gr k z z1 → buR z1 k k [] → gx (f k G z1) Q) : gx (osbind (osnew (.inr (9, [.null, .int 0, .int 0, .int 0]))) (fun x1 => osbind (qBJ4_init_da8c8 N x1) fun _ => f x1) G z) Q := by
  refine gx_newH e2 hA (fun z1 d1 n1 f1 => ?_)
  unfold qBJ4_init_da8c8 qBJ5_init_d00df
  refine gx_bind (gx_bind (gx_itef (by decide) ?_))
  show gx ((osbind (osnewB 1200 (nI 16)) _) G z1) _
  refine gx_newBy f1 (by omega) (by omega) (by omega) (fun z2 d2 n2 f2 => ?_)
  refine gx_putH (fs := [.null, .int 0, .int 0, .int 0]) (c := 9) ((n2 k (by omega)).trans d1) (by decide) (Nat.le_of_ble_eq_true rfl) hA (fun z3 d3 n3 f3 => gx_putH d3 (by decide) (Nat.le_of_ble_eq_true rfl) hA (fun z4 d4 n4 f4 => gx_ret (gx_ret ?_)))
  have e4 : z4.2 = some (k + 1 + 1) := f4.trans (f3.trans f2)
  refine kk z4 ⟨fun b hb => (n4 b (by omega)).trans ((n3 b (by omega)).trans ((n2 b (by omega)).trans (n1 b (by omega)))), k, _, e2, e4, Nat.le_refl _, by omega⟩ ⟨(fun c hc => nomatch hc), k + 1, 16, fun _ => 0, ⟨⟨_, e4, by omega, by omega, by omega, by omega, by omega⟩, d4, (n4 _ (by omega)).trans ((n3 _ (by omega)).trans d2), Nat.zero_le _, fun _ _ => fitc 0 (by decide)⟩, Or.inl (Nat.le_refl _), fun j hj => by cases hj⟩
/-- a letter -/
theorem sB_chr {c : Nat} {f : Nat → osM α} (h : buR z k0 a t) (hA : G.2.2.1 ≤ k0) (hI : osInj G) (hc : c < 128) (hl : 2 * (t.length + 1) ≤ 1200) (kk : ∀ z1, gr k0 z z1 → buR z1 k0 a (t ++ [c]) → gx (f a G z1) Q) : gx (osbind (osrecv [9] a (qBJ4_append_cf468 N a (nI c))) f G z) Q := by
  obtain ⟨ha, v, cap, g, hw, hcap, hg⟩ := h
  have hz := hw.2.1
  have hle : t.length ≤ cap := hw.2.2.2.1
  unfold qBJ4_append_cf468
  refine gx_bind (gx_recv hz (by decide) (gx_bind (gx_recv hz (by decide) ?_)))
  unfold qBJ5_append_3fe6f
  refine gx_gI hz (by decide) rfl ?_
  rw [nI_1]
  refine gx_call (q_Bensure hw hA (by omega) (by omega) (fun q => by split <;> omega) hI) ?_
  rintro _ z1 ⟨g1, _, v1, cap1, f1, w1, q1, q2, e1⟩
  obtain ⟨⟨k, b0, b1, b2, b3, b4, b5⟩, y1, y2, y3, y4⟩ := id w1
  have hcb : cap1 ≤ 2400 := by
    rcases q2 with q | ⟨q, e⟩
    · omega
    · rw [e]; split <;> omega
  refine gx_callE (b := 1) (z1 := z1) ?_ (gx_itef (by decide) (gx_callE (b := 1) (z1 := z1) ?_ (gx_itef (by decide) ?_)))
  · refine gx_eq (gx_recv y1 (by decide) ?_)
    unfold qBJ5_isLatin1_aae02 qBJ5_isLatin1_aae02_18
    exact gx_itef (by decide) (gx_gI y1 (by decide) rfl (gx_itet rfl (gx_retZ (Or.inr rfl) ⟨rfl, rfl⟩)))
  · refine gx_eq ?_
    unfold qBJ1_canEncode_fc78d qBJ1_canEncode_fc78d_12
    exact gx_itef (fun cc => by have := (nI_ltI (a := 255) (by omega) (by omega)).mp cc; omega) (gx_retZ (Or.inr rfl) ⟨rfl, rfl⟩)
  refine gx_gR y1 (by decide) rfl (gx_gI y1 (by decide) rfl (gx_putH y1 (by decide) (Nat.le_of_ble_eq_true rfl) (by omega) (fun z2 d2 n2 f2 => ?_)))
  rw [narc c hc]
  have y2' : z2.1 v1 = some (.inl (1, (cap1, .inl f1))) := (n2 v1 b5).trans y2
  refine gx_sN y2' (by omega) (by omega) (by omega) (gx_ret ?_)
  refine gx_ret (kk _ (g1.tr ⟨fun b hb => (osup_ne (by omega) rfl).trans (n2 b (by omega)), k, k, b0, f2.trans b0, by omega, Nat.le_refl _⟩) ⟨asc_app ha (fun q hq => by cases List.mem_singleton.mp hq; exact hc), v1, cap1, upd f1 t.length (nI c), ⟨⟨k, f2.trans b0, b1, b2, b3, b4, b5⟩, ?_, osup_eq, by rw [List.length_append]; show t.length + 1 ≤ cap1; omega, fun j hj => ?_⟩, ?_, fun j hj => ?_⟩)
  · refine osup_ne (fun q => b5 q.symm) ?_
    rw [d2, nI_1, List.length_append]; rfl
  · by_cases q : j = t.length
    · subst q; rw [upd_eq]; exact fitc c hc
    · rw [upd_ne q]; exact y4 j hj
  · rw [List.length_append]
    show cap1 ≤ 16 ∨ cap1 ≤ 2 * (t.length + 1)
    rcases q2 with q | ⟨q, e⟩
    · omega
    · rw [e]; split <;> omega
  · rw [List.length_append] at hj
    have hj : j < t.length + 1 := hj
    by_cases q : j = t.length
    · subst q; rw [upd_eq, get_appr (Nat.le_refl _), Nat.sub_self]; rfl
    · rw [upd_ne q, e1 j (by omega), hg j (by omega), get_appl (by omega)]
/-- a text -/
theorem sB_str {f : Nat → osM α} (h : buR z k0 a t) (hs : stR G lo z s u) (hA : G.2.2.1 ≤ k0) (hI : osInj G) (hl : 2 * (t.length + u.length) ≤ 1200) (hlo : a < lo) (kk : ∀ z1, gr k0 z z1 → buR z1 k0 a (t ++ u) → gx (f a G z1) Q) : gx (osbind (osrecv [9] a (qBJ4_append_15ec4 N a s)) f G z) Q := by
  obtain ⟨ha, v, cap, g, hw, hcap, hg⟩ := h
  have hz := hw.2.1
  have hle : t.length ≤ cap := hw.2.2.2.1
  have hul := hs.1.2
  unfold qBJ4_append_15ec4
  refine gx_bind (gx_recv hz (by decide) (gx_bind (gx_recv hz (by decide) ?_)))
  unfold qBJ5_append_cf1ce
  refine gx_callE (b := nI u.length) (z1 := z) (q_BsLen hs hI) (gx_gI hz (by decide) rfl ?_)
  rw [nI_add]
  refine gx_call (q_Bensure hw hA (by omega) (by omega) (fun q => by split <;> omega) hI) ?_
  rintro _ z1 ⟨g1, gk, v1, cap1, f1, w1, q1, q2, e1⟩
  obtain ⟨⟨k, b0, b1, b2, b3, b4, b5⟩, y1, y2, y3, y4⟩ := id w1
  have hcb : cap1 ≤ 2400 := by
    rcases q2 with q | ⟨q, e⟩
    · omega
    · rw [e]; split <;> omega
  obtain ⟨k9, c0, c1, c2, c3, c4, c5⟩ := hw.1
  have hs1 : stR G lo z1 s u := hs.keep (fun c hc hq => gk c (by omega) hq) (fun q hq => g1.le hq)
  obtain ⟨w, x1, x2, x3, ⟨fs, x4, x5⟩, x6, x7⟩ := hs1.vw hI
  refine gx_gI y1 (by decide) rfl (gx_call (Q1 := fun _ z2 => z2.1 v1 = some (.inl (1, (cap1, .inl (va_cpy fs f1 0 t.length u.length)))) ∧ (∀ b, ¬ b = v1 → z2.1 b = z1.1 b) ∧ z2.2 = z1.2) (gx_recv y1 (by decide) ?_) ?_)
  · unfold qBJ5_putStringAt_47b60
    refine gx_callE (b := ()) (z1 := z1) ?_ (gx_gR y1 (by decide) rfl (gx_gI y1 (by decide) rfl ?_))
    · refine gx_eq (gx_recv y1 (by decide) ?_)
      unfold qBJ5_inflateIfNeededFor_a7421 qBJ5_inflateIfNeededFor_a7421_21
      exact gx_itef (by decide) (gx_gI y1 (by decide) rfl (gx_callE (b := 0) (z1 := z1) (q_BsCod hs1 hI) (gx_itet rfl (gx_ret ⟨rfl, rfl⟩))))
    · refine gx_bind ?_
      rw [x7]
      unfold qBJ0_getBytes_840e7
      refine gx_callE (b := 0) (z1 := z1) (q_BsCod hs1 hI) (gx_itet rfl (gx_callE x1 (gx_callE x1 (gx_callE x3 ?_))))
      rw [sh0l]
      exact gx_bcopy (dp := t.length) x4 y2 (Nat.le_refl _) q1 (by omega) (by omega) (fun j hj => by rw [x5 j hj]; exact fitc _ (asc_get hs.1.1 hj)) (by omega) (fun z2 d2 n2 f2 => gx_ret (gx_ret ⟨d2, n2, f2⟩))
  rintro _ z2 ⟨d2, n2, f2⟩
  have y1' : z2.1 a = some (.inr (9, [.ref v1, .int 0, .int 0, .int (nI t.length)])) := (n2 a (fun q => b5 q.symm)).trans y1
  refine gx_gI y1' (by decide) rfl ?_
  rw [nI_add]
  refine gx_putH y1' (by decide) (Nat.le_of_ble_eq_true rfl) (by omega) (fun z3 d3 n3 f3 => gx_ret (gx_ret (kk z3 (g1.tr ⟨fun b hb => (n3 b (by omega)).trans (n2 b (by omega)), k, k, b0, f3.trans (f2.trans b0), by omega, Nat.le_refl _⟩) ⟨asc_app ha hs.1.1, v1, cap1, va_cpy fs f1 0 t.length u.length, ⟨⟨k, f3.trans (f2.trans b0), b1, b2, b3, b4, b5⟩, ?_, (n3 v1 b5).trans d2, by rw [List.length_append]; exact q1, fun j hj => ?_⟩, ?_, fun j hj => ?_⟩)))
  · rw [d3, List.length_append]; rfl
  · unfold va_cpy
    by_cases c9 : t.length ≤ j ∧ j < t.length + u.length
    · rw [if_pos c9, Nat.zero_add, x5 _ (by omega)]
      exact fitc _ (asc_get hs.1.1 (by omega))
    · rw [if_neg c9]; exact y4 j hj
  · rw [List.length_append]
    rcases q2 with q | ⟨q, e⟩
    · omega
    · rw [e]; split <;> omega
  · rw [List.length_append] at hj
    unfold va_cpy
    by_cases c9 : t.length ≤ j ∧ j < t.length + u.length
    · rw [if_pos c9, Nat.zero_add, x5 _ (by omega), get_appr (by omega)]
    · rw [if_neg c9, e1 j (by omega), hg j (by omega), get_appl (by omega)]
/-- the text that it holds -/
theorem sB_out {f : Nat → osM α} (h : buR z k0 a t) (hA : G.2.2.1 ≤ k0) (hI : osInj G) (hl : 2 * t.length ≤ 1200) (h1000 : t.length ≤ 1000) (kk : ∀ z1 s k, z.2 = some k → gr k0 z z1 → gr k z z1 → stR G k z1 s t → gx (f s G z1) Q) : gx (osbind (osrecv [9] a (qBJ4_toString_0e30d N a)) f G z) Q := by
  obtain ⟨ha, v, cap, g, hw, hcap, hg⟩ := h
  obtain ⟨⟨k, e2, a1, a2, v1, v2, va⟩, za, zv, hn, hft⟩ := id hw
  refine gx_bind (gx_recv za (by decide) ?_)
  unfold qBJ4_toString_0e30d
  refine gx_newH e2 (by omega) (fun z1 d1 n1 f1 => ?_)
  have za1 : z1.1 a = some (.inr (9, [.ref v, .int 0, .int 0, .int (nI t.length)])) := (n1 a (by omega)).trans za
  have zv1 : z1.1 v = some (.inl (1, (cap, .inl g))) := (n1 v (by omega)).trans zv
  have fin : ∀ (z2 z3 : osS) (q : Nat) (f9 : Nat → Int32), z2.1 k = z1.1 k → z2.1 q = some (.inl (1, (t.length, .inl f9))) → (∀ b, b < k → z2.1 b = z1.1 b) → z2.2 = some (q + 1) → k < q → (∀ j, j < t.length → f9 j = nI (t.getD j 0)) → z3.1 k = some (.inr (8, [.ref q, .int 0, .int 0, .int 0])) → (∀ b, ¬ b = k → z3.1 b = z2.1 b) → z3.2 = z2.2 → gx (f k G z3) Q := fun z2 z3 q f9 p1 p2 p3 p4 p5 p6 p7 p8 p9 => by
    have gk : gr k z z3 := ⟨fun b hb => (p8 b (by omega)).trans ((p3 b hb).trans (n1 b (by omega))), k, q + 1, e2, p9.trans p4, Nat.le_refl _, by omega⟩
    exact kk z3 k k e2 (gk.lo (by omega)) gk ⟨⟨ha, h1000⟩, by omega, Or.inr ⟨q, f9, q + 1, p9.trans p4, Nat.le_refl _, by omega, by omega, by omega, p7, (p8 q (by omega)).trans p2, p6⟩⟩
  unfold qBJ0_init_81219 qBJ0_init_db425 qBJ0_init_db425_97
  refine gx_bind (gx_bind (gx_callE (b := v) (z1 := z1) ?_ (gx_callE (b := nI t.length) (z1 := z1) ?_ (gx_callE (b := 1) (z1 := z1) ?_ (gx_itef (by decide) ?_)))))
  · refine gx_eq (gx_recv za1 (by decide) ?_)
    unfold qBJ5_getValue_6d5f1
    exact gx_gR za1 (by decide) rfl (gx_ret ⟨rfl, rfl⟩)
  · refine gx_eq (gx_recv za1 (by decide) ?_)
    unfold qBJ4_length_8abf5 qBJ5_length_8abf5
    exact gx_bind (gx_recv za1 (by decide) (gx_gI za1 (by decide) rfl (gx_ret (gx_ret ⟨rfl, rfl⟩))))
  · refine gx_eq (gx_recv za1 (by decide) ?_)
    unfold qBJ5_isLatin1_aae02 qBJ5_isLatin1_aae02_18
    exact gx_itef (by decide) (gx_gI za1 (by decide) rfl (gx_itet rfl (gx_retZ (Or.inr rfl) ⟨rfl, rfl⟩)))
  refine gx_putH (fs := [.null, .int 0, .int 0, .int 0]) d1 (by decide) (Nat.le_of_ble_eq_true rfl) (by omega) (fun z2 d2 n2 f2 => ?_)
  have zv2 : z2.1 v = some (.inl (1, (cap, .inl g))) := (n2 v (by omega)).trans zv1
  have e22 : z2.2 = some (k + 1) := f2.trans f1
  refine gx_call (Q1 := fun q z3 => q = k + 1 ∧ ∃ f9, z3.1 (k + 1) = some (.inl (1, (t.length, .inl f9))) ∧ (∀ b, ¬ b = k + 1 → z3.1 b = z2.1 b) ∧ z3.2 = some (k + 1 + 1) ∧ ∀ j, j < t.length → f9 j = nI (t.getD j 0)) ?_ ?_
  · unfold qBJ7_copyOfRange_39247
    refine gx_itet rfl (gx_len zv2 (gx_ite (fun c => ?_) (fun c => ?_)))
    · have hc : t.length = cap := nI_eqN (by omega) (by omega) c
      refine gx_callE (b := k + 1) (z1 := (fun b => if b = k + 1 then some (.inl (1, (cap, .inl g))) else z2.1 b, some (k + 1 + 1))) ?_ (gx_callE (b := ()) (z1 := (fun b => if b = k + 1 then some (.inl (1, (cap, .inl g))) else z2.1 b, some (k + 1 + 1))) ?_ (gx_ret ⟨rfl, g, by rw [hc]; exact if_pos rfl, fun b hb => if_neg hb, rfl, fun j hj => hg j hj⟩))
      · unfold osbclone
        rw [osga_of zv2]
        show (if cap ≤ 1200 ∧ ∀ i, i < cap → fits .byte (.int (g i)) = true then osnew (.inl (1, (cap, .inl g))) G z2 else none) = _
        rw [if_pos ⟨by omega, hft⟩]
        unfold osnew; rw [e22]
        show (if G.2.2.1 ≤ k + 1 then _ else none) = _
        rw [if_pos (by omega)]
      · unfold osbcast
        rw [osga_of (x := (cap, .inl g)) (if_pos rfl)]
    · unfold qBJ7_copyOfRange_39247_10 qBJ7_copyOfRangeByte_39247 qBJ7_checkLength_df160
      have em : nI t.length - (0 : Int32) = nI t.length := nI_sub (b := 0) (Nat.zero_le _)
      have em2 : nI cap - (0 : Int32) = nI cap := nI_sub (b := 0) (Nat.zero_le _)
      refine gx_bind (gx_bind (gx_itet ((nI_leI (a := 0) (by omega) (by omega)).mpr (Nat.zero_le _)) (gx_ret ?_)))
      rw [em]
      refine gx_newBy e22 (by omega) (by omega) (by omega) (fun z3 d3 n3 f3 => ?_)
      have zv3 : z3.1 v = some (.inl (1, (cap, .inl g))) := (n3 v (by omega)).trans zv2
      refine gx_len zv3 ?_
      show gx ((osbind (osbcopy v (0 : Int32) (k + 1) (0 : Int32) (osmin (nI cap - (0 : Int32)) (nI t.length))) fun _ => osret (k + 1)) G z3) _
      rw [em2, osmin_ni (by omega) (by omega), show (if t.length < cap then t.length else cap) = t.length by split <;> omega]
      refine gx_bcopy (dp := 0) (n0 := cap) (f := g) (by unfold osbsrc; rw [osfind_n100 hI (by omega), osga_of zv3]) d3 hn (by omega) (by omega) (by omega) (fun j hj => hft j (by omega)) (by omega) (fun z4 d4 n4 f4 => gx_ret (gx_ret ⟨rfl, _, d4, fun b hb => (n4 b hb).trans (n3 b hb), f4.trans f3, fun j hj => ?_⟩))
      unfold va_cpy
      rw [if_pos (by omega)]
      rw [show 0 + (j - 0) = j by omega]
      exact hg j hj
  rintro _ z3 ⟨rfl, f9, d3, n3, f3, hf9⟩
  refine gx_putH (fs := [.null, .int 0, .int 0, .int 0]) ((n3 k (by omega)).trans d2) (by decide) (Nat.le_of_ble_eq_true rfl) (by omega) (fun z4 d4 n4 f4 => gx_ret (gx_ret (gx_ret (fin z3 z4 (k + 1) f9 ?_ d3 (fun b hb => (n3 b (by omega)).trans (n2 b (by omega))) f3 (by omega) hf9 d4 n4 f4))))
  rw [n3 k (by omega), d2, d1]; rfl

end
