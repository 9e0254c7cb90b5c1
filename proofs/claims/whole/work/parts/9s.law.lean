/-! the law's cases (2), one round (by program) -/
section
variable {G : osG} {z : osS} {N L x b i n np T : Nat} {xs : Nat → Int32} {ih : Nat × Nat × Nat × Nat × Nat × Int32 → osM Int32} {ad : Nat → Nat} {W : Nat → Nat → Nat → Int32} {D : Nat → Nat → Int64} {Q : Int32 → osS → Prop}
theorem law_9 (hw : WD z x ad W D) (hi : IVn W D n np T) (hI : osInj G) (hA : G.2.2.1 ≤ x) (hN : 5000 < N) (hT : T < 5000) (hl : i + 6 ≤ L) (hL : L < 2 ^ 31) (hk : ∀ z2 ad W D, WD z2 x ad W D → IV W D (T + 1) → gx (qL_law_2037 N L xs ih b x (x + 129) (x + 150) (x + 151) (nI i) G z2) Q) : gx ((osbind (ossld L xs ((nI i) + (1 : Int32))) fun x51 => osbind (ossld L xs ((nI i) + (2 : Int32))) fun x52 => osbind (ossld L xs ((nI i) + (3 : Int32))) fun x53 => osite (x53 = 0) (qL_law_623 N L xs ih b x (x + 129) (x + 150) (x + 151) (nI i) (0 : Int32) x52 x51 x) (qL_law_623 N L xs ih b x (x + 129) (x + 150) (x + 151) (nI i) (1 : Int32) x52 x51 x)) G z) Q := by
  have hi1 := IV_T hi (Nat.le_succ T)
  simp only [gx_ld (v := (1 : Int32)) (j := 1) rfl (show i + 1 < L by omega) hL, gx_ld (v := (2 : Int32)) (j := 2) rfl (show i + 2 < L by omega) hL, gx_ld (v := (3 : Int32)) (j := 3) rfl (show i + 3 < L by omega) hL]
  by_cases c : xs (i + 3) = 0
  · simp only [osite_t c]
    unfold qL_law_623 qL_passes qL_law_656
    simp only [gx_ld (v := (1 : Int32)) (j := 1) rfl (show i + 1 < L by omega) hL, gx_ld (v := (2 : Int32)) (j := 2) rfl (show i + 2 < L by omega) hL, gx_ld (v := (3 : Int32)) (j := 3) rfl (show i + 3 < L by omega) hL, osite_t c]
    exact case_Bc hw hA (call_of hw (p_passes false hw hi1 hA hN)) hk
  · simp only [osite_f c]
    unfold qL_law_623 qL_passes qL_law_656
    simp only [gx_ld (v := (1 : Int32)) (j := 1) rfl (show i + 1 < L by omega) hL, gx_ld (v := (2 : Int32)) (j := 2) rfl (show i + 2 < L by omega) hL, gx_ld (v := (3 : Int32)) (j := 3) rfl (show i + 3 < L by omega) hL, osite_f c]
    exact case_Bc hw hA (call_of hw (p_passes true hw hi1 hA hN)) hk
theorem law_10 (hw : WD z x ad W D) (hi : IVn W D n np T) (hI : osInj G) (hA : G.2.2.1 ≤ x) (hN : 5000 < N) (hT : T < 5000) (hl : i + 6 ≤ L) (hL : L < 2 ^ 31) (hk : ∀ z2 ad W D, WD z2 x ad W D → IV W D (T + 1) → gx (qL_law_2037 N L xs ih b x (x + 129) (x + 150) (x + 151) (nI i) G z2) Q) : gx ((osbind (ossld L xs ((nI i) + (1 : Int32))) fun x54 => osbind (ossld L xs ((nI i) + (2 : Int32))) fun x55 => osbind (ossld L xs ((nI i) + (3 : Int32))) fun x56 => osite (x56 = 0) (qL_law_726 N L xs ih b x (x + 129) (x + 150) (x + 151) (nI i) (0 : Int32) x55 x54 x) (qL_law_726 N L xs ih b x (x + 129) (x + 150) (x + 151) (nI i) (1 : Int32) x55 x54 x)) G z) Q := by
  have hi1 := IV_T hi (Nat.le_succ T)
  simp only [gx_ld (v := (1 : Int32)) (j := 1) rfl (show i + 1 < L by omega) hL, gx_ld (v := (2 : Int32)) (j := 2) rfl (show i + 2 < L by omega) hL, gx_ld (v := (3 : Int32)) (j := 3) rfl (show i + 3 < L by omega) hL]
  by_cases c : xs (i + 3) = 0
  · simp only [osite_t c]
    unfold qL_law_726 qL_distance qL_law_759
    simp only [gx_ld (v := (1 : Int32)) (j := 1) rfl (show i + 1 < L by omega) hL, gx_ld (v := (2 : Int32)) (j := 2) rfl (show i + 2 < L by omega) hL, gx_ld (v := (3 : Int32)) (j := 3) rfl (show i + 3 < L by omega) hL, osite_t c]
    exact case_Ic hw hA (call_of hw (p_distance false hw hi1 hA hN)) hk
  · simp only [osite_f c]
    unfold qL_law_726 qL_distance qL_law_759
    simp only [gx_ld (v := (1 : Int32)) (j := 1) rfl (show i + 1 < L by omega) hL, gx_ld (v := (2 : Int32)) (j := 2) rfl (show i + 2 < L by omega) hL, gx_ld (v := (3 : Int32)) (j := 3) rfl (show i + 3 < L by omega) hL, osite_f c]
    exact case_Ic hw hA (call_of hw (p_distance true hw hi1 hA hN)) hk
theorem law_26 (hw : WD z x ad W D) (hi : IVn W D n np T) (hI : osInj G) (hA : G.2.2.1 ≤ x) (hN : 5000 < N) (hT : T < 5000) (hl : i + 6 ≤ L) (hL : L < 2 ^ 31) (hk : ∀ z2 ad W D, WD z2 x ad W D → IV W D (T + 1) → gx (qL_law_2037 N L xs ih b x (x + 129) (x + 150) (x + 151) (nI i) G z2) Q) : gx ((osbind (ossld L xs ((nI i) + (1 : Int32))) fun x137 => osbind (ossld L xs ((nI i) + (2 : Int32))) fun x138 => osbind (ossld L xs ((nI i) + (3 : Int32))) fun x139 => osite (x139 = 0) (qL_law_1559 N L xs ih b x (x + 129) (x + 150) (x + 151) (nI i) (0 : Int32) x138 x137 x) (qL_law_1559 N L xs ih b x (x + 129) (x + 150) (x + 151) (nI i) (1 : Int32) x138 x137 x)) G z) Q := by
  have hi1 := IV_T hi (Nat.le_succ T)
  simp only [gx_ld (v := (1 : Int32)) (j := 1) rfl (show i + 1 < L by omega) hL, gx_ld (v := (2 : Int32)) (j := 2) rfl (show i + 2 < L by omega) hL, gx_ld (v := (3 : Int32)) (j := 3) rfl (show i + 3 < L by omega) hL]
  by_cases c : xs (i + 3) = 0
  · simp only [osite_t c]
    unfold qL_law_1559 qL_reach qL_law_1592
    simp only [gx_ld (v := (1 : Int32)) (j := 1) rfl (show i + 1 < L by omega) hL, gx_ld (v := (2 : Int32)) (j := 2) rfl (show i + 2 < L by omega) hL, gx_ld (v := (3 : Int32)) (j := 3) rfl (show i + 3 < L by omega) hL, osite_t c]
    exact case_Ic hw hA (call_of hw (p_reach false hw hi1 hA hN)) hk
  · simp only [osite_f c]
    unfold qL_law_1559 qL_reach qL_law_1592
    simp only [gx_ld (v := (1 : Int32)) (j := 1) rfl (show i + 1 < L by omega) hL, gx_ld (v := (2 : Int32)) (j := 2) rfl (show i + 2 < L by omega) hL, gx_ld (v := (3 : Int32)) (j := 3) rfl (show i + 3 < L by omega) hL, osite_f c]
    exact case_Ic hw hA (call_of hw (p_reach true hw hi1 hA hN)) hk
theorem law_33 (hw : WD z x ad W D) (hi : IVn W D n np T) (hI : osInj G) (hA : G.2.2.1 ≤ x) (hN : 5000 < N) (hT : T < 5000) (hl : i + 6 ≤ L) (hL : L < 2 ^ 31) (hk : ∀ z2 ad W D, WD z2 x ad W D → IV W D (T + 1) → gx (qL_law_2037 N L xs ih b x (x + 129) (x + 150) (x + 151) (nI i) G z2) Q) : gx ((osbind (osrecv [7] x (qX9_writeUnits N x)) fun x169 => osbind (osrecv [8] (x + 129) (qX10_writeUnits N (x + 129))) fun x170 => osite (x169 = x170) (qL_law_2037 N L xs ih b x (x + 129) (x + 150) (x + 151) (nI i)) (osret (0 : Int32))) G z) Q := by
  have hi1 := IV_T hi (Nat.le_succ T)
  refine gx_recvQ hw.x9.o (by decide) (d_writeUnits hw hi1 hI hA hN) (fun v z1 ⟨⟨ad1, W1, D1, w1⟩, hr⟩ => gx_recvQ w1.m.o (by decide) hr (fun b2 z2 ⟨e, fr, ad2, W2, D2, w2, i2, _⟩ => gx_itet e (hk z2 ad2 W2 D2 w2 i2)))
theorem law_31 (hw : WD z x ad W D) (hi : IVn W D n np T) (hI : osInj G) (hA : G.2.2.1 ≤ x) (hN : 5000 < N) (hT : T < 5000) (hl : i + 6 ≤ L) (hL : L < 2 ^ 31) (hk : ∀ z2 ad W D, WD z2 x ad W D → IV W D (T + 1) → gx (qL_law_2037 N L xs ih b x (x + 129) (x + 150) (x + 151) (nI i) G z2) Q) : gx ((osbind (osrecv [7] x (qX9_unevennessBits N x)) fun x163 => osbind (osrecv [8] (x + 129) (qX10_unevennessBits N (x + 129))) fun x164 => osite ((lg_cmp x163 x164) = 0) (qL_law_2037 N L xs ih b x (x + 129) (x + 150) (x + 151) (nI i)) (osret (0 : Int32))) G z) Q := by
  have hi1 := IV_T hi (Nat.le_succ T)
  obtain ⟨y, h1, h2⟩ := d_unevenBits hw hi1 hA hN
  refine gx_recvE hw.x9.o (by decide) h1 (gx_recvQ hw.m.o (by decide) h2 (fun b2 z2 ⟨e, fr, ad2, W2, D2, w2, i2, _⟩ => ?_))
  subst e
  exact gx_itet lcmp_r (hk z2 ad2 W2 D2 w2 i2)
theorem law_30 (hw : WD z x ad W D) (hi : IVn W D n np T) (hI : osInj G) (hA : G.2.2.1 ≤ x) (hN : 5000 < N) (hT : T < 5000) (hl : i + 6 ≤ L) (hL : L < 2 ^ 31) (hk : ∀ z2 ad W D, WD z2 x ad W D → IV W D (T + 1) → gx (qL_law_2037 N L xs ih b x (x + 129) (x + 150) (x + 151) (nI i) G z2) Q) : gx ((osbind (osrecv [7] x (qX9_unevenness N x)) fun x161 => osbind (osrecv [8] (x + 129) (qX10_unevenness N (x + 129))) fun x162 => osite ((Op.cmpValue (FP.dcmp x161 x162) .l) = 0) (qL_law_1863 N L xs ih b x (x + 129) (x + 150) (x + 151) (nI i)) (osite ((Op.cmpValue (FP.dcmp x161 x161) .l) = 0) (qL_law_1861 N L xs ih ) (osite ((Op.cmpValue (FP.dcmp x162 x162) .l) = 0) (qL_law_1861 N L xs ih ) (qL_law_1863 N L xs ih b x (x + 129) (x + 150) (x + 151) (nI i))))) G z) Q := by
  have hi1 := IV_T hi (Nat.le_succ T)
  obtain ⟨y, ok, h1, h2⟩ := d_uneven hw hi1 hA hN
  unfold dOK at ok
  rw [Bool.and_eq_true] at ok
  refine gx_recvE hw.x9.o (by decide) h1 (gx_recvQ hw.m.o (by decide) h2 (fun b2 z2 ⟨e, fr, ad2, W2, D2, w2, i2, _⟩ => ?_))
  subst e
  exact gx_itet (of_decide_eq_true ok.1) (hk z2 ad2 W2 D2 w2 i2)
theorem law_28 (hw : WD z x ad W D) (hi : IVn W D n np T) (hI : osInj G) (hA : G.2.2.1 ≤ x) (hN : 5000 < N) (hT : T < 5000) (hl : i + 6 ≤ L) (hL : L < 2 ^ 31) (hk : ∀ z2 ad W D, WD z2 x ad W D → IV W D (T + 1) → gx (qL_law_2037 N L xs ih b x (x + 129) (x + 150) (x + 151) (nI i) G z2) Q) : gx ((osbind (ossld L xs ((nI i) + (1 : Int32))) fun x146 => osbind (qL_share N x x146 (x + 151)) fun x147 => osbind (ossld L xs ((nI i) + (1 : Int32))) fun x148 => osbind (osrecv [8] (x + 129) (qX10_share N (x + 129) x148)) fun x149 => osbind (osrecv [8] (x + 129) (qX10_thrown N (x + 129))) fun x150 => osite (x150 = x147) (osite (x147 = 0) (osbind (osaD 4 (x + 151) (0 : Int32)) fun x151 => osguard (osn64 (FP.f2d x149)) (osite ((Op.cmpValue (FP.dcmp x151 (FP.f2d x149)) .l) = 0) (qL_law_1766 N L xs ih b x (x + 129) (x + 150) (x + 151) (nI i)) (osbind (osaD 4 (x + 151) (0 : Int32)) fun x153 => osbind (osaD 4 (x + 151) (0 : Int32)) fun x154 => osite ((Op.cmpValue (FP.dcmp x153 x154) .l) = 0) (qL_law_1764 N L xs ih ) (osite ((Op.cmpValue (FP.fcmp x149 x149) .l) = 0) (qL_law_1764 N L xs ih ) (qL_law_1766 N L xs ih b x (x + 129) (x + 150) (x + 151) (nI i)))))) (qL_law_1766 N L xs ih b x (x + 129) (x + 150) (x + 151) (nI i))) (osret (0 : Int32))) G z) Q := by
  have hi1 := IV_T hi (Nat.le_succ T)
  unfold qL_share qL_law_1766
  simp only [gx_ld (v := (1 : Int32)) (j := 1) rfl (show i + 1 < L by omega) hL]
  rcases d_share (v := xs (i + 1)) hw hi1 hA hN with ⟨h1, h2⟩ | ⟨y, ok, h1, h2⟩
  · refine gx_bind (gx_bindC (gx_recv hw.x9.o (by decide) ⟨_, z, h1, ?_⟩))
    refine gx_hand ⟨(2, 1), rfl, rfl⟩ (gx_recvQ hw.m.o (by decide) h2 (fun b2 z2 ⟨ad2, W2, D2, w2, i2, e0⟩ => gx_recvE w2.m.o (by decide) (q_X10_thrown w2.m) ?_))
    exact gx_itet e0 (gx_itef (by decide) (hk z2 ad2 W2 D2 w2 i2))
  · unfold fOK at ok
    simp only [Bool.and_eq_true, decide_eq_true_eq] at ok
    obtain ⟨o1, o2, o3, _⟩ := ok
    obtain ⟨_, g, hg⟩ := hw.2.2.2.2
    have hs : gx ((osbind (ossD 4 (x + 151) (0 : Int32) (FP.f2d y)) fun _ => osret (0 : Int32)) G z) (fun a z' => a = 0 ∧ z' = osup z (x + 151) (.inl (4, (1, .inr (.inr (.inr (.inl (vf_upd g 0 (FP.f2d y))))))))) := by
      refine gx_callE (b := ()) (z1 := osup z (x + 151) (.inl (4, (1, .inr (.inr (.inr (.inl (vf_upd g 0 (FP.f2d y))))))))) ?_ (gx_ret ⟨rfl, rfl⟩)
      unfold ossD; rw [osga_of hg]
      show (if osin (nI 0) 1 ∧ G.2.2.1 ≤ x + 151 then _ else none) = _
      rw [if_pos ⟨nI_in (by omega) (by omega), by omega⟩]; rfl
    refine gx_bind (gx_bindC (gx_recv hw.x9.o (by decide) ⟨_, z, h1, ?_⟩))
    refine gx_guard o2 (gx_mono hs (fun a z' ⟨ea, ez⟩ => ?_))
    subst ea
    have w1 : WD z' x ad W D := by subst ez; exact hw.outD (osFr.rf.up (by omega) (by omega)) osup_eq
    have hy : z'.1 (x + 151) = some (.inl (4, (1, .inr (.inr (.inr (.inl (vf_upd g 0 (FP.f2d y))))))) ) := by subst ez; exact osup_eq
    refine gx_recvQ w1.m.o (by decide) (h2 z' ad w1) (fun b2 z2 ⟨e, fr, ad2, W2, D2, w2, i2, e0⟩ => ?_)
    subst e
    have hy2 := fr.at (by omega) hy
    refine gx_recvE w2.m.o (by decide) (q_X10_thrown w2.m) (gx_itet e0 (gx_itet rfl (gx_callE (b := FP.f2d y) (z1 := z2) ?_ (gx_guard o2 (gx_itet o3 (hk z2 ad2 W2 D2 w2 i2))))))
    unfold osaD; rw [osga_of hy2]
    show (if osin (nI 0) 1 then some (vf_upd g 0 (FP.f2d y) (nI 0).toNatClampNeg, z2) else none) = _
    rw [if_pos (nI_in (by omega) (by omega)), nI_clamp (by omega)]
    simp [vf_upd]
end
