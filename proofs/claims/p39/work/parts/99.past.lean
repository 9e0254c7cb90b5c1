/-! what is remembered, in both (by program) -/
section
variable {α : Type} {G : osG} {z : osS} {Q : α → osS → Prop}
theorem gx_aNR {t a n i v : Nat} {g : Nat → Option Nat} {f : Nat → osM α} (h : z.1 a = some (.inl (t, (n, .inr (.inr (.inr (.inr g))))))) (hi : i < n) (hn : n < 2 ^ 31) (hv : g i = some v) (kk : gx (f v G z) Q) : gx (osbind (osaR t a (nI i)) f G z) Q :=
  gx_callE (by
    unfold osaR; rw [osga_of h]
    show (if osin (nI i) n then (match g (nI i).toNatClampNeg with | some v => some (v, z) | none => none) else none) = _
    rw [if_pos (nI_in hi hn), nI_clamp (by omega), hv]) kk
theorem gx_sNQ {t ci a n i v : Nat} {fs : List Value} {g : Nat → Option Nat} {f : Unit → osM α} (h : z.1 a = some (.inl (t, (n, .inr (.inr (.inr (.inr g))))))) (hv : z.1 v = some (.inr (ci, fs))) (hi : i < n) (hn : n < 2 ^ 31) (hA : G.2.2.1 ≤ a) (kk : gx (f () G (osup z a (.inl (t, (n, .inr (.inr (.inr (.inr (va_up g i (some v))))))))) ) Q) : gx (osbind (ossQ t ci a (nI i) v) f G z) Q :=
  gx_callE (by
    unfold ossQ; rw [hv]
    show (if ci = ci then ossR t a (nI i) v G z else none) = _
    rw [if_pos rfl]
    unfold ossR; rw [osga_of h]
    show (if osin (nI i) n ∧ G.2.2.1 ≤ a then _ else none) = _
    rw [if_pos ⟨nI_in hi hn, hA⟩, nI_clamp (by omega)]) kk
end
/-- S says what U says -/
def sE (U S : Nat → Nat → Int32) : Prop := (∀ k, k < 5 → S k 0 = U k 0) ∧ (∀ k, 5 ≤ k → k < 15 → ∀ a, a < 16 → S k a = U k a) ∧ ∀ a, a < 96 → S 15 a = U 15 a
section
variable {C U S : Nat → Nat → Int32} {f : Nat → Int32} {n np T : Nat}
theorem sE_rf : sE U U := ⟨fun _ _ => rfl, fun _ _ _ _ _ => rfl, fun _ _ => rfl⟩
theorem sE_tr {V : Nat → Nat → Int32} (h : sE U S) (h2 : sE S V) : sE U V := ⟨fun k hk => (h2.1 k hk).trans (h.1 k hk), fun k h5 hk a ha => (h2.2.1 k h5 hk a ha).trans (h.2.1 k h5 hk a ha), fun a ha => (h2.2.2 a ha).trans (h.2.2 a ha)⟩
theorem sE_uu (h : sE U S) {a : Nat} (ha : a < 16) : uu S a = uu U a := by unfold uu; rw [h.2.1 6 (by omega) (by omega) a ha]
theorem sE_ds (h : sE U S) {a : Nat} (ha : a < 16) : ds S a = ds U a := by unfold ds; rw [h.2.1 8 (by omega) (by omega) a ha]
theorem cpT_sE (h : sE U S) (ht : cpT U f) : cpT S f := by
  obtain ⟨⟨c0, c1, c2, c3, c4⟩, h1, h2, h3, h4⟩ := ht
  have e := fun k a (ha : a < 16) (h5 : 5 ≤ k) (hk : k < 15) => h.2.1 k h5 hk a ha
  refine ⟨⟨by rw [c0, h.1 0 (by omega)], by rw [c1, h.1 1 (by omega)], by rw [c2, h.1 2 (by omega)], by rw [c3, h.1 3 (by omega)], by rw [c4, h.1 4 (by omega)]⟩, fun a ha => ?_, fun a ha q => ?_, fun a ha q => ?_, fun a w ha hw => ?_⟩
  · rw [e 5 a ha (by omega) (by omega), e 6 a ha (by omega) (by omega), e 8 a ha (by omega) (by omega), e 11 a ha (by omega) (by omega), e 12 a ha (by omega) (by omega), e 13 a ha (by omega) (by omega), e 14 a ha (by omega) (by omega)]
    exact h1 a ha
  · rw [e 7 a ha (by omega) (by omega)]; exact h2 a ha (by rw [← sE_uu h ha]; exact q)
  · rw [e 9 a ha (by omega) (by omega), e 10 a ha (by omega) (by omega)]; exact h3 a ha (by rw [← sE_ds h ha]; exact q)
  · rw [h4 a w ha hw, h.2.2 _ (by omega)]
theorem cpT_fE {g : Nat → Int32} (ht : cpT U f) (h : ∀ j, j < 261 → g j = f j) : cpT U g := by
  obtain ⟨⟨c0, c1, c2, c3, c4⟩, h1, h2, h3, h4⟩ := ht
  refine ⟨⟨by rw [h 0 (by omega)]; exact c0, by rw [h 1 (by omega)]; exact c1, by rw [h 2 (by omega)]; exact c2, by rw [h 3 (by omega)]; exact c3, by rw [h 4 (by omega)]; exact c4⟩, fun a ha => ?_, fun a ha q => ?_, fun a ha q => ?_, fun a w ha hw => ?_⟩
  · rw [h (5 + a) (by omega), h (21 + a) (by omega), h (53 + a) (by omega), h (101 + a) (by omega), h (117 + a) (by omega), h (133 + a) (by omega), h (149 + a) (by omega)]
    exact h1 a ha
  · rw [h (37 + a) (by omega)]; exact h2 a ha q
  · rw [h (69 + a) (by omega), h (85 + a) (by omega)]; exact h3 a ha q
  · rw [h _ (by omega)]; exact h4 a w ha hw
theorem stJ_sE (h : sE U S) (hj : stJ C U n np T) : stJ C S n np T := by
  obtain ⟨i2, ⟨t, t1, t2⟩, i4, i5, i6, i7, i8, i9, i10⟩ := hj
  have e := fun k a (ha : a < 16) (h5 : 5 ≤ k) (hk : k < 15) => h.2.1 k h5 hk a ha
  refine ⟨by rw [h.1 2 (by omega)]; exact i2, ⟨t, by rw [h.1 1 (by omega)]; exact t1, t2⟩, fun a ha q => ?_, fun a ha q => ?_, fun a ha q => ?_, fun a ha q => ?_, ?_, fun a ha q => ?_, fun a ha q => ?_⟩
  · rw [e 7 a ha (by omega) (by omega)]; exact i4 a ha (by rw [← sE_uu h ha]; exact q)
  · rw [e 6 a ha (by omega) (by omega), e 7 a ha (by omega) (by omega)]; exact i5 a ha (by rw [← sE_uu h ha]; exact q)
  · rw [e 8 a ha (by omega) (by omega), e 9 a ha (by omega) (by omega)]; exact i6 a ha (by rw [← sE_ds h ha]; exact q)
  · rw [e 9 a ha (by omega) (by omega), e 11 a ha (by omega) (by omega)]; exact i7 a ha (by rw [← sE_ds h ha]; exact q)
  · rw [fb_ct_cong (fun a ha => sE_uu h ha), fb_ct_cong (fun a ha => sE_ds h ha)]; exact i8
  · rw [e 5 a ha (by omega) (by omega)] at q ⊢; exact i9 a ha q
  · rw [e 11 a ha (by omega) (by omega)] at q ⊢; exact i10 a ha q
theorem stI_sE (h : sE U S) (h16 : n ≤ 16) (hi : stI C U n np T) : stI C S n np T := by
  obtain ⟨hj, h0, h1, h2⟩ := hi
  have e := fun k a (ha : a < 16) (h5 : 5 ≤ k) (hk : k < 15) => h.2.1 k h5 hk a ha
  refine ⟨stJ_sE h hj, by rw [h.1 0 (by omega)]; exact h0, fun a ha q => by rw [h.1 0 (by omega)]; exact h1 a ha (by rw [← sE_ds h ha]; exact q), fun q a ha hu => ?_⟩
  rw [h.1 0 (by omega)] at q
  rw [sE_uu h ha] at hu
  obtain ⟨o1, o2, o3, o4, o5, o6⟩ := h2 q a ha hu
  have eg : gof S a = gof U a := by unfold gof; rw [e 13 a ha (by omega) (by omega)]
  have es : sof S a = sof U a := by unfold sof; rw [e 14 a ha (by omega) (by omega)]
  rw [e 12 a ha (by omega) (by omega), e 13 a ha (by omega) (by omega), e 14 a ha (by omega) (by omega), eg, es]
  refine ⟨o1, o2, o3, o4, o5, fun q2 => ?_⟩
  have := (o3 (by rw [q2]; decide)).2
  rw [sE_uu h (by omega)]
  exact o6 q2
end
/-- the class remembers: s places were given up, v stay -/
def remC (W W' : Nat → Nat → Nat → Int32) (s v : Nat) : Prop := W' 0 9 0 = nI (v + 1) ∧ (∀ i, i < v → W' (8 + i) = W (8 + i + s)) ∧ sE (W 3) (W' (8 + v)) ∧ (∀ k, ¬ k = 0 → k < 8 ∨ 14 ≤ k → W' k = W k) ∧ ∀ r, ¬ r = 9 → W' 0 r = W 0 r
section
variable {G : osG} {z : osS} {N x v : Nat} {ad : Nat → Nat} {W : Nat → Nat → Nat → Int32} {D : osS}
theorem q_X9_remember_56 (hw : WD z x ad W D) (hA : G.2.2.1 ≤ x) (hv : W 0 9 0 = nI v) (h5 : v ≤ 5) (hb2 : W 3 2 0 = 0 ∨ W 3 2 0 = 1) : gx (qX9_remember_56 N x G z) (fun _ z' => ∃ W', WD z' x ad W' D ∧ remC W W' 0 v) := by
  unfold qX9_remember_56 qX9_remember_89
  obtain ⟨f, hf, hf2⟩ := hw.pa
  have hp := hw.ok.p (i := v) (by omega)
  have hs := hw.ok.s
  refine gx_gI hw.x9.o (by decide) rfl ?_
  rw [hv]
  refine gx_itef (nI_pos (by omega)) (gx_gR hw.x9.o (by decide) rfl (gx_gI hw.x9.o (by decide) rfl ?_))
  rw [hv]
  refine gx_aNR hf (by omega) (by omega) (hf2 v (by omega)) (gx_gR hw.x9.o (by decide) rfl (gx_recvQ (hw.ps (i := v) (by omega)).o (by decide) (q_X5_copyFrom (hw.ps (i := v) (by omega)) hw.nw (by omega) (by omega) hb2) (fun _ z1 ⟨f1, S', h1, e1, e2, e3⟩ => ?_)))
  have hw1 := hw.cp (by omega) f1 h1
  refine gx_gI hw1.x9.o (by decide) rfl (hw1.x9.p9 (by decide) hA (fun z2 f2 h2 => gx_ret ⟨_, hw1.c9 f2 h2, ?_, fun i hi => ?_, ?_, fun k k0 hk => ?_, fun r hr => ?_⟩))
  · show Ws _ 0 _ 0 9 0 = _
    rw [Ws_eq]
    show Ws W (8 + v) S' 0 9 0 + (1 : Int32) = _
    rw [Ws_ne (by omega), hv]; exact nI_sum (b := 1) rfl rfl
  · rw [Ws_ne (by omega), Ws_ne (by omega)]; rfl
  · rw [Ws_ne (by omega), Ws_eq]; exact ⟨e1, e2, e3⟩
  · rw [Ws_ne (by omega), Ws_ne (by omega)]
  · rw [Ws_eq]
    show (cset (Ws W (8 + v) S' 0) 9 _) r = _
    rw [cset_ne hr, Ws_ne (by omega)]
def rotA (ad : Nat → Nat) (k : Nat) : Nat := if k < 4 then ad k else if k < 9 then ad (k + 1) else if k = 9 then ad 4 else ad k
def rotW (W : Nat → Nat → Nat → Int32) (k : Nat) : Nat → Nat → Int32 := if k < 8 then W k else if k < 13 then W (k + 1) else if k = 13 then W 8 else W k
theorem rotA_5 {i : Nat} (h : i < 5) : rotA ad (4 + i) = ad (4 + (i + 1)) := by unfold rotA; rw [if_neg (by omega), if_pos (by omega)]; rfl
theorem rotA_9 : rotA ad (4 + 5) = ad 4 := rfl
theorem rotW_5 {i : Nat} (h : i < 5) : rotW W (8 + i) = W (8 + (i + 1)) := by unfold rotW; rw [if_neg (by omega), if_pos (by omega)]; rfl
theorem rotA_ok (h : adOK x ad) : adOK x (rotA ad) := by
  obtain ⟨h1, h2, h3, h4⟩ := h
  refine ⟨h1, h2, fun i hi => ?_, fun i j hi hj e => ?_⟩
  · by_cases q : i = 5
    · subst q; exact h3 0 (by omega)
    · rw [rotA_5 (by omega)]; exact h3 (i + 1) (by omega)
  · by_cases q : i = 5 <;> by_cases q2 : j = 5
    · omega
    · subst q
      rw [rotA_9, rotA_5 (by omega)] at e
      have := h4 0 (j + 1) (by omega) (by omega) e
      omega
    · subst q2
      rw [rotA_9, rotA_5 (by omega)] at e
      have := h4 (i + 1) 0 (by omega) (by omega) e
      omega
    · rw [rotA_5 (by omega), rotA_5 (by omega)] at e
      have := h4 (i + 1) (j + 1) (by omega) (by omega) e
      omega
theorem q_X9_remember (hw : WD z x ad W D) (hA : G.2.2.1 ≤ x) {u : Nat} (hv : W 0 9 0 = nI u) (h6 : u ≤ 6) (hb2 : W 3 2 0 = 0 ∨ W 3 2 0 = 1) (hN : 5000 < N) : gx (qX9_remember N x G z) (fun _ z' => ∃ ad' W' s v, WD z' x ad' W' D ∧ u = v + s ∧ v ≤ 5 ∧ (s = 0 ∨ s = 1 ∧ v = 5) ∧ remC W W' s v) := by
  unfold qX9_remember
  refine gx_gI hw.x9.o (by decide) rfl ?_
  rw [hv]
  by_cases q : u < 6
  · exact gx_itet ((nI_ltI (b := 6) (by omega) (by omega)).mpr q) (gx_mono (q_X9_remember_56 hw hA hv (by omega) hb2) (fun _ z' ⟨W', h1, h2⟩ => ⟨ad, W', 0, u, h1, rfl, by omega, Or.inl rfl, h2⟩))
  · have hu : u = 6 := by omega
    subst hu
    obtain ⟨f, hf, hf2⟩ := hw.pa
    refine gx_itef (fun c => q ((nI_ltI (b := 6) (by omega) (by omega)).mp c)) (gx_gR hw.x9.o (by decide) rfl (gx_aNR (i := 0) hf (by omega) (by omega) (hf2 0 (by omega)) ?_))
    have hp : ∀ i, i < 6 → x + 57 ≤ ad (4 + i) := fun i hi => (hw.ok.p hi).1
    refine gx_loop 5 (fun i p z' => p = (x, ad 4, nI (i + 1)) ∧ osFr (x + 20) (x + 21) z z' ∧ ∃ f', z'.1 (x + 20) = some (.inl (5, (6, .inr (.inr (.inr (.inr f')))))) ∧ (∀ j, j < i → f' j = some (ad (4 + (j + 1)))) ∧ ∀ j, i ≤ j → j < 6 → f' j = some (ad (4 + j))) ?_ ?_ N 0 _ z (Nat.zero_le _) (by omega) ⟨rfl, osFr.rf, f, hf, fun j hj => absurd hj (by omega), fun j _ hj => hf2 j hj⟩
    · rintro ih i p z' hi ⟨rfl, fr, f', h', a1, a2⟩ k
      show gx (bX9_remember_18 N ih x (ad 4) (nI (i + 1)) G z') _
      unfold bX9_remember_18
      have h9 := hw.x9.keep fr (by omega)
      have h5 := (hw.ps (i := i + 1) (by omega)).keep fr (by have := hp (i + 1) (by omega); omega)
      refine gx_itef (nI_ge (a := i + 1) (b := 6) (by omega) (by omega)) (gx_gR h9.o (by decide) rfl (gx_gR h9.o (by decide) rfl (gx_aNR h' (by omega) (by omega) (a2 (i + 1) (by omega) (by omega)) ?_)))
      rw [show nI (i + 1) - (1 : Int32) = nI i from nI_sub (a := i + 1) (b := 1) (by omega)]
      refine gx_sNQ h' h5.o (by omega) (by omega) (by omega) (k _ _ ⟨?_, fr.up (by omega) (by omega), _, osup_eq, fun j hj => ?_, fun j hj hj2 => ?_⟩)
      · exact congrArg (fun t => (_, _, t)) (nI_sum (b := 1) rfl rfl)
      · unfold va_up
        by_cases e : j = i
        · subst e; simp
        · rw [if_neg e]; exact a1 j (by omega)
      · unfold va_up
        rw [if_neg (by omega)]; exact a2 j (by omega) hj2
    · rintro ih p z' ⟨rfl, fr, f', h', a1, a2⟩
      show gx (bX9_remember_18 N ih x (ad 4) (nI (5 + 1)) G z') _
      unfold bX9_remember_18
      have h9 := hw.x9.keep fr (by omega)
      have h5 := (hw.ps (i := 0) (by omega)).keep fr (by have := hp 0 (by omega); omega)
      refine gx_itet ((nI_leI (a := 6) (b := 6) (by omega) (by omega)).mpr (Nat.le_refl 6)) (gx_gR h9.o (by decide) rfl (gx_sNQ (i := 5) h' h5.o (by omega) (by omega) (by omega) ?_))
      have fr2 : osFr (x + 20) (x + 21) z (osup z' (x + 20) (.inl (5, (6, .inr (.inr (.inr (.inr (va_up f' 5 (some (ad 4)))))))))) := fr.up (by omega) (by omega)
      refine (hw.x9.keep fr2 (by omega)).p9 (by decide) hA (fun z3 f3 h3 => ?_)
      have fr3 : osFr x (x + 21) z z3 := (fr2.wide (by omega) (by omega)).tr (f3.wide (by omega) (by omega))
      have hb9 := (rotA_ok hw.ok).b
      have hs9 := (rotA_ok hw.ok).s
      have w3 : WD z3 x (rotA ad) (Ws (rotW W) 0 (cset (W 0) 9 fun _ => (5 : Int32))) D := by
        refine ⟨rotA_ok hw.ok, hw.fr.tr (fr3.wide (by omega) (by omega)), ⟨h3, (hw.x4.keep fr2 (by omega)).keep f3 (by omega), (hw.x1.keep fr2 (by omega)).keep f3 (by omega), (hw.x2.keep fr2 (by omega)).keep f3 (by omega), hw.bd.keep fr3 (by have := hw.ok.b; omega), hw.sp.keep fr3 (by have := hw.ok.b; omega), hw.nw.keep fr3 (by have := hw.ok.s; omega), hw.dr.keep fr3 (by have := hw.ok.s; omega), ⟨va_up f' 5 (some (ad 4)), f3.at (by omega) osup_eq, fun i hi => ?_⟩, fun i hi => ?_, ?_, ?_⟩, trivial, trivial⟩
        · unfold va_up
          by_cases e : i = 5
          · subst e; rw [if_pos rfl, rotA_9]
          · rw [if_neg e, rotA_5 (by omega)]; exact a1 i (by omega)
        · by_cases e : i = 5
          · subst e
            show rX5 z3 (ad (4 + 0)) (W 8)
            exact (hw.ps (i := 0) (by omega)).keep fr3 (by have := hp 0 (by omega); omega)
          · rw [rotA_5 (by omega), Ws_ne (by omega), rotW_5 (by omega)]; exact (hw.ps (i := i + 1) (by omega)).keep fr3 (by have := hp (i + 1) (by omega); omega)
        · obtain ⟨⟨t, A, B, q⟩, _⟩ := hw.rd
          exact ⟨t, A, B, (q.keep fr2 (by omega)).keep f3 (by omega)⟩
        · obtain ⟨_, t, A, B, q⟩ := hw.rd
          exact ⟨t, A, B, (q.keep fr2 (by omega)).keep f3 (by omega)⟩
      refine gx_mono (q_X9_remember_56 (v := 5) w3 hA rfl (by omega) hb2) (fun _ z4 ⟨W', h1, r1, r2, r3, r4, r5⟩ => ⟨rotA ad, W', 1, 5, h1, rfl, by omega, Or.inr ⟨rfl, rfl⟩, r1, fun i hi => ?_, r3, fun k k0 hk => ?_, fun r hr => ?_⟩)
      · rw [r2 i hi, Ws_ne (by omega)]; exact rotW_5 hi
      · rw [r4 k k0 hk, Ws_ne k0]
        unfold rotW
        rcases hk with hk | hk
        · rw [if_pos hk]
        · rw [if_neg (by omega), if_neg (by omega), if_neg (by omega)]
      · rw [r5 r hr, Ws_eq, cset_ne hr]
end
