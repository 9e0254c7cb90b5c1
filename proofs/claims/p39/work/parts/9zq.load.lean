/-! load, in both (by program) -/
section
variable {G : osG} {α : Type} {N m n : Nat} {M : Nat → Nat → Int32} {D : Nat → Nat → Int64}
end
section
variable {C S : Nat → Nat → Int32}
theorem bc_at : ∀ (i : Nat), (∀ k, ¬ (k = 6 ∨ k = 7 ∨ k = 8) → osit (fun a W => stBC a W) 0 i C k = C k) ∧ ∀ a, a < i → osit (fun a W => stBC a W) 0 i C 6 a = -1 ∧ osit (fun a W => stBC a W) 0 i C 7 a = 0 ∧ osit (fun a W => stBC a W) 0 i C 8 a = 0
  | 0 => ⟨fun _ _ => rfl, fun a ha => absurd ha (Nat.not_lt_zero a)⟩
  | i + 1 => by
    obtain ⟨h1, h2⟩ := bc_at i
    rw [osit_last, Nat.zero_add]
    generalize osit (fun a W => stBC a W) 0 i C = X at h1 h2 ⊢
    refine ⟨fun k hk => ?_, fun a ha => ?_⟩
    · show stBC i X k = _
      unfold stBC
      rw [cset_ne (by omega), cset_ne (by omega), cset_ne (by omega)]; exact h1 k hk
    · show upd (X 6) i (-1) a = -1 ∧ upd (X 7) i 0 a = 0 ∧ upd (X 8) i 0 a = 0
      by_cases e : a = i
      · subst e; exact ⟨upd_eq, upd_eq, upd_eq⟩
      · rw [upd_ne e, upd_ne e, upd_ne e]; exact h2 a (by omega)
theorem bclr_at : bclr C 0 0 = 0 ∧ bclr C 1 0 = 0 ∧ bclr C 2 0 = 0 ∧ bclr C 3 0 = 0 ∧ bclr C 4 0 = 0 ∧ ∀ a, a < 16 → bclr C 6 a = -1 ∧ bclr C 7 a = 0 ∧ bclr C 8 a = 0 := by
  unfold bclr
  obtain ⟨h1, h2⟩ := bc_at (C := bclr0 C) 16
  rw [h1 0 (by omega), h1 1 (by omega), h1 2 (by omega), h1 3 (by omega), h1 4 (by omega)]
  exact ⟨rfl, rfl, rfl, rfl, rfl, h2⟩
theorem sclr_at : sclr S 0 0 = 0 ∧ sclr S 1 0 = 1 ∧ sclr S 2 0 = 0 ∧ sclr S 3 0 = 0 ∧ sclr S 4 0 = 0 ∧ (∀ a, a < 16 → sclr S 5 a = -1 ∧ sclr S 6 a = -1 ∧ sclr S 7 a = -1 ∧ sclr S 8 a = -1 ∧ sclr S 9 a = -1 ∧ sclr S 10 a = -1 ∧ sclr S 11 a = -1 ∧ sclr S 12 a = 0 ∧ sclr S 13 a = -1 ∧ sclr S 14 a = -1) ∧ ∀ j, j < 96 → sclr S 15 j = 0 := by
  unfold sclr
  rw [cf_HA, cf_CD, cf_CU, cf_SR, cf_SO]
  refine ⟨rfl, rfl, rfl, rfl, rfl, fun a ha => ⟨?_, ?_, ?_, ?_, ?_, ?_, ?_, ?_, ?_, ?_⟩, fun j hj => ?_⟩
  · exact fl_in (g := fun _ => -1) ha
  · exact fl_in (g := fun _ => -1) ha
  · exact fl_in (g := fun _ => -1) ha
  · exact fl_in (g := fun _ => -1) ha
  · exact fl_in (g := fun _ => -1) ha
  · exact fl_in (g := fun _ => -1) ha
  · exact fl_in (g := fun _ => -1) ha
  · exact fl_in (g := fun _ => 0) ha
  · exact fl_in (g := fun _ => -1) ha
  · exact fl_in (g := fun _ => -1) ha
  · exact fl_in (g := fun _ => 0) hj
theorem QM_0 {g g4 f : Nat → Int32} {d : Nat → Int64} (h2 : ∀ j, j < 98 → g j = clM j) (h4 : g4 = holdF f) (hf : ∀ j, j < 261 → f j = clD j) : QM (bclr C) (sclr S) g d g4 0 0 := by
  obtain ⟨b0, b1, b2, b3, b4, br⟩ := bclr_at (C := C)
  obtain ⟨s0, s1, s2, s3, s4, sr, s15⟩ := sclr_at (S := S)
  have m0 : ∀ j, j < 98 → ¬ (34 ≤ j ∧ j < 50) → g j = 0 := fun j hj hn => by rw [h2 j hj]; unfold clM; rw [if_neg hn]
  have gx4 : ∀ j, j < 261 → g4 j = if 117 ≤ j ∧ j < 133 then 0 else if 133 ≤ j ∧ j < 165 then -1 else clD j := fun j hj => by rw [h4, holdF_at, hf j hj]
  have g0 : ∀ j, j < 261 → ¬ j = 1 → ¬ (5 ≤ j ∧ j < 37 ∨ 53 ≤ j ∧ j < 69 ∨ 85 ≤ j ∧ j < 117) → ¬ (133 ≤ j ∧ j < 165) → g4 j = 0 := fun j hj h1 hn h3 => by
    rw [gx4 j hj]
    by_cases q : 117 ≤ j ∧ j < 133
    · rw [if_pos q]
    · rw [if_neg q, if_neg h3]
      unfold clD; rw [if_neg h1, if_neg hn]
  have g1 : ∀ j, j < 261 → ¬ j = 1 → (5 ≤ j ∧ j < 37 ∨ 53 ≤ j ∧ j < 69 ∨ 85 ≤ j ∧ j < 117) ∨ (133 ≤ j ∧ j < 165) → g4 j = -1 := fun j hj h1 hn => by
    rw [gx4 j hj, if_neg (by omega)]
    by_cases q : 133 ≤ j ∧ j < 165
    · rw [if_pos q]
    · rw [if_neg q]
      unfold clD; rw [if_neg h1, if_pos (by omega)]
  have huu : ∀ a, a < 16 → uu (sclr S) a = false := fun a ha => by unfold uu; rw [(sr a ha).2.1]; rfl
  have hds : ∀ a, a < 16 → ds (sclr S) a = false := fun a ha => by unfold ds; rw [(sr a ha).2.2.2.1]; rfl
  refine ⟨⟨⟨by omega, by omega, b0, m0 0 (by omega) (by omega), b1, m0 1 (by omega) (by omega)⟩, fun a ha => ?_, fun a ha => absurd ha (Nat.not_lt_zero a), fun p hp => absurd hp (Nat.not_lt_zero p), fun j hj => ?_, fun a c ha hc q => ?_, fun a ha q => ?_⟩, fun a ha => ?_, ⟨⟨?_, ?_, ?_, ?_, ?_⟩, fun a ha => ?_, fun a ha q => ?_, fun a ha q => ?_, fun a w ha hw => ?_⟩, ⟨s0, s1, s2, fun a ha => ?_⟩, fun a ha q => ?_, fun a ha _ => (sr a ha).2.2.1, fun a ha => ?_, ?_⟩
  · obtain ⟨r6, r7, r8⟩ := br a ha
    show g (66 + a) = _ ∧ g (82 + a) = _ ∧ g (34 + a) = _ ∧ g (2 + a) = _ ∧ g (18 + a) = _
    rw [m0 (66 + a) (by omega) (by omega), m0 (82 + a) (by omega) (by omega), m0 (2 + a) (by omega) (by omega), m0 (18 + a) (by omega) (by omega), r6, r7, r8, b4, b_0]
    refine ⟨rfl, rfl, ?_, ?_, rfl⟩
    · rw [h2 (34 + a) (by omega)]; unfold clM; rw [if_pos (by omega)]
    · unfold kdOf; rw [b3, b2, b_0, if_neg (by decide), if_neg (by decide)]
  · rw [b2, b3, b4, b_0]
    exact ⟨fun q => (by rcases q with q | q | q <;> cases q), fun _ => rfl⟩
  · obtain ⟨r6, r7, r8⟩ := br a ha
    rw [r7, r8, b_0] at q
    rcases q with q | q <;> cases q
  · exact absurd (br a ha).1 q
  · obtain ⟨r6, r7, r8⟩ := br a ha
    rw [r7, r8, m0 (50 + a) (by omega) (by omega)]; rfl
  · rw [g0 0 (by omega) (by omega) (by omega) (by omega), s0]
  · rw [gx4 1 (by omega), if_neg (by omega), if_neg (by omega), s1]; rfl
  · rw [g0 2 (by omega) (by omega) (by omega) (by omega), s2]
  · rw [g0 3 (by omega) (by omega) (by omega) (by omega), s3]
  · rw [g0 4 (by omega) (by omega) (by omega) (by omega), s4]
  · obtain ⟨r5, r6, r7, r8, r9, r10, r11, r12, r13, r14⟩ := sr a ha
    rw [r5, r6, r8, r11, r12, r13, r14, g1 (5 + a) (by omega) (by omega) (by omega), g1 (21 + a) (by omega) (by omega) (by omega), g1 (53 + a) (by omega) (by omega) (by omega), g1 (101 + a) (by omega) (by omega) (by omega), g0 (117 + a) (by omega) (by omega) (by omega) (by omega), g1 (133 + a) (by omega) (by omega) (by omega), g1 (149 + a) (by omega) (by omega) (by omega)]
    exact ⟨rfl, rfl, rfl, rfl, rfl, rfl, rfl⟩
  · rw [huu a ha] at q; cases q
  · rw [hds a ha] at q; cases q
  · rw [s15 _ (by omega), g0 (165 + 6 * a + w) (by omega) (by omega) (by omega) (by omega)]
  · obtain ⟨r5, r6, r7, r8, r9, r10, r11, r12, r13, r14⟩ := sr a ha
    exact ⟨r8, r9, r11, r12, r13, r14⟩
  · rw [huu a ha] at q; cases q
  · rw [(sr a ha).1, (br a ha).1]
  · rw [nu_uu, fb_ct_zero.mpr huu]; omega
theorem cpM_pt {g : Nat → Int32} {d : Nat → Int64} {M : Nat → Nat → Int32} {D : Nat → Nat → Int64} {n np : Nat} (h : cpM C (fun _ => g) (fun _ => d) n np) (h1 : ∀ j, j < 98 → M 1 j = g j) (h6 : ∀ j, j < 20 → D 6 j = d j) : cpM C M D n np := by
  obtain ⟨⟨a1, a2, a3, a4, a5, a6⟩, b1, b2, b3, b4, b5, b6⟩ := h
  refine ⟨⟨a1, a2, a3, by rw [h1 0 (by omega)]; exact a4, a5, by rw [h1 1 (by omega)]; exact a6⟩, fun a ha => ?_, fun a ha => ?_, fun p hp => ?_, b4, b5, b6⟩
  · rw [h1 (66 + a) (by omega), h1 (82 + a) (by omega), h1 (34 + a) (by omega), h1 (2 + a) (by omega), h1 (18 + a) (by omega)]
    exact b1 a ha
  · rw [h6 a (by omega)]; exact b2 a ha
  · rw [h6 (16 + p) (by omega)]; exact b3 p hp
end
def sbA (ad : Nat → Nat) (k : Nat) : Nat := if k = 0 then ad 1 else if k = 1 then ad 0 else ad k
def sbW (W : Nat → Nat → Nat → Int32) (k : Nat) : Nat → Nat → Int32 := if k = 1 then W 2 else if k = 2 then W 1 else W k
section
variable {α : Type} {G : osG} {z : osS} {N x n np T L : Nat} {ad : Nat → Nat} {W : Nat → Nat → Nat → Int32} {D D' : osS} {b : Nat → Nat} {M0 M B S : Nat → Nat → Int32} {v : Int32}
theorem sbA_p {i : Nat} : sbA ad (2 + i) = ad (2 + i) := by unfold sbA; rw [if_neg (by omega), if_neg (by omega)]
theorem gx_swap {Q : α → osS → Prop} {f : Unit → osM α} (hw : WD z x ad W D) (hA : G.2.2.1 ≤ x) (k : ∀ z', WD z' x (sbA ad) (sbW W) D → gx (f () G z') Q) : gx (osbind (osgR [7] 11 x) (fun x7 => osbind (osgR [7] 10 x) fun x8 => osbind (osput [7] 11 x (.ref x8)) fun _ => osbind (osput [7] 10 x (.ref x7)) f) G z) Q := by
  refine gx_gR hw.x9.o (by decide) rfl (gx_gR hw.x9.o (by decide) rfl (hw.x9.p11 (by decide) hA (fun z1 f1 h1 => h1.p10 (by decide) hA (fun z2 f2 h2 => k z2 ?_))))
  have fr := f1.tr f2
  obtain ⟨ha, hz, ⟨h9, h4, h1', h2', hb, hs, hn, hdr, ⟨f, hp, hp2⟩, hpa, ⟨t3, A3, D3, h3⟩, t7, A7, D7, h7⟩, hr, ho⟩ := hw
  have hb9 := ha.b
  have hs9 := ha.s
  refine ⟨⟨?_, ha.2.1, fun i hi => ?_, fun i j hi hj e => ?_⟩, hz.tr (fr.wide (by omega) (by omega)), ⟨h2, h4.keep fr (by omega), h1'.keep fr (by omega), h2'.keep fr (by omega), (show rX0 _ (ad 1) (W 2) from hs.keep fr (by omega)), (show rX0 _ (ad 0) (W 1) from hb.keep fr (by omega)), (show rX5 _ (ad 2) (W 3) from hn.keep fr (by omega)), (show rX5 _ (ad 3) (W 4) from hdr.keep fr (by omega)), ⟨f, fr.at (by omega) hp, fun i hi => ?_⟩, fun i hi => ?_, ⟨t3, A3, D3, h3.keep fr (by omega)⟩, t7, A7, D7, h7.keep fr (by omega)⟩, trivial, trivial⟩
  · show (ad 1 = x + 21 ∧ ad 0 = x + 27) ∨ (ad 1 = x + 27 ∧ ad 0 = x + 21)
    omega
  · rw [show 4 + i = 2 + (2 + i) by omega, sbA_p, show 2 + (2 + i) = 4 + i by omega]; exact ha.2.2.1 i hi
  · rw [show 4 + i = 2 + (2 + i) by omega, show 4 + j = 2 + (2 + j) by omega, sbA_p, sbA_p, show 2 + (2 + i) = 4 + i by omega, show 2 + (2 + j) = 4 + j by omega] at e; exact ha.2.2.2 i j hi hj e
  · rw [show 4 + i = 2 + (2 + i) by omega, sbA_p, show 2 + (2 + i) = 4 + i by omega]; exact hp2 i hi
  · rw [show 4 + i = 2 + (2 + i) by omega, sbA_p, show 2 + (2 + i) = 4 + i by omega]
    have e : sbW W (8 + i) = W (8 + i) := by unfold sbW; rw [if_neg (by omega), if_neg (by omega)]
    rw [e]
    exact (hpa i hi).keep fr (by have := ha.p hi; omega)
end
