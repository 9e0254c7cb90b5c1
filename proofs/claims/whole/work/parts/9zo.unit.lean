/-! units and powers of a map read, in both (by program) -/
section
variable {α β γ : Type} {G : osG} {z : osS} {Q : α → osS → Prop}
theorem gx_as {m : osM β} {f : β → osM γ} {g : γ → osM α} (h : gx (osbind m (fun x => osbind (f x) g) G z) Q) : gx (osbind (osbind m f) g G z) Q := by
  obtain ⟨a, z1, h1, q⟩ := h
  refine ⟨a, z1, ?_, q⟩
  unfold osbind at h1 ⊢
  cases e : m G z with
  | none => rw [e] at h1; cases h1
  | some p => rw [e] at h1; exact h1
theorem gx_inl {m : osM β} {f : β → osM γ} {g : γ → osM α} {cis : List Nat} {t c : Nat} {fs : List Value} (ho : z.1 t = some (.inr (c, fs))) (hc : c ∈ cis) (h : gx (osbind m (fun x => osbind (f x) g) G z) Q) : gx (osbind (osrecv cis t (osbind m f)) g G z) Q := by
  obtain ⟨a, z1, h1, q⟩ := gx_as h
  refine gx_bind (gx_recv ho hc ?_)
  unfold osbind at h1
  cases e : osbind m f G z with
  | none =>
    unfold osbind at e
    rw [e] at h1; cases h1
  | some p =>
    have e2 := e
    unfold osbind at e2
    rw [e2] at h1
    exact ⟨p.1, p.2, rfl, a, z1, h1, q⟩
theorem gx_bt {c : Prop} [Decidable c] {t e : osM β} {g : β → osM α} (h : c) (k : gx (osbind t g G z) Q) : gx (osbind (osite c t e) g G z) Q := by
  have : osite c t e = t := by funext G z; unfold osite; rw [if_pos h]
  rw [this]; exact k
theorem gx_bf {c : Prop} [Decidable c] {t e : osM β} {g : β → osM α} (h : ¬ c) (k : gx (osbind e g G z) Q) : gx (osbind (osite c t e) g G z) Q := by
  have : osite c t e = e := by funext G z; unfold osite; rw [if_neg h]
  rw [this]; exact k
end
theorem q_X10_draftUnits {G : osG} {z : osS} {N m n : Nat} {M : Nat → Nat → Int32} {D : Nat → Nat → Int64} (hm : rX10 z m M D) (h0 : M 2 0 = nI n) (h16 : n ≤ 16) (hN : 5000 < N) : qX10_draftUnits N m G z = some (nI (fb_ct (fun a => !decide (M 4 (21 + a) = -1)) n), z) := by
  refine gx_eq ?_
  unfold qX10_draftUnits qX10_draftUnits_4
  refine gx_loop n (fun i p z' => p = (m, nI (fb_ct (fun a => !decide (M 4 (21 + a) = -1)) i), nI i) ∧ z' = z) ?_ ?_ N 0 _ z (Nat.zero_le _) (by omega) ⟨rfl, rfl⟩
  · rintro ih i p z' hi ⟨rfl, rfl⟩ k
    show gx (bX10_draftUnits_4 N ih m (nI (fb_ct _ i)) (nI i) G z') _
    unfold bX10_draftUnits_4 qX10_draftUnits_32
    refine gx_gR hm.o (by decide) rfl (gx_aE (i := 0) hm.a2 rfl (by omega) (Nat.le_of_ble_eq_true rfl) ?_)
    rw [h0]
    refine gx_itef (nI_nleE (a := n) (b := i) rfl rfl hi (by omega)) (gx_gR hm.o (by decide) rfl (gx_callE (q_X10_isUnit hm.a4 (by omega) rfl) ?_))
    refine gx_iteB (fun c => k _ _ ⟨?_, rfl⟩) (fun c => k _ _ ⟨?_, rfl⟩)
    · rw [fb_ct_succ, if_neg (by rw [c]; decide), nI_1]; rfl
    · rw [fb_ct_succ, if_pos c, nI_1, nI_1]
  · rintro ih p z' ⟨rfl, rfl⟩
    show gx (bX10_draftUnits_4 N ih m (nI (fb_ct _ n)) (nI n) G z') _
    unfold bX10_draftUnits_4
    refine gx_gR hm.o (by decide) rfl (gx_aE (i := 0) hm.a2 rfl (by omega) (Nat.le_of_ble_eq_true rfl) ?_)
    rw [h0]
    exact gx_itet ((nI_leI (by omega) (by omega)).mpr (Nat.le_refl n)) (gx_ret ⟨rfl, rfl⟩)
section
variable {G : osG} {z : osS} {N x n np L i i0 : Nat} {ad : Nat → Nat} {W : Nat → Nat → Nat → Int32} {D D' E : Nat → Nat → Int64} {b : Nat → Nat} {M0 M B S C : Nat → Nat → Int32} {kd at0 : Int32}
theorem m_unit (cx : CM G N x L b W) (h : SM z x ad W D b L M0 i B S C E M D') (hQ : QM B S (M 2) (D' 7) (M 4) n np) (hi : i ≤ L) (hii : i0 < i) (e13 : at0 = M 13 0) (hk : kd = 0 ∨ kd = 1) : gx (qX3_readUnit N (x + 4) (ad 1) (ad 3) at0 kd G z) (fun r z' => ux G (x + 129) (qX10_readUnit N (x + 129) kd) M D' (fun b1 M2 D2 => PM x ad W D b L M0 i0 r z' b1 M2 D2)) := by
  obtain ⟨hI, hA, hN, hL, hb⟩ := id cx
  obtain ⟨hm, hbo, hms⟩ := id hQ
  have h16 := hm.n16
  have h4 := hm.p4
  have hst := MS_stI hm hms
  have enu : fb_ct (fun a => !decide (M 4 (21 + a) = -1)) n = nu S := by
    rw [← cnU_all hst.j hms.1 h16]
    exact fb_ct_cong (fun a _ => by unfold cnU; simp)
  have hnu := hms.2.2.2.2.2
  unfold qX3_readUnit qX10_readUnit
  refine gx_recvE h.1.d1.o (by decide) (q_countAllUnits h.1.d1 (by omega)) (sm_u (ux_rE (fun z hz => q_X10_draftUnits hz hm.m0 h16 hN) ?_))
  rw [enu]
  by_cases hn : nu S = 12
  · rw [hn]
    exact ux_itet rfl (sm_g (gx_itef (by decide) (m_fail h.1 e13 h.2.2.2.2 hA)))
  refine ux_itef (fun q => hn (nI_eqN (k := 12) (by omega) (by omega) q)) (sm_g (gx_itet ((nI_ltI (b := 12) (by omega) (by omega)).mpr (by omega)) ?_))
  refine m_name cx h hi (fun z1 C1 E1 M1 D1 h1 he hr => gx_itet rfl (gx_retZ (Or.inl rfl) (ux_itet rfl (ux_retZ (Or.inl rfl) (PM_f h1 he hr rfl rfl))))) (fun v z1 C1 E1 M1 D1 v0 v1 h1 lt le e7 e18 e2 e4 ed => ?_)
  refine gx_itef (fun c => by have := (nI_00 (by omega)).mp c; omega) (gx_recvE h1.1.b2.o (by decide) (q_findPower h1.1.b2 hm.c1 h4 (by omega)) (sm_u (ux_itef (by decide) (ux_gR rfl (ux_gR rfl (ux_a (i := 1) (fun z hz => hz.a2) rfl (by omega) (by omega) ?_))))))
  rw [show M1 2 1 = nI np by rw [e2]; exact hm.m1]
  refine ux_gJ rfl ?_
  rw [e18]
  refine ux_E (fun z hz => q_X10_numberOf (f := 16) (n := np) hz.a7 (by omega) (by omega) (by omega)) ?_
  rw [ed, pm_fdM hm v1]
  cases ef : fd (fun k => decide (B 9 k = nI v)) 0 np with
  | none => exact ux_itet rfl (sm_g (gx_itet rfl (m_fail7 h1.1 e7 h1.2.2.2.2 hA)))
  | some p =>
    have hp := (fd_some ef).2.1
    have hm1 : cpM B (fun _ => M1 2) (fun _ => D1 7) n np := by rw [e2, ed]; exact hm
    refine ux_itef (nI_m1 (by omega)) (sm_g (gx_itef (nI_m1 (by omega)) ?_))
    refine m_area cx h1 hm1 le (fun z2 C2 E2 M2 D2 h2 he hr => gx_itet rfl (gx_retZ (Or.inl rfl) (ux_itet rfl (ux_retZ (Or.inl rfl) (PM_f h2 he hr rfl rfl))))) (fun a z2 C2 E2 M2 D2 ha ha16 h2 lt2 le2 e72 e192 e22 e42 ed2 => ?_)
    have q2 : M2 2 = M 2 := e22.trans e2
    have q4 : M2 4 = M 4 := e42.trans e4
    have qd : D2 7 = D' 7 := ed2.trans ed
    refine gx_itef (nI_m1 (by omega)) (gx_recvE h2.1.d1.o (by decide) (q_hasUnitN h2.1.d1 ha16) (sm_u (ux_itef (by decide) (ux_gR rfl (ux_gI rfl ?_)))))
    rw [e192]
    refine ux_E (fun z hz => q_X10_isUnit hz.a4 ha16 rfl) (sm_g ?_)
    have e21 : M2 4 (21 + a) = S 6 a := by rw [q4]; exact (hms.1.2.1 a ha16).2.1
    rw [e21]
    show gx (osite (b2i (uu S a) = 0) _ _ G z2) (fun r z' => ux G (x + 129) (osite (b2i (uu S a) = 0) _ _) M2 D2 _)
    cases hu : uu S a
    case true => exact gx_itef (by decide) (sm_u (ux_itef (by decide) (sm_g (m_fail7 h2.1 e72 h2.2.2.2.2 hA))))
    refine gx_itet rfl (gx_recvE h2.1.b2.o (by decide) (q_suits h2.1.b2 ha16) (sm_u (ux_itet rfl (ux_gR rfl (ux_gI rfl ?_)))))
    rw [e192]
    refine ux_a (fun z hz => hz.a2) (nI_sum (a := 2) (b := a) rfl rfl) (by omega) (by omega) ?_
    have ga : M2 2 (2 + a) = kdOf B a := by rw [q2]; exact (hm.2.1 a ha16).2.2.2.1
    rw [ga]
    obtain ⟨sa2, sa0⟩ := kd_suit (B := B) (a := a)
    have fin : ∀ w : Int32, (kdOf B a = w ↔ suit B a kd = false) → ux G (x + 129) (qX10_readUnit_116 N (x + 129) kd (nI p) w (kdOf B a)) M2 D2 (fun b1 M3 D3 => gx (osite (b2i (suit B a kd) = 0) (osbind (osgI [3] 7 (x + 4)) fun x7 => osbind (osrecv [3] (x + 4) (qX6_fail N (x + 4) (4 : Int32) x7)) fun x8 => osretZ x8) (osbind (osrecv [5] (ad 3) (qX5_placeUnit N (ad 3) (nI a) (nI p) kd)) fun _ => osretZ (1 : Int32)) G z2) (fun r z' => PM x ad W D b L M0 i0 r z' b1 M3 D3)) := by
      intro w hw
      unfold qX10_readUnit_116
      cases hsu : suit B a kd
      · exact ux_itet (hw.mpr hsu) (sm_g (gx_itet rfl (m_fail7 h2.1 e72 h2.2.2.2.2 hA)))
      · refine ux_itef (fun q => by rw [hw.mp q] at hsu; cases hsu) (ux_gR rfl (ux_gI rfl ?_))
        rw [e192]
        refine ux_s4 (by omega) (nI_sum (a := 21) (b := a) rfl rfl) (by omega) (ux_gR rfl (ux_gI rfl ?_))
        rw [show (cset M2 4 (upd (M2 4) (21 + a) (nI p))) 19 0 = nI a from e192]
        refine ux_s4 (by omega) (nI_sum (a := 37) (b := a) rfl rfl) (by omega) (ux_retZ (Or.inr rfl) (gx_itef (by decide) (gx_recvQ h2.1.d1.o (by decide) (q_X5_placeUnit h2.1.d1 (h2.1.hA hA).1 ha16) (fun _ z3 ⟨f3, d3⟩ => gx_retZ (Or.inr rfl) (PM_s (n := n) (np := np) (i := tX b L (tX b L i)) ⟨h2.1.d2 f3 d3, h2.2.1, tkR_2 h2.2.2.1 (fun r _ r4 => by rw [cset_ne r4, cset_ne r4]), h2.2.2.2.1, h2.2.2.2.2.w (fun k _ k4 => by rw [cset_ne k4, cset_ne k4]) (fun _ _ => rfl)⟩ (by omega) le2 ⟨?_, ?_, ?_⟩)))))
        · show cpM B (fun _ => M2 2) (fun _ => D2 7) n np
          rw [q2, qd]; exact hm
        · intro c hc
          show M2 2 (50 + c) = _
          rw [q2]; exact hbo c hc
        · show MS B _ (upd (upd (M2 4) (21 + a) (nI p)) (37 + a) kd) n np
          rw [q4]
          exact MS_unit hms ha h16 h4 ⟨p, by omega, rfl⟩ hk (by omega) hu
    rcases hk with rfl | rfl
    · refine ux_itet rfl (fin 2 ⟨fun q => ?_, fun q => ?_⟩)
      · rw [decide_eq_true q] at sa2
        cases h9 : suit B a 0
        · rfl
        · rw [h9] at sa2; cases sa2
      · rw [q] at sa2
        exact of_decide_eq_true sa2
    · refine ux_itef (by decide) (fin 0 ⟨fun q => ?_, fun q => ?_⟩)
      · rw [decide_eq_true q] at sa0
        cases h9 : suit B a 1
        · rfl
        · rw [h9] at sa0; cases sa0
      · rw [q] at sa0
        exact of_decide_eq_true sa0
/-- the homes of a power -/
theorem m_homes (cx : CM G N x L b W) (h : SM z x ad W D b L M0 i B S C E M D') (hQ : QM B S (M 2) (D' 7) (M 4) n np) (hi : i ≤ L) (hii : i0 < i) {p : Nat} (hp : p < np) : gx (qX3_readPower_59 N (x + 4, ad 1, ad 3, nI p, (0 : Int32)) G z) (fun r z' => ux G (x + 129) (qX10_readPower_81 N (x + 129, nI p)) M D' (fun b1 M2 D2 => PM x ad W D b L M0 i0 r z' b1 M2 D2)) := by
  obtain ⟨hI, hA, hN, hL, hb⟩ := id cx
  have hb' : ∀ k, k < 1000 → b k < 256 := fun k hk => (hb k hk).1
  unfold qX3_readPower_59 qX10_readPower_81
  refine sm_loop 17 (fun j pp z q M D' => pp = (x + 4, ad 1, ad 3, nI p, nI j) ∧ q = (x + 129, nI p) ∧ ∃ i B S C E, i0 < i ∧ i ≤ L ∧ SM z x ad W D b L M0 i B S C E M D' ∧ QM B S (M 2) (D' 7) (M 4) n np ∧ j ≤ fb_ct (fun a => !decide (B 6 a = -1)) 16) ?_ ?_ N 0 _ z _ M D' (Nat.zero_le _) (by omega) ⟨rfl, rfl, i, B, S, C, E, hii, hi, h, hQ, Nat.zero_le _⟩
  · rintro ih1 ih2 j pp z q M D' hj ⟨rfl, rfl, i, B, S, C, E, hii, hi, h, hQ, hc⟩ k
    show gx (bX3_readPower_59 N ih1 (x + 4) (ad 1) (ad 3) (nI p) (nI j) G z) (fun a z' => ux G (x + 129) (bX10_readPower_81 N ih2 (x + 129) (nI p)) M D' _)
    obtain ⟨hm, hbo, hms⟩ := id hQ
    have h16 := hm.n16
    unfold bX3_readPower_59 qX3_readPower_92 bX10_readPower_81
    refine gx_itef (fun q => by have := (nI_ltI (a := 16) (b := j) (by omega) (by omega)).mp q; omega) (gx_recvE h.1.2.o (by decide) (c_isWord_X3 h.1 h.2.1 hi) (sm_u (ux_call (ux_peek h.2.2.1 hb' hL (by omega) hN hi (fun M1 t1 a1 a3 ek => ux_E (fun z _ => q_X10_isLetter) ?_)))))
    obtain ⟨_, _, _, _, c5⟩ := bat_32 (b := b) (L := L) (k := tS b L i) hb' hL
    rw [c5]
    have hr1 : RM M0 D M1 D' := h.2.2.2.2.k (fun k hk => ek k (by omega) (by omega)) dk_rf
    have heq : C 8 0 = M1 16 0 ∧ C 9 0 = M1 17 0 := by rw [ek 16 (by omega) (by omega), ek 17 (by omega) (by omega)]; exact h.2.2.2.1
    have h1 : SM z x ad W D b L M0 i B S C E M1 D' := ⟨h.1, h.2.1, t1, heq, hr1⟩
    have hQ1 : QM B S (M1 2) (D' 7) (M1 4) n np := by rw [ek 2 (by omega) (by omega), ek 4 (by omega) (by omega)]; exact hQ
    obtain ⟨s1, s2⟩ := tS_le (b := b) hi
    have hwd : (decide (tS b L i < L) && isLt (b (tS b L i))) = decide (0 < tN b L i) := by
      by_cases q : 0 < tN b L i
      · have hl : isLt (b (tS b L i)) = true := t_lt (b := b) hi (k := 0) q
        have : tS b L i < L := by have := (tW_le (b := b) hi).2; unfold tN at q; omega
        rw [hl, decide_eq_true this, decide_eq_true q]; rfl
      · rw [decide_eq_false q]
        by_cases q2 : tS b L i < L
        · rw [t_no hi (by omega) q2, Bool.and_false]
        · rw [decide_eq_false q2, Bool.false_and]
    rw [hwd]
    by_cases hw : 0 < tN b L i
    · rw [decide_eq_true hw]
      refine ux_itef (by decide) (sm_g (gx_itef (by decide) ?_))
      unfold qX3_readHome
      refine gx_inl h.1.2.o (by decide) (m_area cx h1 hQ1.1 hi (fun z2 C2 E2 M2 D2 h2 he hr => gx_bt rfl (gx_retZb (Or.inl rfl) (gx_itet rfl (gx_retZ (Or.inl rfl) (ux_itet rfl (ux_retZ (Or.inl rfl) (PM_f h2 he hr rfl rfl))))))) (fun a z2 C2 E2 M2 D2 ha ha16 h2 lt2 le2 e72 e192 e22 e42 ed2 => ?_))
      have q2 : M2 2 = M1 2 := e22
      have hm2 : cpM B (fun _ => M2 2) (fun _ => D2 7) n np := by rw [e22, ed2]; exact hQ1.1
      have g34 : M2 2 (34 + a) = B 6 a := (hm2.2.1 a ha16).2.2.1
      have g18 : M2 2 (18 + a) = b2i (bt (B 4 0) a) := (hm2.2.1 a ha16).2.2.2.2
      -- both fail there
      have bad : ∀ {u : Int32} {g1 : Int32 → osM Int32}, (∀ z3 Q, Q 0 z3 → gx (g1 0 G z3) Q) → gx ((osbind (osbind (osgI [3] 7 (x + 4)) fun x6 => osbind (osrecv [3] (x + 4) (qX6_fail N (x + 4) u x6)) fun x7 => osretZ x7) g1) G z2) (fun r z' => ux G (x + 129) (osbind (osgI [8] 13 (x + 129)) fun x14 => osbind (osrecv [8] (x + 129) (qX10_fails N (x + 129) u x14)) fun x15 => osretZ x15) M2 D2 (fun b1 M3 D3 => PM x ad W D b L M0 i0 r z' b1 M3 D3)) := by
        intro u g1 hg
        refine gx_as (gx_gI h2.1.2.o (by decide) rfl (gx_as (gx_recvQ h2.1.2.o (by decide) (c_fail_X3 h2.1 hA) (fun r z' ⟨e, pp⟩ => ?_))))
        subst e
        refine gx_retZb (Or.inl rfl) (hg _ _ (ux_gI rfl (ux_call (ux_fails (by omega) (fun M3 b6 b7 r3 => ux_retZ (Or.inl rfl) (PM_f pp ⟨b6.symm, ?_⟩ (h2.2.2.2.2.k (fun k hk => r3 k (by omega) (by omega)) dk_rf) rfl rfl))))))
        rw [b7]; exact e72
      refine gx_bf (nI_m1 (by omega)) (gx_as (gx_gR h2.1.b2.o (by decide) rfl (gx_as (gx_callE (q_entryN h2.1.b2.a6 ha16 (by omega)) (sm_u (ux_itef (by decide) (ux_gR rfl (ux_gI rfl ?_))))))))
      rw [e192]
      refine ux_a (fun z hz => hz.a2) (nI_sum (a := 34) (b := a) rfl rfl) (by omega) (by omega) ?_
      rw [g34]
      by_cases h6 : B 6 a = -1
      · refine ux_itet h6 (ux_gR rfl (ux_gI rfl ?_))
        rw [e192]
        refine ux_a (fun z hz => hz.a2) (nI_sum (a := 18) (b := a) rfl rfl) (by omega) (by omega) (sm_g (gx_bt h6 (gx_as (gx_gI h2.1.b2.o (by decide) rfl (gx_as (gx_callE (q_hasN (by omega)) ?_))))))
        rw [g18]
        cases hce : bt (B 4 0) a
        · exact gx_bt rfl (sm_u (ux_itet rfl (sm_g (bad (fun z3 Q q => gx_itet rfl (gx_retZ (Or.inl rfl) q))))))
        · refine gx_bf (by decide) (gx_as (gx_recvQ h2.1.b2.o (by decide) (q_X0_makeHome h2.1.b2 (h2.1.hA hA).2 hm.c0 h16 ha) (fun _ z3 ⟨f3, b3⟩ => ?_)))
          have h3 := h2.1.s2 f3 b3
          refine gx_as (gx_recvQ h3.d1.o (by decide) (q_X5_giveCenter h3.d1 (h3.hA hA).1 ha16) (fun _ z4 ⟨f4, d4⟩ => gx_retZb (Or.inr rfl) (gx_itef (by decide) ?_)))
          have h4 := h3.d2 f4 d4
          refine sm_u (ux_itef (by decide) (ux_gR rfl (ux_gI rfl ?_)))
          rw [e192]
          refine ux_s2 (by omega) (nI_sum (a := 34) (b := a) rfl rfl) (by omega) (ux_gR rfl (ux_gI rfl ?_))
          rw [show (cset M2 2 (upd (M2 2) (34 + a) (nI p))) 19 0 = nI a from e192]
          refine ux_s4 (by omega) (nI_sum (a := 5) (b := a) rfl rfl) (by omega) (sm_g ?_)
          rw [nI_1]
          refine k _ _ _ _ _ ⟨rfl, rfl, tX b L i, _, _, C2, E2, by omega, le2, ⟨h4, h2.2.1, tkR_2 h2.2.2.1 (fun r r2 r4 => by rw [cset_ne r4, cset_ne r2]), ?_, h2.2.2.2.2.w (fun r r2 r4 => by rw [cset_ne r4, cset_ne r2]) (fun _ _ => rfl)⟩, ⟨?_, ?_, ?_⟩, ?_⟩
          · rw [cset_ne (by omega), cset_ne (by omega), cset_ne (by omega), cset_ne (by omega)]; exact h2.2.2.2.1
          · exact cpM_home hm2 ha ⟨p, by omega, rfl⟩ hce upd_eq (fun j hj => upd_ne hj)
          · intro c hc16
            show upd (M2 2) (34 + a) (nI p) (50 + c) = B 7 c ||| B 8 c
            rw [upd_ne (by omega), e22, ek 2 (by omega) (by omega)]; exact hbo c hc16
          · show MS _ _ (upd (M2 4) (5 + a) (nI p)) n np
            rw [e42, ek 4 (by omega) (by omega)]
            exact MS_home hms ha16 (fun _ => rfl)
          · have hu := fb_ct_upd (fun a => !decide (B 6 a = -1)) true (i := a) (n := 16) ha16
            have e0 : (if (!decide (B 6 a = -1)) = true then 1 else 0) = 0 := by rw [decide_eq_true h6]; rfl
            have e1 : (if true = true then 1 else 0) = 1 := rfl
            rw [e0, e1] at hu
            have ee : fb_ct (fun c => !decide ((cset B 6 (upd (B 6) a (nI p))) 6 c = -1)) 16 = fb_ct (fun c => if c = a then true else !decide (B 6 c = -1)) 16 := fb_ct_cong (fun c _ => by
              show (!decide ((if c = a then nI p else B 6 c) = -1)) = _
              by_cases q : c = a
              · rw [if_pos q, if_pos q, decide_eq_false (nI_m1 (by have := hm.p4; omega))]; rfl
              · rw [if_neg q, if_neg q])
            rw [ee]
            omega
      · exact ux_itef h6 (sm_g (gx_bf h6 (bad (fun z3 Q q => gx_itet rfl (gx_retZ (Or.inl rfl) q)))))
    · rw [decide_eq_false hw]
      exact ux_itet rfl (ux_retZ (Or.inr rfl) (gx_itet rfl (gx_retZ (Or.inr rfl) (PM_s h1 hii hi hQ1))))
  · rintro ih1 ih2 pp z q M D' ⟨rfl, rfl, i, B, S, C, E, hii, hi, h, hQ, hc⟩
    have := fb_ct_le (fun a => !decide (B 6 a = -1)) 16
    omega
theorem m_power (cx : CM G N x L b W) (h : SM z x ad W D b L M0 i B S C E M D') (hQ : QM B S (M 2) (D' 7) (M 4) n np) (hi : i ≤ L) (hii : i0 < i) (e13 : at0 = M 13 0) : gx (qX3_readPower N (x + 4) (ad 1) (ad 3) at0 G z) (fun r z' => ux G (x + 129) (qX10_readPower N (x + 129)) M D' (fun b1 M2 D2 => PM x ad W D b L M0 i0 r z' b1 M2 D2)) := by
  obtain ⟨hI, hA, hN, hL, hb⟩ := id cx
  obtain ⟨hm, hbo, hms⟩ := id hQ
  have h4 := hm.p4
  unfold qX3_readPower qX10_readPower
  refine gx_gI h.1.b2.o (by decide) rfl (sm_u (ux_gR rfl (ux_a (i := 1) (fun z hz => hz.a2) rfl (by omega) (by omega) ?_)))
  rw [hm.c1, show M 2 1 = nI np from hm.m1]
  by_cases hn : np = 4
  · subst hn
    exact ux_itet rfl (sm_g (gx_itef (by decide) (m_fail h.1 e13 h.2.2.2.2 hA)))
  refine ux_itef (fun q => hn (nI_eqN (k := 4) (by omega) (by omega) q)) (sm_g (gx_itet (lt4 (by omega)) ?_))
  refine m_name cx h hi (fun z1 C1 E1 M1 D1 h1 he hr => gx_itet rfl (gx_retZ (Or.inl rfl) (ux_itet rfl (ux_retZ (Or.inl rfl) (PM_f h1 he hr rfl rfl))))) (fun v z1 C1 E1 M1 D1 v0 v1 h1 lt le e7 e18 e2 e4 ed => ?_)
  refine gx_itef (fun c => by have := (nI_00 (by omega)).mp c; omega) (gx_recvE h1.1.b2.o (by decide) (q_findPower h1.1.b2 hm.c1 h4 (by omega)) (sm_u (ux_itef (by decide) (ux_gR rfl (ux_gJ rfl ?_)))))
  rw [e18]
  refine ux_E (fun z hz => q_X10_numberOf (f := 16) (n := np) hz.a7 (by omega) (by omega) (by omega)) ?_
  rw [ed, pm_fdM hm v1]
  cases ef : fd (fun k => decide (B 9 k = nI v)) 0 np with
  | some k =>
    have hk := (fd_some ef).2.1
    exact ux_itef (nI_m1 (by omega)) (sm_g (gx_itef (nI_m1 (by omega)) (m_fail7 h1.1 e7 h1.2.2.2.2 hA)))
  | none =>
    refine ux_itet rfl (ux_gR rfl (ux_gJ rfl ?_))
    rw [e18]
    refine ux_s7 (by omega) (nI_sum (a := 16) (b := np) rfl rfl) (by omega) (ux_gR rfl (ux_s2 (i := 1) (by omega) rfl (by omega) (sm_g (gx_itet rfl (gx_recvQ h1.1.b2.o (by decide) (q_X0_addPower h1.1.b2 (h1.1.hA hA).2 hm.c1 (by omega)) ?_)))))
    rintro _ z2 ⟨rfl, f2, b2⟩
    refine m_homes (n := n) (np := np + 1) cx ⟨h1.1.s2 f2 b2, h1.2.1, tkR_2 h1.2.2.1 (fun r r2 _ => cset_ne r2), ?_, h1.2.2.2.2.w (fun k k2 _ => cset_ne k2) (fun k k7 => cset_ne k7)⟩ ⟨cpM_power (g := M 2) (d := D' 7) hm (by omega) v0 v1 ?_ (fun j hj => ?_) ?_ (fun j hj => ?_), fun a ha => ?_, ?_⟩ le (by omega) (Nat.lt_succ_self np)
    · rw [cset_ne (by omega), cset_ne (by omega)]; exact h1.2.2.2.1
    · show nI np + (1 : Int32) = _
      exact nI_sum (b := 1) rfl rfl
    · show upd (M1 2) 1 _ j = _
      rw [upd_ne hj, e2]
    · exact updL_eq
    · show vp_updL (D1 7) (16 + np) (lN v) j = _
      rw [vL_ne hj, ed]
    · show upd (M1 2) 1 _ (50 + a) = _
      rw [upd_ne (by omega), e2]; exact hbo a ha
    · show MS _ S (M1 4) n (np + 1)
      rw [e4]
      exact MS_mono hms (fun _ _ => rfl) (Nat.le_refl n) (Nat.le_succ np)
end
