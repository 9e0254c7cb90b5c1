/-! areas and borders of a map read, in both (by program) -/
theorem nI_eqN {a k : Nat} (ha : a < 2 ^ 31) (hk : k < 2 ^ 31) (h : nI a = nI k) : a = k := by
  have h := congrArg Int32.toInt h
  rw [nI_toInt (by omega), nI_toInt (by omega)] at h
  omega
theorem vL_ne {g : Nat → Int64} {k j : Nat} {v : Int64} (h : ¬ j = k) : vp_updL g k v j = g j := by simp [vp_updL, h]
section
variable {G : osG} {z : osS} {N x n np L i i0 : Nat} {ad : Nat → Nat} {W : Nat → Nat → Nat → Int32} {D D' E : Nat → Nat → Int64} {b : Nat → Nat} {M0 M B S C : Nat → Nat → Int32} {kd at0 : Int32}
theorem tkR_2 {M1 : Nat → Nat → Int32} (h : tkR b L i M) (hr : ∀ r, ¬ r = 2 → ¬ r = 4 → M1 r = M r) : tkR b L i M1 := by
  unfold tkR rTx
  rw [hr 12 (by omega) (by omega), hr 9 (by omega) (by omega), hr 11 (by omega) (by omega)]; exact h
theorem m_newArea (cx : CM G N x L b W) (h : SM z x ad W D b L M0 i B S C E M D') (hQ : QM B S (M 2) (D' 7) (M 4) n np) (hi : i ≤ L) (hii : i0 < i) (e13 : at0 = M 13 0) (hk : kd = 0 ∨ kd = 1 ∨ kd = 2) : gx (qX3_readArea N (x + 4) (ad 1) at0 kd G z) (fun r z' => ux G (x + 129) (qX10_readNewArea N (x + 129) kd) M D' (fun b1 M2 D2 => PM x ad W D b L M0 i0 r z' b1 M2 D2)) := by
  obtain ⟨hI, hA, hN, hL, hb⟩ := id cx
  obtain ⟨hm, hbo, hms⟩ := id hQ
  have hb' : ∀ k, k < 1000 → b k < 256 := fun k hk => (hb k hk).1
  have h16 := hm.n16
  unfold qX3_readArea qX3_readArea_82 qX10_readNewArea qX10_readNewArea_113
  refine gx_gI h.1.b2.o (by decide) rfl (sm_u (ux_gR rfl (ux_a (i := 0) (fun z hz => hz.a2) rfl (by omega) (by omega) ?_)))
  rw [hm.c0, show M 2 0 = nI n from hm.m0]
  by_cases hn : n = 16
  · subst hn
    exact ux_itet rfl (sm_g (gx_itef (by decide) (m_fail h.1 e13 h.2.2.2.2 hA)))
  have hn16 : n < 16 := by omega
  refine ux_itef (fun q => hn (nI_eqN (k := 16) (by omega) (by omega) q)) (sm_g (gx_itet (lt16 hn16) ?_))
  refine m_name cx h hi (fun z1 C1 E1 M1 D1 h1 he hr => gx_itet rfl (gx_retZ (Or.inl rfl) (ux_itet rfl (ux_retZ (Or.inl rfl) (PM_f h1 he hr rfl rfl))))) (fun v z1 C1 E1 M1 D1 v0 v1 h1 lt le e7 e18 e2 e4 ed => ?_)
  refine gx_itef (fun c => by have := (nI_00 (by omega)).mp c; omega) (gx_recvE h1.1.b2.o (by decide) (q_findArea h1.1.b2 hm.c0 h16 (by omega)) (sm_u (ux_itef (by decide) (ux_gR rfl (ux_gJ rfl ?_)))))
  rw [e18]
  refine ux_E (fun z hz => q_X10_numberOf (f := 0) (n := n) hz.a7 (by omega) (by omega) (by omega)) ?_
  rw [ed, nm_fdM hm v1]
  cases ef : fd (fun k => decide (B 5 k = nI v)) 0 n with
  | some k =>
    have hk := (fd_some ef).2.1
    exact ux_itef (nI_m1 (by omega)) (sm_g (gx_itef (nI_m1 (by omega)) (m_fail7 h1.1 e7 h1.2.2.2.2 hA)))
  | none =>
    refine ux_itet rfl (ux_gR rfl (ux_gJ rfl ?_))
    rw [e18]
    refine ux_s7 (i := n) (by omega) rfl (by omega) (ux_gR rfl (ux_s2 (by omega) (nI_sum (a := 2) (b := n) rfl rfl) (by omega) (sm_g (gx_itet rfl (gx_gI h1.1.2.o (by decide) rfl (gx_callE rfl ?_))))))
    have hr1 : RM M0 D (cset M1 2 (upd (M1 2) (2 + n) kd)) (cset D1 7 (vp_updL (D1 7) n (lN v))) := h1.2.2.2.2.w (fun k k2 _ => cset_ne k2) (fun k k7 => cset_ne k7)
    have tr1 : tkR b L (tX b L i) (cset M1 2 (upd (M1 2) (2 + n) kd)) := tkR_2 h1.2.2.1 (fun r r2 _ => cset_ne r2)
    have hle2 := tX_le (b := b) le
    have g18 : M 2 (18 + n) = b2i false := by
      have t5 : M 2 (18 + n) = b2i (bt (B 4 0) n) := (hm.2.1 n hn16).2.2.2.2
      rw [t5]
      cases q : bt (B 4 0) n
      · rfl
      · have := (hm.2.2.2.2.1 n (by omega)).1 (Or.inr (Or.inr q)); omega
    -- the area is there
    have fin : ∀ (o : Bool) (z2 : osS) (C2 : Nat → Nat → Int32) (E2 : Nat → Nat → Int64) (M2 : Nat → Nat → Int32) (D2 : Nat → Nat → Int64) (i2 : Nat), (kd = 2 → o = false) → i0 < i2 → i2 ≤ L → MW z2 x ad (Ws (Ws W 2 B) 4 S) D C2 E2 → tkC b L i2 C2 E2 → tkR b L i2 M2 → (C2 8 0 = M2 16 0 ∧ C2 9 0 = M2 17 0) → RM M0 D M2 D2 → M2 4 = M 4 → M2 2 (2 + n) = kd → M2 2 (18 + n) = b2i o → (∀ j, ¬ j = 2 + n → ¬ j = 18 + n → M2 2 j = M 2 j) → D2 7 = vp_updL (D' 7) n (lN v) → gx ((osbind (osrecv [0] (ad 1) (qX0_addArea N (ad 1) (nI v) kd (b2i o))) fun _ => osretZ (1 : Int32)) G z2) (fun r z' => ux G (x + 129) (osbind (osgR [8] 2 (x + 129)) fun x1 => osbind (ossI 0 x1 (0 : Int32) (nI n + (1 : Int32))) fun _ => osretZ (1 : Int32)) M2 D2 (fun b1 M3 D3 => PM x ad W D b L M0 i0 r z' b1 M3 D3)) := by
      intro o z2 C2 E2 M2 D2 i2 ho lt2 le2 h2 tc2 tr2 he2 hr2 q4 q2 q18 qr q7
      refine gx_recvQ h2.b2.o (by decide) (q_X0_addArea h2.b2 (h2.hA hA).2 hm.c0 hn16) (fun _ z3 ⟨f3, b3⟩ => gx_retZ (Or.inr rfl) (ux_gR rfl (ux_s2 (i := 0) (by omega) rfl (by omega) (ux_retZ (Or.inr rfl) (PM_s (n := n + 1) (np := np) (i := i2) ⟨h2.s2 f3 b3, tc2, tkR_2 tr2 (fun r r2 _ => cset_ne r2), he2, hr2.w (fun k k2 _ => cset_ne k2) (fun _ _ => rfl)⟩ lt2 le2 ⟨cpM_area (g := M 2) (d := D' 7) hm hn16 v0 v1 hk ho ?_ ?_ ?_ ?_ ?_ ?_, fun a ha => ?_, ?_⟩)))))
      · show nI n + (1 : Int32) = _
        exact nI_sum (b := 1) rfl rfl
      · show (if 2 + n = 0 then _ else M2 2 (2 + n)) = kd
        rw [if_neg (by omega)]; exact q2
      · show (if 18 + n = 0 then _ else M2 2 (18 + n)) = b2i o
        rw [if_neg (by omega)]; exact q18
      · intro j j0 j2 j18
        show (if j = 0 then _ else M2 2 j) = M 2 j
        rw [if_neg j0]; exact qr j j2 j18
      · rw [q7]; exact updL_eq
      · intro j hj
        rw [q7]; exact vL_ne hj
      · show (if 50 + a = 0 then _ else M2 2 (50 + a)) = _
        rw [if_neg (by omega), qr _ (by omega) (by omega), aA_r (k := 7) (by omega), aA_r (k := 8) (by omega)]
        exact hbo a ha
      · show MS _ S (M2 4) (n + 1) np
        rw [q4]
        exact MS_mono hms (fun a _ => by rw [aA_r (k := 6) (by omega)]) (Nat.le_succ n) (Nat.le_refl np)
    cases hk3 : kwb b L (tX b L i) 3
    · refine gx_recvE h1.1.2.o (by decide) (c_take0_X3 h1.1 h1.2.1 le hI (by omega) hk3) (gx_itet rfl (sm_u (ux_call (ux_takesIf (j := 3) (by omega) kwL3 tr1 hb' hL (by omega) hN le (fun _ M2 D2 t2 a3 r2 d2 => ux_itet rfl (sm_g (fin false z1 C1 E1 M2 D2 (tX b L i) (fun _ => rfl) (by omega) le h1.1 h1.2.1 t2 ?_ (hr1.k (rk2_rk r2) d2) ?_ ?_ ?_ (fun j j2 j18 => ?_) ?_))) (fun q => by rw [hk3] at q; cases q)))))
      · rw [r2 16 (by omega), r2 17 (by omega)]; exact h1.2.2.2.1
      · rw [r2 4 (by omega), cset_ne (by omega)]; exact e4
      · rw [r2 2 (by omega)]; exact upd_eq
      · rw [r2 2 (by omega)]
        show upd (M1 2) (2 + n) kd (18 + n) = _
        rw [upd_ne (by omega), e2]; exact g18
      · rw [r2 2 (by omega)]
        show upd (M1 2) (2 + n) kd j = _
        rw [upd_ne j2, e2]
      · rw [d2 7 (by omega)]
        show vp_updL (D1 7) n (lN v) = _
        rw [ed]
    · refine gx_recvQ h1.1.2.o (by decide) (c_take1_X3 h1.1 hb h1.2.1 hL le hA hN hI (by omega) hk3) ?_
      rintro r z2 ⟨rfl, C2, E2, h2, tc2, k2⟩
      refine gx_itef (by decide) (sm_u (ux_call (ux_takesIf (j := 3) (by omega) kwL3 tr1 hb' hL (by omega) hN le (fun q => by rw [hk3] at q; cases q) (fun _ M2 D2 t2 a3 r2 d2 => ux_itef (by decide) (sm_g ?_)))))
      have hr2 := hr1.k (rk2_rk r2) d2
      by_cases h2k : kd = 2
      · exact gx_itet h2k (sm_u (ux_itet h2k (sm_g (m_fail h2 (h1.2.1.2.2.2.2.1.trans a3.symm) hr2 hA))))
      · have lt2 : tX b L i < tX b L (tX b L i) := by
          unfold kwb at hk3
          simp only [Bool.and_eq_true, decide_eq_true_eq] at hk3
          exact (tX_w le hk3.1).2
        refine gx_itef h2k (sm_u (ux_itef h2k (ux_gR rfl (ux_s2 (by omega) (nI_sum (a := 18) (b := n) rfl rfl) (by omega) (sm_g (fin true z2 C2 E2 _ D2 (tX b L (tX b L i)) (fun q => absurd q h2k) (by omega) hle2.2 h2 tc2 (tkR_2 t2 (fun r r2 _ => cset_ne r2)) ?_ (hr2.w (fun k k2 _ => cset_ne k2) (fun _ _ => rfl)) ?_ ?_ ?_ (fun j j2 j18 => ?_) ?_))))))
        · rw [k2.2.1, k2.2.2, cset_ne (show ¬ 16 = 2 by omega), cset_ne (show ¬ 17 = 2 by omega), r2 16 (by omega), r2 17 (by omega)]; exact h1.2.2.2.1
        · rw [cset_ne (by omega), r2 4 (by omega), cset_ne (by omega)]; exact e4
        · show upd (M2 2) (18 + n) 1 (2 + n) = _
          rw [upd_ne (by omega), r2 2 (by omega)]; exact upd_eq
        · exact upd_eq
        · show upd (M2 2) (18 + n) 1 j = _
          rw [upd_ne j18, r2 2 (by omega)]
          show upd (M1 2) (2 + n) kd j = _
          rw [upd_ne j2, e2]
        · rw [d2 7 (by omega)]
          show vp_updL (D1 7) n (lN v) = _
          rw [ed]
end
section
variable {G : osG} {z : osS} {N x n np L i i0 a c m : Nat} {ad : Nat → Nat} {W : Nat → Nat → Nat → Int32} {D D' E : Nat → Nat → Int64} {b : Nat → Nat} {M0 M B S C : Nat → Nat → Int32} {at0 l4 : Int32} {oA oF ar fl : Bool}
theorem c_bor145 {Q : Int32 → osS → Prop} (h : MW z x ad (Ws (Ws W 2 B) 4 S) D C E) (hA : G.2.2.1 ≤ x) (hn : B 0 0 = nI n) (h16 : n ≤ 16) (ha : a < n) (hc : c < n) (k0 : (ar || fl) = false → ∀ z' C', MW z' x ad (Ws (Ws W 2 B) 4 S) D C' E → C' 8 0 = 4 → C' 9 0 = (if (oA || oF) = true then l4 else C 7 0) → Q 0 z') (k1 : (ar || fl) = true → ∀ z', MW z' x ad (Ws (Ws W 2 (bordered B a c ar fl)) 4 S) D C E → Q 1 z') : gx (qX3_readBorder_145 N (x + 4) (ad 1) (nI a) (nI c) l4 (b2i oA) (b2i oF) (b2i ar) (b2i fl) G z) Q := by
  unfold qX3_readBorder_145 qX3_readBorder_169 qX3_readBorder_178 qX3_readBorder_182
  have good : (ar || fl) = true → gx ((osbind (osrecv [0] (ad 1) (qX0_addBorder N (ad 1) (nI a) (nI c) (b2i ar) (b2i fl))) fun _ => osretZ (1 : Int32)) G z) Q := fun q =>
    gx_recvQ h.b2.o (by decide) (q_X0_addBorder h.b2 (h.hA hA).2 hn h16 ha hc) (fun _ z1 ⟨f1, b1⟩ => gx_retZ (Or.inr rfl) (k1 q z1 (h.s2 f1 b1)))
  have bad : ∀ v, (ar || fl) = false → v = (if (oA || oF) = true then l4 else C 7 0) → gx ((osbind (osrecv [3] (x + 4) (qX6_fail N (x + 4) (4 : Int32) v)) fun x1 => osretZ x1) G z) Q := fun v q e =>
    gx_recvQ h.2.o (by decide) (c_fail_X3 h hA) (fun r z' ⟨e2, p⟩ => gx_retZ (Or.inl e2) (by rw [e2]; exact k0 q z' _ p rfl e))
  refine gx_iteB (fun q1 => gx_iteB (fun q2 => ?_) (fun q2 => good (by rw [q2, Bool.or_true]))) (fun q1 => good (by rw [q1]; rfl))
  have qq : (ar || fl) = false := by rw [q1, q2]; rfl
  refine gx_iteB (fun q3 => gx_iteB (fun q4 => gx_gI h.2.o (by decide) rfl (bad _ qq ?_)) (fun q4 => bad _ qq ?_)) (fun q3 => bad _ qq ?_)
  · rw [q3, q4]; rfl
  · rw [q3, q4]; rfl
  · rw [q3]; rfl
theorem c_bor85 {Q : Int32 → osS → Prop} (h : MW z x ad (Ws (Ws W 2 B) 4 S) D C E) (hA : G.2.2.1 ≤ x) (hn : B 0 0 = nI n) (h16 : n ≤ 16) (ha : a < n) (hc : c < n) (ear : ar = (!oF && (suit B a 0 && suit B c 0))) (efl : fl = (!oA && (suit B a 1 && suit B c 1))) (k0 : (ar || fl) = false → ∀ z' C', MW z' x ad (Ws (Ws W 2 B) 4 S) D C' E → C' 8 0 = 4 → C' 9 0 = (if (oA || oF) = true then l4 else C 7 0) → Q 0 z') (k1 : (ar || fl) = true → ∀ z', MW z' x ad (Ws (Ws W 2 (bordered B a c ar fl)) 4 S) D C E → Q 1 z') : gx (qX3_readBorder_85 N (x + 4) (ad 1) (nI a) (nI c) l4 (b2i oA) (b2i oF) G z) Q := by
  have s145 : gx (qX3_readBorder_145 N (x + 4) (ad 1) (nI a) (nI c) l4 (b2i oA) (b2i oF) (b2i ar) (b2i fl) G z) Q := c_bor145 h hA hn h16 ha hc k0 k1
  have s115 : gx (qX3_readBorder_115 N (x + 4) (ad 1) (nI a) (nI c) l4 (b2i oA) (b2i oF) (b2i ar) G z) Q := by
    unfold qX3_readBorder_115 qX3_readBorder_144
    refine gx_iteB (fun q1 => gx_recvE h.b2.o (by decide) (q_suits h.b2 (by omega)) (gx_iteB (fun q2 => ?_) (fun q2 => gx_recvE h.b2.o (by decide) (q_suits h.b2 (by omega)) (gx_iteB (fun q3 => ?_) (fun q3 => ?_))))) (fun q1 => ?_)
    · have e : fl = false := by rw [efl, q2]; simp
      rw [e] at s145; exact s145
    · have e : fl = false := by rw [efl, q3]; simp
      rw [e] at s145; exact s145
    · have e : fl = true := by rw [efl, q1, q2, q3]; rfl
      rw [e] at s145; exact s145
    · have e : fl = false := by rw [efl, q1]; rfl
      rw [e] at s145; exact s145
  unfold qX3_readBorder_85 qX3_readBorder_114
  refine gx_iteB (fun q1 => gx_recvE h.b2.o (by decide) (q_suits h.b2 (by omega)) (gx_iteB (fun q2 => ?_) (fun q2 => gx_recvE h.b2.o (by decide) (q_suits h.b2 (by omega)) (gx_iteB (fun q3 => ?_) (fun q3 => ?_))))) (fun q1 => ?_)
  · have e : ar = false := by rw [ear, q2]; simp
    rw [e] at s115; exact s115
  · have e : ar = false := by rw [ear, q3]; simp
    rw [e] at s115; exact s115
  · have e : ar = true := by rw [ear, q1, q2, q3]; rfl
    rw [e] at s115; exact s115
  · have e : ar = false := by rw [ear, q1]; rfl
    rw [e] at s115; exact s115
theorem ux_joins {Q : Unit → (Nat → Nat → Int32) → (Nat → Nat → Int64) → Prop} {r : Nat} {rr : Int32} (er : rr = nI r) (hA : G.2.2.1 ≤ m) (ha : a < 16) (hc : c < 16) (hr : r ≤ 82) (kk : ∀ M', M' 2 = jn (M 2) r a c → (∀ k, ¬ k = 2 → M' k = M k) → Q () M' D) : ux G m (qX10_joins N m rr (nI a) (nI c)) M D Q := by
  subst er
  unfold qX10_joins
  refine ux_gR rfl (ux_gR rfl (ux_a (fun z hz => hz.a2) (nI_sum (a := r) (b := a) rfl rfl) (by omega) (by omega) (ux_s2 hA (nI_sum (a := r) (b := a) rfl rfl) (by omega) (ux_gR rfl (ux_gR rfl (ux_a (fun z hz => hz.a2) (nI_sum (a := r) (b := c) rfl rfl) (by omega) (by omega) (ux_s2 hA (nI_sum (a := r) (b := c) rfl rfl) (by omega) (ux_ret (kk _ rfl (fun k hk => ?_))))))))))
  rw [cset_ne hk, cset_ne hk]
theorem ux_bor163 {Q : Int32 → (Nat → Nat → Int32) → (Nat → Nat → Int64) → Prop} (hA : G.2.2.1 ≤ m) (ha : a < 16) (hc : c < 16) (k0 : (ar || fl) = false → ∀ M', M' 16 0 = 4 → M' 17 0 = l4 → rk M M' → Q 0 M' D) (k1 : (ar || fl) = true → ∀ M', M' 2 = jns (M 2) a c ar fl → (∀ k, ¬ k = 2 → M' k = M k) → Q 1 M' D) : ux G m (qX10_readBorder_163 N m (nI a) (nI c) l4 (b2i ar) (b2i fl)) M D Q := by
  unfold qX10_readBorder_163
  have good : (ar || fl) = true → ux G m (qX10_readBorder_180 N m (nI a) (nI c) (b2i ar) (b2i fl)) M D Q := fun q => by
    unfold qX10_readBorder_180
    refine ux_call (ux_joins (r := 50) rfl hA ha hc (by omega) (fun M1 j1 r1 => ?_))
    have fin : ∀ M2, M2 2 = (if ar = true then jn (jn (M 2) 50 a c) 66 a c else jn (M 2) 50 a c) → (∀ k, ¬ k = 2 → M2 k = M k) → ux G m (qX10_readBorder_201 N m (nI a) (nI c) (b2i fl)) M2 D Q := fun M2 j2 r2 => by
      unfold qX10_readBorder_201 qX10_readBorder_214
      refine ux_iteB (fun q2 => ux_retZ (Or.inr rfl) (k1 q M2 ?_ r2)) (fun q2 => ux_call (ux_joins (r := 82) rfl hA ha hc (by omega) (fun M3 j3 r3 => ux_retZ (Or.inr rfl) (k1 q M3 ?_ (fun k hk => (r3 k hk).trans (r2 k hk))))))
      · unfold jns; rw [q2, if_neg (by decide)]; exact j2
      · unfold jns; rw [q2, if_pos rfl, j3, j2]
    refine ux_iteB (fun q2 => fin M1 ?_ r1) (fun q2 => ux_call (ux_joins (r := 66) rfl hA ha hc (by omega) (fun M2 j2 r2 => fin M2 ?_ (fun k hk => (r2 k hk).trans (r1 k hk)))))
    · rw [q2, if_neg (by decide)]; exact j1
    · rw [q2, if_pos rfl, j2, j1]
  refine ux_iteB (fun q1 => ux_iteB (fun q2 => ux_call (ux_fails hA (fun M1 b6 b7 r1 => ux_retZ (Or.inl rfl) (k0 ?_ M1 b6 b7 (fun k hk => r1 k (by omega) (by omega)))))) (fun q2 => good (by rw [q2, Bool.or_true]))) (fun q1 => good (by rw [q1]; rfl))
  rw [q1, q2]; rfl
theorem kd_suit {a : Nat} : (decide (kdOf B a = 2) = !suit B a 0) ∧ (decide (kdOf B a = 0) = !suit B a 1) := by
  unfold kdOf suit
  cases bt (B 3 0) a <;> cases bt (B 2 0) a <;> exact ⟨rfl, rfl⟩
def rBorT (N x y : Nat) (a c : Int32) : osM Int32 := osbind (osgI [3] 6 (x + 4)) fun x4 => osbind (osstat 5) fun x5 => osbind (osrecv [3] (x + 4) (qX6_take N (x + 4) x5)) fun x6 => osite (x6 = 0) (osbind (osstat 6) fun x7 => osbind (osrecv [3] (x + 4) (qX6_take N (x + 4) x7)) fun x8 => osite (x8 = 0) (qX3_readBorder_84 N (x + 4) y a c x4 x6) (qX3_readBorder_85 N (x + 4) y a c x4 x6 (1 : Int32))) (qX3_readBorder_84 N (x + 4) y a c x4 x6)
theorem m_border (cx : CM G N x L b W) (h : SM z x ad W D b L M0 i B S C E M D') (hQ : QM B S (M 2) (D' 7) (M 4) n np) (hi : i ≤ L) (hii : i0 < i) : gx (qX3_readBorder N (x + 4) (ad 1) G z) (fun r z' => ux G (x + 129) (qX10_readBorder N (x + 129)) M D' (fun b1 M2 D2 => PM x ad W D b L M0 i0 r z' b1 M2 D2)) := by
  obtain ⟨hI, hA, hN, hL, hb⟩ := id cx
  obtain ⟨hm, hbo, hms⟩ := id hQ
  have hb' : ∀ k, k < 1000 → b k < 256 := fun k hk => (hb k hk).1
  have h16 := hm.n16
  unfold qX3_readBorder qX3_readBorder_40 qX10_readBorder qX10_readBorder_49
  refine m_area cx h hm hi (fun z1 C1 E1 M1 D1 h1 he hr => gx_itet rfl (gx_retZ (Or.inl rfl) (ux_itet rfl (ux_retZ (Or.inl rfl) (PM_f h1 he hr rfl rfl))))) (fun a z1 C1 E1 M1 D1 ha ha16 h1 lt le e7 e19 e2 e4 ed => ?_)
  refine gx_itef (nI_m1 (by omega)) (sm_u (ux_itef (by decide) (ux_gI rfl (sm_g ?_))))
  rw [e19]
  have hm1 : cpM B (fun _ => M1 2) (fun _ => D1 7) n np := by rw [e2, ed]; exact hm
  refine m_area cx h1 hm1 le (fun z2 C2 E2 M2 D2 h2 he hr => gx_itet rfl (gx_retZ (Or.inl rfl) (ux_itet rfl (ux_retZ (Or.inl rfl) (PM_f h2 he hr rfl rfl))))) (fun c z2 C2 E2 M2 D2 hc hc16 h2 lt2 le2 e72 e192 e22 e42 ed2 => ?_)
  refine gx_itef (nI_m1 (by omega)) (sm_u (ux_itef (by decide) (ux_gI rfl (sm_g ?_))))
  rw [e192]
  have q2 : M2 2 = M 2 := e22.trans e2
  have q4 : M2 4 = M 4 := e42.trans e4
  have qd : D2 7 = D' 7 := ed2.trans ed
  by_cases hac : a = c
  · subst hac
    exact gx_itet rfl (sm_u (ux_itet rfl (sm_g (m_fail7 h2.1 e72 h2.2.2.2.2 hA))))
  have hne : ¬ nI a = nI c := fun q => hac (nI_eqN (by omega) (by omega) q)
  refine gx_itef hne (gx_recvE h2.1.b2.o (by decide) (q_hasBorder h2.1.b2 ha16 hc16) (sm_u (ux_itef hne (ux_gR rfl (ux_a (fun z hz => hz.a2) (nI_sum (a := 50) (b := a) rfl rfl) (by omega) (by omega) (ux_E (fun z hz => q_X10_has (i := c) (by omega) rfl) (sm_g ?_)))))))
  rw [q2, hbo a ha16, b_or]
  cases hbb : bt (B 7 a) c || bt (B 8 a) c
  case true => exact gx_itef (by decide) (sm_u (ux_itef (by decide) (sm_g (m_fail7 h2.1 e72 h2.2.2.2.2 hA))))
  refine gx_itet rfl (sm_u (ux_itet rfl (ux_gI rfl ?_)))
  obtain ⟨sa2, sa0⟩ := kd_suit (B := B) (a := a)
  obtain ⟨sc2, sc0⟩ := kd_suit (B := B) (a := c)
  have ga : M2 2 (2 + a) = kdOf B a := by rw [q2]; exact (hm.2.1 a ha16).2.2.2.1
  have gc : M2 2 (2 + c) = kdOf B c := by rw [q2]; exact (hm.2.1 c hc16).2.2.2.1
  have hle3 := tX_le (b := b) le2
  have u122 : ∀ (AR FL : Bool), AR = (suit B a 0 && suit B c 0) → FL = (suit B a 1 && suit B c 1) → gx (rBorT N x (ad 1) (nI a) (nI c) G z2) (fun r z' => ux G (x + 129) (qX10_readBorder_122 N (x + 129) (nI a) (nI c) (M2 13 0) (b2i AR) (b2i FL)) M2 D2 (fun b1 M3 D3 => PM x ad W D b L M0 i0 r z' b1 M3 D3)) := by
    intro AR FL eAR eFL
    have fin : ∀ (oA oF : Bool) (lc lr : Int32) (z3 : osS) (C3 : Nat → Nat → Int32) (E3 : Nat → Nat → Int64) (M3 : Nat → Nat → Int32) (D3 : Nat → Nat → Int64) (i3 : Nat), i0 < i3 → i3 ≤ L → MW z3 x ad (Ws (Ws W 2 B) 4 S) D C3 E3 → tkC b L i3 C3 E3 → tkR b L i3 M3 → (C3 8 0 = M3 16 0 ∧ C3 9 0 = M3 17 0) → RM M0 D M3 D3 → M3 2 = M 2 → M3 4 = M 4 → D3 7 = D' 7 → (if (oA || oF) = true then lc else C3 7 0) = lr → gx (qX3_readBorder_85 N (x + 4) (ad 1) (nI a) (nI c) lc (b2i oA) (b2i oF) G z3) (fun r z' => ux G (x + 129) (qX10_readBorder_163 N (x + 129) (nI a) (nI c) lr (b2i (!oF && AR)) (b2i (!oA && FL))) M3 D3 (fun b1 M4 D4 => PM x ad W D b L M0 i0 r z' b1 M4 D4)) := by
      intro oA oF lc lr z3 C3 E3 M3 D3 i3 lt3 le3 h3 tc3 tr3 he3 hr3 m2 m4 m7 e5
      refine c_bor85 (ar := !oF && AR) (fl := !oA && FL) h3 hA hm.c0 h16 ha hc (by rw [eAR]) (by rw [eFL]) (fun q z4 C4 h4 c8 c9 => ux_bor163 (by omega) ha16 hc16 (fun _ M4 b6 b7 r4 => PM_f h4 ⟨by rw [c8, b6], by rw [c9, b7, e5]⟩ (hr3.k r4 dk_rf) rfl rfl) (fun q2 => by rw [q] at q2; cases q2)) (fun q z4 h4 => ux_bor163 (by omega) ha16 hc16 (fun q2 => by rw [q] at q2; cases q2) (fun _ M4 j4 r4 => PM_s (n := n) (np := np) (i := i3) ⟨h4, tc3, tkR_2 tr3 (fun r r2 _ => r4 r r2), ⟨by rw [r4 16 (by omega)]; exact he3.1, by rw [r4 17 (by omega)]; exact he3.2⟩, hr3.w (fun k k2 _ => r4 k k2) (fun _ _ => rfl)⟩ lt3 le3 ?_))
      have haf : (!oF && AR) = true ∨ (!oA && FL) = true := by
        rw [← Bool.or_eq_true]; exact q
      obtain ⟨y1, y2⟩ := cpM_border hm hbo (i := a) (j := c) (ar := !oF && AR) (fl := !oA && FL) ha hc hac haf
      rw [j4, m2, m7, r4 4 (by omega), m4]
      exact ⟨y1, y2, MS_mono hms (fun k _ => by rw [bo_r (k := 6) (by omega) (by omega)]) (Nat.le_refl n) (Nat.le_refl np)⟩
    unfold rBorT qX3_readBorder_84 qX10_readBorder_122
    refine gx_gI h2.1.2.o (by decide) rfl (gx_callE rfl ?_)
    have ltk : ∀ j, kwb b L (tX b L (tX b L i)) j = true → tX b L (tX b L i) < tX b L (tX b L (tX b L i)) := fun j q => by
      unfold kwb at q
      simp only [Bool.and_eq_true, decide_eq_true_eq] at q
      exact (tX_w le2 q.1).2
    cases hk5 : kwb b L (tX b L (tX b L i)) 5
    · refine gx_recvE h2.1.2.o (by decide) (c_take0_X3 h2.1 h2.2.1 le2 hI (by omega) hk5) (gx_itet rfl (gx_callE rfl (sm_u (ux_call (ux_takesIf (j := 5) (by omega) kwL5 h2.2.2.1 hb' hL (by omega) hN le2 (fun _ M3 D3 t3 a3 r3 d3 => ux_itet rfl (sm_g ?_)) (fun q => by rw [hk5] at q; cases q))))))
      have hr3 := h2.2.2.2.2.k (rk2_rk r3) d3
      cases hk6 : kwb b L (tX b L (tX b L i)) 6
      · refine gx_recvE h2.1.2.o (by decide) (c_take0_X3 h2.1 h2.2.1 le2 hI (by omega) hk6) (gx_itet rfl (sm_u (ux_call (ux_takesIf (j := 6) (by omega) kwL6 t3 hb' hL (by omega) hN le2 (fun _ M4 D4 t4 a4 r4 d4 => ux_itet rfl (sm_g (fin false false _ _ z2 C2 E2 M4 D4 (tX b L (tX b L i)) (by omega) le2 h2.1 h2.2.1 t4 ?_ (hr3.k (rk2_rk r4) d4) ?_ ?_ ?_ e72))) (fun q => by rw [hk6] at q; cases q)))))
        · rw [r4 16 (by omega), r4 17 (by omega), r3 16 (by omega), r3 17 (by omega)]; exact h2.2.2.2.1
        · rw [r4 2 (by omega), r3 2 (by omega)]; exact q2
        · rw [r4 4 (by omega), r3 4 (by omega)]; exact q4
        · rw [d4 7 (by omega), d3 7 (by omega)]; exact qd
      · refine gx_recvQ h2.1.2.o (by decide) (c_take1_X3 h2.1 hb h2.2.1 hL le2 hA hN hI (by omega) hk6) ?_
        rintro r z3 ⟨rfl, C3, E3, h3, tc3, k3⟩
        refine gx_itef (by decide) (sm_u (ux_call (ux_takesIf (j := 6) (by omega) kwL6 t3 hb' hL (by omega) hN le2 (fun q => by rw [hk6] at q; cases q) (fun _ M4 D4 t4 a4 r4 d4 => ux_itef (by decide) (ux_gI rfl (sm_g (fin false true _ _ z3 C3 E3 M4 D4 _ (by have := ltk 6 hk6; omega) hle3.2 h3 tc3 t4 ?_ (hr3.k (rk2_rk r4) d4) ?_ ?_ ?_ (h2.2.1.2.2.2.2.1.trans a4.symm))))))))
        · rw [k3.2.1, k3.2.2, r4 16 (by omega), r4 17 (by omega), r3 16 (by omega), r3 17 (by omega)]; exact h2.2.2.2.1
        · rw [r4 2 (by omega), r3 2 (by omega)]; exact q2
        · rw [r4 4 (by omega), r3 4 (by omega)]; exact q4
        · rw [d4 7 (by omega), d3 7 (by omega)]; exact qd
    · refine gx_recvQ h2.1.2.o (by decide) (c_take1_X3 h2.1 hb h2.2.1 hL le2 hA hN hI (by omega) hk5) ?_
      rintro r z3 ⟨rfl, C3, E3, h3, tc3, k3⟩
      refine gx_itef (by decide) (sm_u (ux_call (ux_takesIf (j := 5) (by omega) kwL5 h2.2.2.1 hb' hL (by omega) hN le2 (fun q => by rw [hk5] at q; cases q) (fun _ M4 D4 t4 a4 r4 d4 => ux_itef (by decide) (ux_gI rfl (sm_g (fin true false _ _ z3 C3 E3 M4 D4 _ (by have := ltk 5 hk5; omega) hle3.2 h3 tc3 t4 ?_ (h2.2.2.2.2.k (rk2_rk r4) d4) ?_ ?_ ?_ (h2.2.1.2.2.2.2.1.trans a4.symm))))))))
      · rw [k3.2.1, k3.2.2, r4 16 (by omega), r4 17 (by omega)]; exact h2.2.2.2.1
      · rw [r4 2 (by omega)]; exact q2
      · rw [r4 4 (by omega)]; exact q4
      · rw [d4 7 (by omega)]; exact qd
  have s93 : ∀ (AR : Bool), AR = (suit B a 0 && suit B c 0) → ux G (x + 129) (qX10_readBorder_93 N (x + 129) (nI a) (nI c) (M2 13 0) (b2i AR)) M2 D2 (fun b1 M3 D3 => gx (rBorT N x (ad 1) (nI a) (nI c) G z2) (fun r z' => PM x ad W D b L M0 i0 r z' b1 M3 D3)) := by
    intro AR eAR
    unfold qX10_readBorder_93 qX10_readBorder_121
    refine ux_gR rfl (ux_a (fun z hz => hz.a2) (nI_sum (a := 2) (b := a) rfl rfl) (by omega) (by omega) ?_)
    rw [ga]
    refine ux_ite (fun q => sm_g (u122 AR false eAR ?_)) (fun q => ux_gR rfl (ux_a (fun z hz => hz.a2) (nI_sum (a := 2) (b := c) rfl rfl) (by omega) (by omega) ?_))
    · rw [decide_eq_true q] at sa0
      cases h9 : suit B a 1
      · rfl
      · rw [h9] at sa0; cases sa0
    rw [gc]
    refine ux_ite (fun q9 => sm_g (u122 AR false eAR ?_)) (fun q9 => sm_g (u122 AR true eAR ?_))
    · rw [decide_eq_true q9] at sc0
      cases h9 : suit B c 1
      · rw [Bool.and_false]
      · rw [h9] at sc0; cases sc0
    · rw [decide_eq_false q] at sa0
      rw [decide_eq_false q9] at sc0
      cases h8 : suit B a 1
      · rw [h8] at sa0; cases sa0
      cases h9 : suit B c 1
      · rw [h9] at sc0; cases sc0
      rfl
  show ux G (x + 129) _ M2 D2 (fun b1 M3 D3 => gx (rBorT N x (ad 1) (nI a) (nI c) G z2) (fun r z' => PM x ad W D b L M0 i0 r z' b1 M3 D3))
  unfold qX10_readBorder_92
  refine ux_gR rfl (ux_a (fun z hz => hz.a2) (nI_sum (a := 2) (b := a) rfl rfl) (by omega) (by omega) ?_)
  rw [ga]
  refine ux_ite (fun q => s93 false ?_) (fun q => ux_gR rfl (ux_a (fun z hz => hz.a2) (nI_sum (a := 2) (b := c) rfl rfl) (by omega) (by omega) ?_))
  · rw [decide_eq_true q] at sa2
    cases h9 : suit B a 0
    · rfl
    · rw [h9] at sa2; cases sa2
  rw [gc]
  refine ux_ite (fun q9 => s93 false ?_) (fun q9 => s93 true ?_)
  · rw [decide_eq_true q9] at sc2
    cases h9 : suit B c 0
    · rw [Bool.and_false]
    · rw [h9] at sc2; cases sc2
  · rw [decide_eq_false q] at sa2
    rw [decide_eq_false q9] at sc2
    cases h8 : suit B a 0
    · rw [h8] at sa2; cases sa2
    cases h9 : suit B c 0
    · rw [h9] at sc2; cases sc2
    rfl
end
