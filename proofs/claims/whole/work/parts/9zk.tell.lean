/-! tell: the whole call (by program) -/
def swA (ad : Nat → Nat) (k : Nat) : Nat := if k = 2 then ad 3 else if k = 3 then ad 2 else ad k
def swW (W : Nat → Nat → Nat → Int32) (k : Nat) : Nat → Nat → Int32 := if k = 3 then W 4 else if k = 4 then W 3 else W k
theorem swA_p {ad : Nat → Nat} {i : Nat} : swA ad (4 + i) = ad (4 + i) := by unfold swA; rw [if_neg (by omega), if_neg (by omega)]
theorem swW_p {W : Nat → Nat → Nat → Int32} {k : Nat} (h : ¬ k = 3) (h2 : ¬ k = 4) : swW W k = W k := by unfold swW; rw [if_neg h, if_neg h2]
section
variable {G : osG} {z : osS} {N x n np T L : Nat} {ad : Nat → Nat} {W : Nat → Nat → Nat → Int32} {D : Nat → Nat → Int64}
theorem c_adopt (hw : WD z x ad W D) (hA : G.2.2.1 ≤ x) : gx (qX9_adoptDraft N x G z) (fun _ z' => WD z' x (swA ad) (swW W) D) := by
  unfold qX9_adoptDraft
  refine gx_gR hw.x9.o (by decide) rfl (gx_gR hw.x9.o (by decide) rfl (hw.x9.p13 (by decide) hA (fun z1 f1 h1 => h1.p12 (by decide) hA (fun z2 f2 h2 => gx_ret ?_))))
  have fr := f1.tr f2
  obtain ⟨ha, hz, ⟨h9, h4, h1', h2', hb, hs, hn, hdr, ⟨f, hp, hp2⟩, hpa, ⟨t3, A3, D3, h3⟩, t7, A7, D7, h7⟩, hr, ho⟩ := hw
  have hb9 := ha.b
  have hs9 := ha.s
  refine ⟨⟨ha.1, ?_, fun i hi => ?_, fun i j hi hj e => ?_⟩, fr.2.trans hz, ⟨h2, h4.keep fr (by omega), h1'.keep fr (by omega), h2'.keep fr (by omega), (show rX0 _ (ad 0) (W 1) from hb.keep fr (by omega)), (show rX0 _ (ad 1) (W 2) from hs.keep fr (by omega)), (show rX5 _ (ad 3) (W 4) from hdr.keep fr (by omega)), (show rX5 _ (ad 2) (W 3) from hn.keep fr (by omega)), ⟨f, fr.at (by omega) hp, fun i hi => by rw [swA_p]; exact hp2 i hi⟩, fun i hi => ?_, ⟨t3, A3, D3, h3.keep fr (by omega)⟩, t7, A7, D7, h7.keep fr (by omega)⟩, hr.keep fr (by omega), ho.keep fr (by omega)⟩
  · show (ad 3 = x + 33 ∧ ad 2 = x + 45) ∨ (ad 3 = x + 45 ∧ ad 2 = x + 33)
    omega
  · rw [swA_p]; exact ha.2.2.1 i hi
  · rw [swA_p, swA_p] at e; exact ha.2.2.2 i j hi hj e
  · rw [swA_p, swW_p (by omega) (by omega)]
    exact (hpa i hi).keep fr (by have := ha.p hi; omega)
theorem callT_ux {Lt : List (Nat × Int32)} {F : osM (Nat ⊕ Int32)} {R : osM Int32} (h : gx (F G z) (fun r z1 => ux G (x + 129) R (W 20) D (fun b M' D' => ∃ ad W1, WD z1 x ad W1 D ∧ W1 20 = W 20 ∧ IV (Ws W1 20 M') D' T ∧ agr Lt r (M' 0 0) b))) : callT G z x T Lt F R := by
  refine ⟨fun r _ W1 D1 => ux G (x + 129) R (W1 20) D1 (fun b M' D' => IV (Ws W1 20 M') D' T ∧ agr Lt r (M' 0 0) b), gx_mono h (fun r z1 ⟨b, M', D', h1, ad, W1, hw, e20, hi, ha⟩ => ⟨ad, W1, D, hw, b, M', D', by rw [e20]; exact h1, hi, ha⟩), ?_⟩
  rintro r z1 ad1 W1 D1 hw1 ⟨b, M', D', h1, hi, ha⟩
  exact gx_mono (h1 z1 hw1.m) (fun a z2 ⟨e, f, r2⟩ => ⟨f, ad1, _, D', hw1.ref f r2, hi, by rw [Ws_eq, e]; exact ha⟩)
end
section
variable {G : osG} {N m c l : Nat} {M : Nat → Nat → Int32} {D : Nat → Nat → Int64} {v : Int32}
theorem ux_opens {Q : Int32 → (Nat → Nat → Int32) → (Nat → Nat → Int64) → Prop} (e10 : M 10 0 = nI c) (hl : l ≤ c) (hc : c ≤ 1000) (hA : G.2.2.1 ≤ m) (kk : ∀ M', M' 0 0 = 0 → M' 12 0 = nI l → M' 11 0 = 0 → M' 16 0 = 0 → M' 17 0 = -1 → M' 10 0 = 0 → (∀ k, ¬ (k = 0 ∨ k = 10 ∨ k = 11 ∨ k = 12 ∨ k = 16 ∨ k = 17) → M' k = M k) → Q 1 M' D) : ux G m (qX10_opens N m (nI l)) M D Q := by
  unfold qX10_opens qX10_opens_18
  refine ux_gI rfl ?_
  rw [e10]
  refine ux_E (fun z _ => q_X10_in) ?_
  rw [decide_eq_false (nI_pos (by omega)), decide_eq_false (fun q => by have := (nI_ltI (a := c) (b := l) (by omega) (by omega)).mp q; omega)]
  refine ux_itef (by decide) (ux_p0 hA (ux_gI rfl (ux_itet (by show (0 : Int32) ≤ 0; decide) (ux_p12 hA (ux_p11 hA (ux_p16 hA (ux_p17 hA (ux_p10 hA (ux_retZ (Or.inr rfl) (kk _ rfl rfl rfl rfl rfl rfl (fun k hk => ?_)))))))))))
  rw [cset_ne (by omega), cset_ne (by omega), cset_ne (by omega), cset_ne (by omega), cset_ne (by omega), cset_ne (by omega)]
theorem ux_opens0 {Q : Int32 → (Nat → Nat → Int32) → (Nat → Nat → Int64) → Prop} (e10 : M 10 0 = nI c) (hv : v < 0 ∨ ¬ v ≤ nI c) (hA : G.2.2.1 ≤ m) (kk : Q 0 (cset M 0 fun _ => (1 : Int32)) D) : ux G m (qX10_opens N m v) M D Q := by
  unfold qX10_opens qX10_opens_18
  refine ux_gI rfl ?_
  rw [e10]
  refine ux_E (fun z _ => q_X10_in) ?_
  have e : (!decide (v < 0) && !decide (nI c < v)) = false := by
    rcases hv with q | q
    · rw [decide_eq_true q]; rfl
    · have : nI c < v := by
        rw [Int32.lt_iff_toInt_lt]
        rw [Int32.le_iff_toInt_le] at q
        omega
      rw [decide_eq_true this, Bool.not_true, Bool.and_false]
  rw [e]
  exact ux_itet rfl (ux_p0 hA (ux_gI rfl (ux_itef (by show ¬ (1 : Int32) ≤ 0; decide) (ux_retZ (Or.inl rfl) kk))))
theorem ux_laysDraft {Q : Unit → (Nat → Nat → Int32) → (Nat → Nat → Int64) → Prop} (hA : G.2.2.1 ≤ m) (hN : 5000 < N) (kk : ∀ M', (∀ j, j < 261 → M' 4 j = M 3 j) → (∀ k, ¬ k = 4 → M' k = M k) → Q () M' D) : ux G m (qX10_laysDraft N m) M D Q := by
  unfold qX10_laysDraft qX10_laysDraft_2
  refine ux_loop 261 (fun i p M' D' => p = (m, nI i) ∧ D' = D ∧ (∀ j, j < i → M' 4 j = M 3 j) ∧ ∀ k, ¬ k = 4 → M' k = M k) ?_ ?_ N 0 _ M D (Nat.zero_le _) (by omega) ⟨rfl, rfl, fun j hj => absurd hj (Nat.not_lt_zero j), fun _ _ => rfl⟩
  · rintro ih i p M' D' hi ⟨rfl, rfl, a1, er⟩ k
    show ux G m (bX10_laysDraft_2 N ih m (nI i)) M' D' _
    unfold bX10_laysDraft_2
    refine ux_itef (nI_ge (a := i) (b := 261) hi (by omega)) (ux_gR rfl (ux_gR rfl (ux_a (i := i) (fun z hz => hz.a3) rfl hi (by omega) (ux_s4 (i := i) hA rfl hi (k _ _ _ ⟨congrArg (fun t => (_, t)) (nI_sum (b := 1) rfl rfl), rfl, fun j hj => ?_, fun r hr => ?_⟩)))))
    · show (if j = i then M' 3 i else M' 4 j) = _
      by_cases q : j = i
      · rw [if_pos q, er 3 (by omega), q]
      · rw [if_neg q]; exact a1 j (by omega)
    · rw [cset_ne hr]; exact er r hr
  · rintro ih p M' D' ⟨rfl, rfl, a1, er⟩
    show ux G m (bX10_laysDraft_2 N ih m (nI 261)) M' D' _
    unfold bX10_laysDraft_2
    exact ux_itet (by decide) (ux_ret (kk M' a1 er))
theorem ux_s3 {α : Type} {Q : α → (Nat → Nat → Int32) → (Nat → Nat → Int64) → Prop} (hA : G.2.2.1 ≤ m) {i : Nat} {x v : Int32} {f : Unit → osM α} (e : x = nI i) (hi : i < 261) (k : ux G m (f ()) (cset M 3 (upd (M 3) i v)) D Q) : ux G m (osbind (ossI 0 (m + 3) x v) f) M D Q := ux_w (fun z hz R kk => hz.s3 e hi hA kk) k
theorem ux_takesDraft {Q : Unit → (Nat → Nat → Int32) → (Nat → Nat → Int64) → Prop} (hA : G.2.2.1 ≤ m) (hN : 5000 < N) (kk : ∀ M', (∀ j, j < 261 → M' 3 j = M 4 j) → (∀ k, ¬ k = 3 → M' k = M k) → Q () M' D) : ux G m (qX10_takesDraft N m) M D Q := by
  unfold qX10_takesDraft qX10_takesDraft_2
  refine ux_loop 261 (fun i p M' D' => p = (m, nI i) ∧ D' = D ∧ (∀ j, j < i → M' 3 j = M 4 j) ∧ ∀ k, ¬ k = 3 → M' k = M k) ?_ ?_ N 0 _ M D (Nat.zero_le _) (by omega) ⟨rfl, rfl, fun j hj => absurd hj (Nat.not_lt_zero j), fun _ _ => rfl⟩
  · rintro ih i p M' D' hi ⟨rfl, rfl, a1, er⟩ k
    show ux G m (bX10_takesDraft_2 N ih m (nI i)) M' D' _
    unfold bX10_takesDraft_2
    refine ux_itef (nI_ge (a := i) (b := 261) hi (by omega)) (ux_gR rfl (ux_gR rfl (ux_a (i := i) (fun z hz => hz.a4) rfl hi (by omega) (ux_s3 (i := i) hA rfl hi (k _ _ _ ⟨congrArg (fun t => (_, t)) (nI_sum (b := 1) rfl rfl), rfl, fun j hj => ?_, fun r hr => ?_⟩)))))
    · show (if j = i then M' 4 i else M' 3 j) = _
      by_cases q : j = i
      · rw [if_pos q, er 4 (by omega), q]
      · rw [if_neg q]; exact a1 j (by omega)
    · rw [cset_ne hr]; exact er r hr
  · rintro ih p M' D' ⟨rfl, rfl, a1, er⟩
    show ux G m (bX10_takesDraft_2 N ih m (nI 261)) M' D' _
    unfold bX10_takesDraft_2
    exact ux_itet (by decide) (ux_ret (kk M' a1 er))
theorem ux_isRead {Q : Int32 → (Nat → Nat → Int32) → (Nat → Nat → Int64) → Prop} (hA : G.2.2.1 ≤ m) {r : Int32} (h0 : r = 0 → Q 0 (cset M 0 fun _ => (2 : Int32)) D) (h1 : r = 1 → Q 1 (cset M 0 fun _ => (0 : Int32)) D) (hr : r = 0 ∨ r = 1) : ux G m (qX10_isRead N m r) M D Q := by
  unfold qX10_isRead qX10_isRead_10
  rcases hr with rfl | rfl
  · exact ux_itet rfl (ux_p0 hA (ux_retZ (Or.inl rfl) (h0 rfl)))
  · exact ux_itef (by decide) (ux_p0 hA (ux_retZ (Or.inr rfl) (h1 rfl)))
end
theorem IV_told {W W' : Nat → Nat → Nat → Int32} {D D' : Nat → Nat → Int64} {n np T : Nat} (hi : IVn W D n np T) (e1 : W' 1 = W 1) (e7 : W' 7 = W 7) (ep : ∀ i, i < 6 → W' (8 + i) = W (8 + i)) (e9 : W' 0 9 = W 0 9) (e00 : W' 0 0 = W 0 0) (e01 : W' 0 1 0 = 0) (m10 : W' 20 10 0 = 0) (em : ∀ k, k = 1 ∨ k = 5 ∨ k = 8 ∨ k = 9 ∨ k = 41 ∨ k = 42 → W' 20 k = W 20 k) (d6 : D' 6 = D 6) (he : W' 0 3 0 = W' 20 16 0 ∧ W' 0 4 0 = W' 20 17 0) (ht : cpT (W' 3) (W' 20 3)) (hs : stI (W 1) (W' 3) n np T) : IVn W' D' n np T := by
  obtain ⟨h1, h2, h3, ⟨c, hc, i1, i2, i3⟩, h5, ⟨u, h6, h7, h8, h9⟩, h10⟩ := hi
  refine ⟨?_, ht, ?_, ⟨0, by omega, e01, m10, ?_⟩, he, ⟨u, h6, ?_, ?_, fun i hi => ?_⟩, ?_⟩
  · rw [e1]; exact cpM_keep h1 (em 1 (by omega)) d6
  · rw [e1]; exact hs
  · rw [em 9 (by omega), e00]; exact i3
  · rw [e9]; exact h7
  · rw [em 8 (by omega)]; exact h8
  · rw [e1, ep i (by omega), em 5 (by omega)]; exact h9 i hi
  · unfold cpO at h10 ⊢
    rw [e7, em 41 (by omega), em 42 (by omega)]; exact h10
section
variable {G : osG} {z : osS} {N x n np T L : Nat} {ad : Nat → Nat} {W : Nat → Nat → Nat → Int32} {D D' : Nat → Nat → Int64} {b : Nat → Nat} {M0 M S : Nat → Nat → Int32} {v : Int32}
theorem p_readAll (cx : CX G N x n np T L b W D M0) (hw : WD z x ad (Ws W 4 S) D) (tr : tkR b L 0 M) (e16 : M 16 0 = 0) (e17 : M 17 0 = -1) (hr : rq M0 M ∧ dk D D') (hP : PT (W 1) (W 3) n np T S (M 4)) : gx (qX7_readAll N (x + 6) (x + 1) (nI L) (ad 0) (ad 3) G z) (fun a z' => ux G (x + 129) (qX10_readAll N (x + 129)) M D' (fun b1 M2 D2 => PA x ad W D n np T M0 a z' b1 M2 D2)) := by
  obtain ⟨hI, hA, hN, hL, hb, hm, ht, hs⟩ := id cx
  unfold qX7_readAll qX10_readAll
  obtain ⟨_, tb, A, B, h⟩ := hw.rd
  refine gx_recvQ h.o (by decide) (c_begin_X7 hw hb hL hA hN) ?_
  rintro _ z1 ⟨C, E, h1, tc, e8, e9⟩
  refine sm_u (ux_p20 (by omega) (sm_g (p_all cx ⟨h1, tc, ⟨tr.1, tr.2⟩, ⟨?_, ?_⟩, ⟨fun k hk => ?_, hr.2, rfl⟩⟩ hP)))
  · rw [e8]; exact e16.symm
  · rw [e9]; exact e17.symm
  · rw [cset_ne (by omega)]; exact hr.1 k hk
theorem c_tell (hw : WD z x ad W D) (hi : IVn W D n np T) (hI : osInj G) (hA : G.2.2.1 ≤ x) (hN : 5000 < N) : callT G z x T [(1, (1 : Int32)), (0, (2 : Int32))] (qX9_tell N x v) (qX10_tell N (x + 129) v) := by
  refine callT_ux (W := W) (D := D) ?_
  obtain ⟨c, hc, e1, e10, hio⟩ := hi.in
  have hA' : G.2.2.1 ≤ x + 129 := by omega
  have hj := hi.i.j
  have rej : (v < 0 ∨ ¬ v ≤ nI c) → ux G (x + 129) (qX10_tell N (x + 129) v) (W 20) D (fun b M' D' => ∃ ad W1, WD z x ad W1 D ∧ W1 20 = W 20 ∧ IV (Ws W1 20 M') D' T ∧ agr [(1, (1 : Int32)), (0, (2 : Int32))] (.inl 1) (M' 0 0) b) := fun q => by
    unfold qX10_tell
    exact ux_call (ux_opens0 e10 q hA' (ux_itet rfl (ux_ret ⟨ad, W, hw, rfl, ⟨n, np, IV_ref hi k0_ok⟩, agrT (j := 1) (q := (1, 1)) rfl rfl (by decide)⟩)))
  unfold qX9_tell
  refine gx_bindT (gx_recv hw.x9.o (by decide) ?_)
  unfold qX9_requireLength qX9_requireLength_13
  by_cases c1 : v < 0
  · exact gx_itet c1 (gx_throw hw.nz (rej (Or.inl c1)))
  refine gx_itef c1 (gx_gI hw.x9.o (by decide) rfl ?_)
  rw [e1]
  by_cases c2 : v ≤ nI c
  · refine gx_itet c2 (gx_Rt (gx_ret ?_))
    obtain ⟨l, hl, rfl⟩ := nI_of c1
    have hlc : l ≤ c := (nI_leI hl (by omega)).mp c2
    obtain ⟨b, hb⟩ : ∃ b : Nat → Nat, ∀ k, k < 1000 → b k < 256 ∧ W 20 9 k = nI (b k) ∧ W 0 0 k = (nI (b k)).toInt8.toInt32 := by
      refine ⟨fun k => tn (W 20 9 k), fun k hk => ?_⟩
      obtain ⟨w, w1, w2, w3⟩ := hio k hk
      have : tn (W 20 9 k) = w := by rw [w2]; exact nI_clamp (by omega)
      show tn (W 20 9 k) < 256 ∧ W 20 9 k = nI (tn (W 20 9 k)) ∧ W 0 0 k = (nI (tn (W 20 9 k))).toInt8.toInt32
      rw [this]
      exact ⟨w1, w2, w3⟩
    refine hw.x9.p1 (by decide) hA (fun z1 f1 h1 => ?_)
    have w1 := hw.c9 f1 h1
    have hs9 := hw.ok.s
    refine gx_gR w1.x9.o (by decide) rfl (gx_gR w1.x9.o (by decide) rfl (gx_recvQ w1.dr.o (by decide) (q_X5_copyFrom w1.dr w1.nw (by omega) (by omega) hj.b2) (fun _ z2 ⟨f2, U, h2, u1, u2, u3⟩ => ?_)))
    have w2 := w1.cd f2 h2
    have hsE : sE (W 3) U := ⟨u1, u2, u3⟩
    refine gx_gR w2.x9.o (by decide) rfl (gx_gR w2.x9.o (by decide) rfl (gx_gR w2.x9.o (by decide) rfl (gx_gR w2.x9.o (by decide) rfl ?_)))
    unfold qX10_tell
    refine sm_u (ux_call (ux_opens e10 hlc hc hA' (fun M1 o0 o12 o11 o16 o17 o10 ok => ux_itef (by decide) (ux_call (ux_laysDraft hA' hN (fun M2 d4 dr => sm_g ?_))))))
    have ek : ∀ k, ¬ (k = 0 ∨ k = 4 ∨ k = 10 ∨ k = 11 ∨ k = 12 ∨ k = 16 ∨ k = 17) → M2 k = W 20 k := fun k hk => by rw [dr k (by omega)]; exact ok k (by omega)
    have hPT : PT (W 1) (W 3) n np T U (M2 4) := by
      refine ⟨cpT_fE (cpT_sE hsE hi.s) (fun j hj => ?_), stI_sE hsE hi.m.n16 hi.i, u1 0 (by omega), fun _ => ⟨fun j hj => ⟨u2 6 (by omega) (by omega) j hj, u2 7 (by omega) (by omega) j hj, u2 8 (by omega) (by omega) j hj, u2 9 (by omega) (by omega) j hj, u2 10 (by omega) (by omega) j hj⟩, u1 4 (by omega)⟩⟩
      rw [d4 j hj, ok 3 (by omega)]
    have cx : CX G N x n np T l b (Ws W 0 (cset (W 0) 1 fun _ => (0 : Int32))) D M2 := by
      refine ⟨hI, hA, hN, by omega, fun k hk => ⟨(hb k hk).1, (hb k hk).2.2⟩, cpM_keep hi.m (ek 1 (by omega)) rfl, ?_, hi.i⟩
      rw [ek 3 (by omega)]; exact hi.s
    have tr : tkR b l 0 M2 := by
      refine ⟨⟨by rw [dr 12 (by omega)]; exact o12, fun k hk => ?_⟩, 0, Nat.zero_le _, rfl, by rw [dr 11 (by omega)]; exact o11⟩
      rw [ek 9 (by omega)]; exact (hb k hk).2.1
    obtain ⟨_, tb, A, B, hrd⟩ := w2.rd
    refine sm_call hrd.o (by decide) (p_readAll cx w2 tr (by rw [dr 16 (by omega)]; exact o16) (by rw [dr 17 (by omega)]; exact o17) ⟨fun _ _ => rfl, dk_rf⟩ hPT) (fun r1 z3 r2 M3 D3 hx => ?_)
    obtain ⟨l2, S', C', E', hr, h7, he, hcase⟩ := hx
    refine gx_gR h7.1.x9.o (by decide) rfl (gx_recvQ h7.1.x9.o (by decide) (c_note_X7 h7 hA) (fun _ z4 h4 => ?_))
    have em : ∀ k, k = 1 ∨ k = 5 ∨ k = 8 ∨ k = 9 ∨ k = 41 ∨ k = 42 → M3 k = W 20 k := fun k hk => by rw [hr.1 k (by omega)]; exact ek k (by omega)
    have m10 : M3 10 0 = 0 := by rw [hr.1 10 (by omega), dr 10 (by omega)]; exact o10
    have d6 : D3 6 = D 6 := hr.2.1 6 (by omega)
    have m3 : M3 3 = W 20 3 := by rw [hr.1 3 (by omega)]; exact ek 3 (by omega)
    rcases hcase with ⟨rfl, rfl⟩ | ⟨rfl, rfl, hne, hP'⟩
    · refine gx_itet rfl (gx_throw h4.1.nz (ux_call (ux_isRead hA' (fun _ => ux_itet rfl (ux_ret ⟨ad, _, h4.1, rfl, ⟨n, np, IV_told hi rfl rfl (fun i hi6 => ?_) rfl rfl rfl m10 (fun k hk => ?_) d6 he ?_ hi.i⟩, agrT (j := 0) (q := (0, 2)) rfl rfl (by decide)⟩)) (fun q => absurd q (by decide)) (Or.inl rfl))))
      · rw [Ws_ne (by omega), Ws_ne (by omega), Ws_ne (by omega), Ws_ne (by omega)]
      · rw [Ws_eq, cset_ne (by omega)]; exact em k hk
      · show cpT (W 3) (M3 3)
        rw [m3]; exact hi.s
    · refine gx_itef hne (gx_recvQ h4.1.x9.o (by decide) (c_adopt h4.1 hA) (fun _ z5 w5 => gx_Rt (gx_ret (ux_call (ux_isRead hA' (fun q => absurd q (by decide)) (fun _ => ux_itef (by decide) (ux_call (ux_takesDraft hA' hN (fun M4 t3 tr4 => ux_gI rfl (ux_ret ⟨swA ad, _, w5, rfl, ⟨n, np, IV_told hi rfl rfl (fun i hi6 => ?_) rfl rfl rfl ?_ (fun k hk => ?_) d6 ?_ ?_ ?_⟩, ?_, ?_⟩))))) (Or.inr rfl))))))
      · rw [Ws_ne (by omega), swW_p (by omega) (by omega), Ws_ne (by omega), Ws_ne (by omega), Ws_ne (by omega)]
      · show M4 10 0 = 0
        rw [tr4 10 (by omega), cset_ne (by omega)]; exact m10
      · rw [Ws_eq, tr4 k (by omega), cset_ne (by omega)]; exact em k hk
      · show C' 8 0 = M4 16 0 ∧ C' 9 0 = M4 17 0
        rw [tr4 16 (by omega), tr4 17 (by omega), cset_ne (by omega), cset_ne (by omega)]; exact he
      · show cpT S' (M4 3)
        exact cpT_fE hP'.1 (fun j hj => by rw [t3 j hj, cset_ne (by omega)])
      · exact hP'.2.1
      · show M4 0 0 = 0
        rw [tr4 0 (by omega)]; rfl
      · show r1 = M4 20 0
        rw [tr4 20 (by omega), cset_ne (by omega)]; exact hr.2.2.symm
  · exact gx_itef c2 (gx_throw hw.nz (rej (Or.inr c2)))
theorem tell_ok (hI : osInj G) (hA : G.2.2.1 ≤ x) (hN : 5000 < N) : tellOK G N x := fun z ad W D n np T v _ hw hi => c_tell hw hi hI hA hN
end
