/-! endRetreats (2) (by program) -/
def clrF (f : Nat → Int32) : Nat → Int32 := fun j => if 53 ≤ j ∧ j < 69 ∨ 85 ≤ j ∧ j < 117 then -1 else f j
section
variable {G : osG} {z : osS} {N m n np T : Nat} {C S M : Nat → Nat → Int32} {D : Nat → Nat → Int64}
theorem q_X10_endRetreats_132 {g : Int32} {t : Nat} (hm : rX10 z m M D) (hA : G.2.2.1 ≤ m) (hc : cpM C M D n np) (ht : cpT S (clrF (M 3))) (hj : stJ C S n np T) (hd : ∀ a, a < 16 → ds S a = false) (e1 : S 1 0 = nI t) (ht31 : t < 2 ^ 31) (hN : 5000 < N) : gx (qX10_endRetreats_132 N (m, g, (0 : Int32)) G z) (fun v z' => v = g ∧ osFr m (m + 21) z z' ∧ ∃ M', rX10 z' m M' D ∧ (∀ k, k ≠ 3 → M' k = M k) ∧ cpT (if t % 2 = 0 then closed C S np else begun S) (M' 3) ∧ stI C (if t % 2 = 0 then closed C S np else begun S) n np (T + 1)) := by
  refine gx_loop 16 (fun i p z' => p = (m, g, nI i) ∧ osFr m (m + 21) z z' ∧ ∃ M', rX10 z' m M' D ∧ (∀ k, k ≠ 3 → M' k = M k) ∧ ∀ j, M' 3 j = if 53 ≤ j ∧ j < 53 + i ∨ 85 ≤ j ∧ j < 85 + i ∨ 101 ≤ j ∧ j < 101 + i then -1 else M 3 j) ?_ ?_ N 0 _ z (Nat.zero_le _) (by omega) ⟨rfl, osFr.rf, M, hm, fun _ _ => rfl, fun j => (if_neg (by omega)).symm⟩
  · rintro ih i p z' hi ⟨rfl, fr, M', h', er, e3⟩ k
    show gx (bX10_endRetreats_132 N ih m g (nI i) G z') _
    unfold bX10_endRetreats_132
    refine gx_itef (nI_ge (a := i) (b := 16) hi (by omega)) (gx_gR h'.o (by decide) rfl (h'.s3 (nI_sum (a := 53) (b := i) rfl rfl) (by omega) hA (fun z2 f2 h2 => gx_gR h2.o (by decide) rfl (h2.s3 (nI_sum (a := 85) (b := i) rfl rfl) (by omega) hA (fun z3 f3 h3 => gx_gR h3.o (by decide) rfl (h3.s3 (nI_sum (a := 101) (b := i) rfl rfl) (by omega) hA (fun z4 f4 h4 => k _ _ ⟨congrArg (fun t => (_, _, t)) (nI_sum (b := 1) rfl rfl), fr.tr (f2.tr (f3.tr f4)), _, h4, fun r hr => ?_, fun j => ?_⟩)))))))
    · rw [cset_ne hr, cset_ne hr, cset_ne hr]; exact er r hr
    · show (if j = 101 + i then (-1 : Int32) else if j = 85 + i then -1 else if j = 53 + i then -1 else M' 3 j) = _
      rw [e3 j]
      by_cases q1 : j = 101 + i
      · rw [if_pos q1, if_pos (by omega)]
      · rw [if_neg q1]
        by_cases q2 : j = 85 + i
        · rw [if_pos q2, if_pos (by omega)]
        · rw [if_neg q2]
          by_cases q3 : j = 53 + i
          · rw [if_pos q3, if_pos (by omega)]
          · rw [if_neg q3]
            by_cases q4 : 53 ≤ j ∧ j < 53 + i ∨ 85 ≤ j ∧ j < 85 + i ∨ 101 ≤ j ∧ j < 101 + i
            · rw [if_pos q4, if_pos (by omega)]
            · rw [if_neg q4, if_neg (by omega)]
  · rintro ih p z' ⟨rfl, fr, M', h', er, e3⟩
    show gx (bX10_endRetreats_132 N ih m g (nI 16) G z') _
    unfold bX10_endRetreats_132
    refine gx_itet (by decide) (gx_recvQ h'.o (by decide) (q_X10_endsTurn h' hA (cpM_keep hc (er 1 (by omega)) rfl) (cpT_fE ht (fun j hj2 => ?_)) hj hd e1 ht31 (by omega)) (fun _ z2 ⟨f2, M2, h2, r2, c2, i2⟩ => gx_ret ⟨rfl, fr.tr f2, M2, h2, fun k hk => (r2 k hk).trans (er k hk), c2, i2⟩))
    rw [e3 j]
    unfold clrF
    by_cases q4 : 53 ≤ j ∧ j < 53 + 16 ∨ 85 ≤ j ∧ j < 85 + 16 ∨ 101 ≤ j ∧ j < 101 + 16
    · rw [if_pos q4, if_pos (by omega)]
    · rw [if_neg q4, if_neg (by omega)]
theorem q_X10_endRetreats_32 {t : Nat} (hm : rX10 z m M D) (hA : G.2.2.1 ≤ m) (hc : cpM C M D n np) (ht : cpT S (M 3)) (hj : stJ C S n np T) (e1 : S 1 0 = nI t) (ht31 : t < 2 ^ 31) (hN : 5000 < N) : gx (qX10_endRetreats_32 N (m, (0 : Int32), (0 : Int32)) G z) (fun v z' => v = (crW S 16).2 ∧ osFr m (m + 21) z z' ∧ ∃ M', rX10 z' m M' D ∧ (∀ k, k ≠ 3 → M' k = M k) ∧ cpT (if t % 2 = 0 then closed C (retS S) np else begun (retS S)) (M' 3) ∧ stI C (if t % 2 = 0 then closed C (retS S) np else begun (retS S)) n np (T + 1)) := by
  have h16 := hc.n16
  have h4 := hc.p4
  have m0 := hc.m0
  refine gx_loop n (fun i p z' => p = (m, (crW S i).2, nI i) ∧ osFr m (m + 21) z z' ∧ ∃ M', rX10 z' m M' D ∧ (∀ k, k ≠ 3 → M' k = M k) ∧ (∀ a, a < 16 → M' 3 (21 + a) = (crW S i).1 6 a) ∧ (∀ a, a < 16 → uu (crW S i).1 a = true → M' 3 (37 + a) = (crW S i).1 7 a) ∧ ∀ j, j < 21 ∨ 53 ≤ j → M' 3 j = M 3 j) ?_ ?_ N 0 _ z (Nat.zero_le _) (by omega) ⟨rfl, osFr.rf, M, hm, fun _ _ => rfl, fun a ha => (ht.2.1 a ha).2.1, ht.2.2.1, fun _ _ => rfl⟩
  · rintro ih i p z' hi ⟨rfl, fr, M', h', er, e21, e37, ek⟩ k
    show gx (bX10_endRetreats_32 N ih m (crW S i).2 (nI i) G z') _
    unfold bX10_endRetreats_32 qX10_endRetreats_124 qX10_endRetreats_81 qX10_endRetreats_124
    have hi16 : i < 16 := by omega
    obtain ⟨_, _, t53, t101, _⟩ := ht.2.1 i hi16
    have m0' : M' 1 0 = nI n := by rw [er 1 (by omega)]; exact m0
    refine gx_gR h'.o (by decide) rfl (gx_aE (i := 0) h'.a1 rfl (by omega) (Nat.le_of_ble_eq_true rfl) ?_)
    rw [m0']
    refine gx_itef (nI_ge hi (by omega)) (gx_gR h'.o (by decide) rfl (gx_aE h'.a3 (nI_sum (a := 53) (b := i) rfl rfl) (by omega) (Nat.le_of_ble_eq_true rfl) ?_))
    rw [ek (53 + i) (by omega), t53]
    refine gx_ite (fun c1 => k _ _ ⟨?_, fr, M', h', er, ?_, ?_, ek⟩) (fun c1 => gx_gR h'.o (by decide) rfl (gx_aE h'.a3 (nI_sum (a := 101) (b := i) rfl rfl) (by omega) (Nat.le_of_ble_eq_true rfl) ?_))
    · rw [crW_succ, show stCR S i (crW S i) = crW S i by unfold stCR; rw [if_pos c1]]; exact congrArg (fun t => (_, _, t)) (nI_sum (b := 1) rfl rfl)
    · rw [crW_succ, show stCR S i (crW S i) = crW S i by unfold stCR; rw [if_pos c1]]; exact e21
    · rw [crW_succ, show stCR S i (crW S i) = crW S i by unfold stCR; rw [if_pos c1]]; exact e37
    · rw [ek (101 + i) (by omega), t101]
      have more : stCR S i (crW S i) = ((crW S i).1, (crW S i).2 + (1 : Int32)) → gx (ih (m, (crW S i).2 + (1 : Int32), nI i + (1 : Int32)) G z') _ := fun q => k _ _ ⟨by rw [crW_succ, q]; exact congrArg (fun t => (_, _, t)) (nI_sum (b := 1) rfl rfl), fr, M', h', er, by rw [crW_succ, q]; exact e21, by rw [crW_succ, q]; exact e37, ek⟩
      refine gx_ite (fun c2 => more (by unfold stCR; rw [if_neg c1, if_pos c2])) (fun c2 => ?_)
      refine gx_recvE h'.o (by decide) (q_X10_isAlone (S := S) h' m0' h16 (fun c hc => by rw [ek (53 + c) (by omega)]; exact (ht.2.1 c hc).2.2.1) (fun c hc => by rw [ek (101 + c) (by omega)]; exact (ht.2.1 c hc).2.2.2.1) hi16 hN) ?_
      rw [← al_ct hj h16 hi16 c2]
      refine gx_iteD (fun c3 => more (by unfold stCR; rw [if_neg c1, if_neg c2, if_neg c3])) (fun c3 => ?_)
      have hq : stCR S i (crW S i) = (placed (crW S i).1 (tn (S 11 i)) (S 8 i) (S 9 i), (crW S i).2) := by unfold stCR; rw [if_neg c1, if_neg c2, if_pos c3]
      have hds : ds S i = true := by unfold ds; rw [decide_eq_false c1]; rfl
      obtain ⟨q1, q2⟩ := hj.rt i hi16 c2
      refine gx_gR h'.o (by decide) rfl (gx_gR h'.o (by decide) rfl (gx_aE h'.a3 (nI_sum (a := 53) (b := i) rfl rfl) (by omega) (Nat.le_of_ble_eq_true rfl) (h'.s3 (nI_sum (a := 21) (b := tn (S 11 i)) rfl q1) (by omega) hA (fun z2 f2 h2 => gx_gR h2.o (by decide) rfl (gx_gR h2.o (by decide) rfl (gx_aE h2.a3 (nI_sum (a := 69) (b := i) rfl rfl) (by omega) (Nat.le_of_ble_eq_true rfl) (h2.s3 (nI_sum (a := 37) (b := tn (S 11 i)) rfl q1) (by omega) hA (fun z3 f3 h3 => k _ _ ⟨?_, fr.tr (f2.tr f3), _, h3, fun r hr => ?_, fun a ha => ?_, fun a ha hu => ?_, fun j hj2 => ?_⟩))))))))
      · rw [crW_succ, hq]; exact congrArg (fun t => (_, _, t)) (nI_sum (b := 1) rfl rfl)
      · rw [cset_ne hr, cset_ne hr]; exact er r hr
      · rw [crW_succ, hq]
        show (if 21 + a = 37 + tn (S 11 i) then _ else if 21 + a = 21 + tn (S 11 i) then M' 3 (53 + i) else M' 3 (21 + a)) = (if a = tn (S 11 i) then S 8 i else (crW S i).1 6 a)
        rw [if_neg (by omega), ek (53 + i) (by omega), t53]
        by_cases e : a = tn (S 11 i)
        · rw [if_pos e, if_pos (by omega)]
        · rw [if_neg e, if_neg (by omega)]; exact e21 a ha
      · rw [crW_succ, hq] at hu ⊢
        rw [uu_placed] at hu
        show (if 37 + a = 37 + tn (S 11 i) then (if 69 + i = 21 + tn (S 11 i) then _ else M' 3 (69 + i)) else if 37 + a = 21 + tn (S 11 i) then _ else M' 3 (37 + a)) = (if a = tn (S 11 i) then S 9 i else (crW S i).1 7 a)
        by_cases e : a = tn (S 11 i)
        · rw [if_pos e, if_pos (by omega), if_neg (by omega), ek (69 + i) (by omega)]
          exact (ht.2.2.2.1 i hi16 hds).1
        · rw [if_neg e] at hu
          rw [if_neg e, if_neg (by omega), if_neg (by omega)]; exact e37 a ha hu
      · show (if j = 37 + tn (S 11 i) then _ else if j = 21 + tn (S 11 i) then _ else M' 3 j) = _
        rw [if_neg (by omega), if_neg (by omega)]; exact ek j hj2
  · rintro ih p z' ⟨rfl, fr, M', h', er, e21, e37, ek⟩
    show gx (bX10_endRetreats_32 N ih m (crW S n).2 (nI n) G z') _
    unfold bX10_endRetreats_32
    have m0' : M' 1 0 = nI n := by rw [er 1 (by omega)]; exact m0
    refine gx_gR h'.o (by decide) rfl (gx_aE (i := 0) h'.a1 rfl (by omega) (Nat.le_of_ble_eq_true rfl) ?_)
    rw [m0']
    have ec := crW_cut hj h16
    rw [← ec] at e21 e37 ⊢
    obtain ⟨a1, a2, a3, a4⟩ := rI_all hj h16 h4 16 (Nat.le_refl _)
    have k0 : ∀ k, k ≠ 6 → k ≠ 7 → ¬ (8 ≤ k ∧ k ≤ 11) → retS S k = S k := fun k h6 h7 h => by rw [ret_k h]; exact a1 k h6 h7
    obtain ⟨⟨c0, c1, c2, c3, c4⟩, g1, g2, g3, g4⟩ := ht
    refine gx_itet ((nI_leI (by omega) (by omega)).mpr (Nat.le_refl n)) (gx_mono (q_X10_endRetreats_132 (S := retS S) (t := t) h' hA (cpM_keep hc (er 1 (by omega)) rfl) ?_ (ret_J hj h16 h4) (fun a ha => ret_ds ha) (by rw [k0 1 (by omega) (by omega) (by omega)]; exact e1) ht31 hN) (fun v z2 ⟨ev, f2, M2, h2, r2, c2, i2⟩ => ⟨ev, fr.tr f2, M2, h2, fun k hk => (r2 k hk).trans (er k hk), c2, i2⟩))
    have low : ∀ j, j < 53 ∨ 69 ≤ j ∧ j < 85 ∨ 117 ≤ j → clrF (M' 3) j = M' 3 j := fun j hj => if_neg (by omega)
    refine ⟨⟨?_, ?_, ?_, ?_, ?_⟩, fun a ha => ⟨?_, ?_, ?_, ?_, ?_, ?_, ?_⟩, fun a ha hu => ?_, fun a ha hu => ?_, fun a w ha hw => ?_⟩
    · rw [low 0 (by omega), ek 0 (by omega), k0 0 (by omega) (by omega) (by omega)]; exact c0
    · rw [low 1 (by omega), ek 1 (by omega), k0 1 (by omega) (by omega) (by omega)]; exact c1
    · rw [low 2 (by omega), ek 2 (by omega), k0 2 (by omega) (by omega) (by omega)]; exact c2
    · rw [low 3 (by omega), ek 3 (by omega), k0 3 (by omega) (by omega) (by omega)]; exact c3
    · rw [low 4 (by omega), ek 4 (by omega), k0 4 (by omega) (by omega) (by omega)]; exact c4
    · rw [low (5 + a) (by omega), ek (5 + a) (by omega), k0 5 (by omega) (by omega) (by omega)]; exact (g1 a ha).1
    · rw [low (21 + a) (by omega), ret_k (k := 6) (by omega)]; exact e21 a ha
    · show (if _ then _ else _) = _
      rw [if_pos (by omega), (ret_m ha).1]
    · show (if _ then _ else _) = _
      rw [if_pos (by omega), (ret_m ha).2.2.2]
    · rw [low (117 + a) (by omega), ek (117 + a) (by omega), k0 12 (by omega) (by omega) (by omega)]; exact (g1 a ha).2.2.2.2.1
    · rw [low (133 + a) (by omega), ek (133 + a) (by omega), k0 13 (by omega) (by omega) (by omega)]; exact (g1 a ha).2.2.2.2.2.1
    · rw [low (149 + a) (by omega), ek (149 + a) (by omega), k0 14 (by omega) (by omega) (by omega)]; exact (g1 a ha).2.2.2.2.2.2
    · rw [low (37 + a) (by omega), ret_k (k := 7) (by omega)]
      refine e37 a ha ?_
      have : uu (retS S) a = uu (crW S 16).1 a := by unfold uu; rw [ret_k (k := 6) (by omega)]
      rw [← this]; exact hu
    · rw [ret_ds ha] at hu; cases hu
    · rw [low _ (by omega), ek _ (by omega), k0 15 (by omega) (by omega) (by omega)]; exact g4 a w ha hw
end
def endC (W W' : Nat → Nat → Nat → Int32) (E : Nat → Nat → Int32) : Prop := ∃ W1 s v, remC W W1 s v ∧ W 0 9 0 = nI (v + s) ∧ v ≤ 5 ∧ (s = 0 ∨ s = 1 ∧ v = 5) ∧ W' 3 = E ∧ ∀ k, k < 3 ∨ 7 ≤ k → W' k = W1 k
section
variable {G : osG} {z : osS} {N x n np T : Nat} {ad : Nat → Nat} {W : Nat → Nat → Nat → Int32} {D : Nat → Nat → Int64}
/-- what begins with remembering: the class' side done, the reference's from where it has remembered -/
theorem RF_rem {z1 : osS} {ad1 : Nat → Nat} {W' : Nat → Nat → Nat → Int32} {E : Nat → Nat → Int32} {T' : Nat} {R : osM Int32} {v0 : Int32} (hi : IVn W D n np T) (hw1 : WD z1 x ad1 W' D) (he : endC W W' E) (hA' : G.2.2.1 ≤ x + 129) (hN : 5000 < N) (hT : T ≤ T')
    (k : ∀ z3 M3, rX10 z3 (x + 129) M3 D → M3 3 = W 20 3 → M3 1 = W 20 1 → gx (R G z3) (fun b z5 => b = v0 ∧ osFr (x + 129) (x + 129 + 21) z3 z5 ∧ ∃ M5, rX10 z5 (x + 129) M5 D ∧ (∀ k, k < 21 ∨ 41 ≤ k → ¬ k = 3 → M5 k = M3 k) ∧ cpT E (M5 3) ∧ stI (W 1) E n np T')) : gx ((osbind (osrecv [8] (x + 129) (qX10_isRefused N (x + 129) (0 : Int32))) fun x1 => osite (x1 = 0) (osbind (osrecv [8] (x + 129) (qX10_remembers N (x + 129))) fun _ => R) (osret (0 : Int32))) G z1) (RF x T' [(0, (1 : Int32))] (.inr v0) z1) := by
  obtain ⟨W1, s, v, rc, e9, hv, hvs, e3, hk⟩ := he
  have e20 : W' 20 = W 20 := by rw [hk 20 (by omega)]; exact rc.2.2.2.1 20 (by omega) (by omega)
  have hm1 := hw1.m
  rw [e20] at hm1
  refine gx_refF hm1 hA' (fun z2 f2 h2 => ?_)
  obtain ⟨u, h6, u1, u2, hp⟩ := hi.p
  have huv : u = v + s := by
    have q := congrArg Int32.toInt (u1.symm.trans e9)
    rw [nI_toInt (by omega), nI_toInt (by omega)] at q
    omega
  refine gx_recvQ h2.o (by decide) (q_X10_remembers (s := s) (v := v) h2 hA' (by rw [← huv]; exact u2) hv hvs hN) (fun _ z3 ⟨f3, M3, h3, rr⟩ => ?_)
  refine gx_mono (k z3 M3 h3 (rr.2.2.2 3 (by omega) (by omega)) (rr.2.2.2 1 (by omega) (by omega))) (fun b z5 ⟨eb, f5, M5, h5, ek, c5, i5⟩ => ?_)
  have fr := f2.tr (f3.tr f5)
  obtain ⟨g1, g2⟩ := IV_end (W' := W') (M5 := M5) hi rc e9 hv (by omega) hk rr ek (by rw [e3]; exact c5) (by rw [e3]; exact i5) hT
  exact ⟨fr, ad1, _, D, hw1.ref fr h5, ⟨n, np, g1⟩, by rw [Ws_eq]; exact ⟨g2, eb.symm⟩⟩
theorem q_X9_endRetreats (hw : WD z x ad W D) (hi : IVn W D n np T) (ph : W 3 0 0 = 1) {t : Nat} (et : W 3 1 0 = nI t) (ht31 : t < 2 ^ 31) (hA : G.2.2.1 ≤ x) (hN : 5000 < N) : gx (qX9_endRetreats N x G z) (fun r z' => ∃ ad' W', WD z' x ad' W' D ∧ r = .inr ((crW (W 3) 16).2) ∧ endC W W' (if t % 2 = 0 then closed (W 1) (retS (W 3)) np else begun (retS (W 3)))) := by
  have h16 := hi.m.n16
  have h4 := hi.m.p4
  have hb2 := hi.i.j.b2
  obtain ⟨u, h6, u1, _⟩ := hi.p
  unfold qX9_endRetreats
  refine gx_reqPh hw (fun q => absurd ph q) (fun _ => ?_)
  refine gx_recvQ hw.x9.o (by decide) (q_X9_remember hw hA u1 h6 hb2 hN) (fun _ z1 ⟨ad1, W1, s, v, w1, euv, hv, hvs, rc⟩ => ?_)
  have k1 : W1 1 = W 1 := rc.2.2.2.1 1 (by omega) (by omega)
  have k3 : W1 3 = W 3 := rc.2.2.2.1 3 (by omega) (by omega)
  have hb9 := w1.ok.b
  have hs9 := w1.ok.s
  refine gx_gR w1.x9.o (by decide) rfl (gx_gR w1.x9.o (by decide) rfl (gx_recvQ w1.dr.o (by decide) (q_X5_copyFrom w1.dr w1.nw (by omega) (by omega) (by rw [k3]; exact hb2)) (fun _ z3 ⟨f3, U, h3, u1', u2', u3'⟩ => ?_)))
  have w3 := w1.cd f3 h3
  rw [k3] at u1' u2' u3'
  have hsE : sE (W 3) U := ⟨u1', u2', u3'⟩
  have n3 := w3.nw
  have d3 := w3.dr
  rw [Ws_ne (by omega), k3] at n3
  rw [Ws_eq] at d3
  refine gx_gR w3.x9.o (by decide) rfl (gx_gR w3.x9.o (by decide) rfl (gx_recvQ w3.nw.o (by decide) (q_X5_carryOutRetreats n3 d3 (by omega) (by omega) (fun a ha q => ?_) (by omega)) (fun v4 z4 ⟨ev, f4, h4'⟩ => ?_)))
  · have e11 : U 11 a = W 3 11 a := hsE.2.1 11 (by omega) (by omega) a ha
    rw [e11] at q ⊢
    have := hi.i.j.rt a ha q
    exact ⟨this.1, by omega⟩
  rw [crU_eq hsE] at ev h4'
  have w4 := w3.cn f4 h4'
  have n4 := w4.nw
  rw [Ws_eq] at n4
  have b4 := w4.bd
  rw [Ws_ne (by omega), Ws_ne (by omega), k1] at b4
  have hJt := ret_J hi.i.j h16 h4
  refine gx_gR w4.x9.o (by decide) rfl (gx_gR w4.x9.o (by decide) rfl (gx_recvQ w4.nw.o (by decide) (q_X5_closeTurn n4 b4 (by omega) (by omega) hi.m.c1 h4 (nu12 hJt) (by omega) (t := t) ?_ ht31) (fun _ z5 ⟨f5, h5⟩ => gx_Rt (gx_ret ⟨ad1, _, w4.cn f5 h5, by rw [ev], W1, s, v, rc, by rw [u1, euv], hv, hvs, by rw [Ws_eq]; rfl, fun k hk => ?_⟩))))
  · show retS (W 3) 1 0 = _
    rw [ret_k (by omega), (rI_all hi.i.j h16 h4 16 (Nat.le_refl _)).1 1 (by omega) (by omega)]; exact et
  · rw [Ws_ne (by omega), Ws_ne (by omega), Ws_ne (by omega)]
theorem c_endRetreats (hw : WD z x ad W D) (hi : IVn W D n np T) (hA : G.2.2.1 ≤ x) (hN : 5000 < N) (hT : T < 5000) : callT G z x (T + 1) [(0, (1 : Int32))] (qX9_endRetreats N x) (qX10_endRetreats N (x + 129)) := by
  have hA' : G.2.2.1 ≤ x + 129 := by omega
  by_cases ph : W 3 0 0 = 1
  · obtain ⟨t, et, t1, t2⟩ := hi.i.j.t
    refine ⟨fun r _ W1 D1 => r = .inr ((crW (W 3) 16).2) ∧ D1 = D ∧ endC W W1 (if t % 2 = 0 then closed (W 1) (retS (W 3)) np else begun (retS (W 3))), gx_mono (q_X9_endRetreats hw hi ph et (by omega) hA hN) (fun r z1 ⟨ad', W', w1, e1, sc⟩ => ⟨ad', W', D, w1, e1, rfl, sc⟩), ?_⟩
    rintro r z1 ad1 W' D1 hw1 ⟨rfl, rfl, he⟩
    unfold qX10_endRetreats qX10_endRetreats_16
    obtain ⟨W1, s, v, rc, _, _, _, _, hk⟩ := id he
    have hm1 := hw1.m
    rw [hk 20 (by omega), rc.2.2.2.1 20 (by omega) (by omega)] at hm1
    refine gx_gR hm1.o (by decide) rfl (gx_aE (i := 0) hm1.a3 rfl (by omega) (Nat.le_of_ble_eq_true rfl) ?_)
    rw [hi.s.1.1, ph]
    refine gx_itet rfl (RF_rem hi hw1 he hA' hN (Nat.le_succ T) (fun z3 M3 h3 k3 k1 => ?_))
    exact gx_mono (q_X10_endRetreats_32 (t := t) h3 hA' (cpM_keep hi.m k1 rfl) (by rw [k3]; exact hi.s) hi.i.j et (by omega) hN) (fun b z5 ⟨eb, f5, M5, h5, r5, c5, i5⟩ => ⟨eb, f5, M5, h5, fun k _ hk3 => r5 k hk3, c5, i5⟩)
  · refine call_of hw (pair_of (IV_T hi (Nat.le_succ T)) (.inl 0) ?_ (fun z1 ad1 hw1 => ?_))
    · unfold qX9_endRetreats
      exact gx_reqPh hw (fun _ => ⟨rfl, rfl⟩) (fun q => absurd q ph)
    · unfold qX10_endRetreats qX10_endRetreats_16
      refine gx_gR hw1.m.o (by decide) rfl (gx_aE (i := 0) hw1.m.a3 rfl (by omega) (Nat.le_of_ble_eq_true rfl) ?_)
      rw [hi.s.1.1]
      exact gx_itef ph (gx_refT hw1.m hA' (by decide) (fun z2 f2 h2 => gx_ret ⟨f2, _, h2, k0_ok, agrT (j := 0) (q := (0, 1)) rfl rfl (by decide)⟩))
end
