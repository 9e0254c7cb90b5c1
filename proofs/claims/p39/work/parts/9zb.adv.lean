/-! the class' reader goes on by a token (by program) -/
def tkC (b : Nat → Nat) (L i : Nat) (C : Nat → Nat → Int32) (E : Nat → Nat → Int64) : Prop := C 1 0 = nI L ∧ C 2 0 = nI (tK b L i) ∧ C 3 0 = nI (tX b L i) ∧ C 4 0 = nI (tN b L i) ∧ C 6 0 = nI (tS b L i) ∧ E 5 0 = lN (pkn b (tS b L i) (min (tN b L i) 8))
def k789 (C C' : Nat → Nat → Int32) : Prop := C' 7 = C 7 ∧ C' 8 = C 8 ∧ C' 9 = C 9
theorem k789_rf {C : Nat → Nat → Int32} : k789 C C := ⟨rfl, rfl, rfl⟩
theorem k789_tr {C C1 C2 : Nat → Nat → Int32} (h : k789 C C1) (h2 : k789 C1 C2) : k789 C C2 := ⟨h2.1.trans h.1, h2.2.1.trans h.2.1, h2.2.2.trans h.2.2⟩
section
variable {G : osG} {z : osS} {N t tb L i : Nat} {b : Nat → Nat} {C : Nat → Nat → Int32} {E : Nat → Nat → Int64} {g : Nat → Int32}
theorem adv134_X7 (h : rX7 z t tb C E) (ht : z.1 tb = some (.inl (1, (1000, .inl g)))) (hg : ∀ k, k < 1000 → b k < 256 ∧ g k = (nI (b k)).toInt8.toInt32) (hL : L ≤ 1000) (hi : i ≤ L) (hd : ¬ tb = t) (hA : G.2.2.1 ≤ t) {e : Nat} (he : e = tW b L i) (h1 : C 1 0 = nI L) (h4 : C 4 0 = nI (tN b L i)) (h6 : C 6 0 = nI (tS b L i)) (h5 : E 5 0 = lN (pkn b (tS b L i) (min (tN b L i) 8))) : gx (qX6_advance_134 N t (nI e) G z) (fun _ z' => osFr t (t + 1) z z' ∧ ∃ C' E', rX7 z' t tb C' E' ∧ tkC b L i C' E' ∧ k789 C C') := by
  obtain ⟨s1, s2⟩ := tS_le (b := b) hi
  obtain ⟨w1, w2⟩ := tW_le (b := b) hi
  unfold qX6_advance_134
  refine h.p3 (by decide) hA (fun z1 f1 r1 => gx_gI r1.o (by decide) rfl ?_)
  rw [show (cset C 3 fun _ => nI e) 4 0 = nI (tN b L i) from h4]
  by_cases q : 0 < tN b L i
  · refine gx_itef (fun c => by have := (nI_leI (a := tN b L i) (b := 0) (by unfold tN; omega) (by omega)).mp c; omega) (r1.p2 (by decide) hA (fun z2 f2 r2 => ?_))
    unfold qX6_advance_197
    refine gx_ret ⟨f1.tr f2, _, _, r2, ⟨h1, ?_, ?_, h4, h6, h5⟩, rfl, rfl, rfl⟩
    · show (1 : Int32) = nI (tK b L i)
      unfold tK; rw [if_pos q]; rfl
    · show nI e = nI (tX b L i)
      unfold tX; rw [if_pos q, he]
  · have q0 : tN b L i = 0 := by omega
    have es : e = tS b L i := by unfold tN at q0; omega
    refine gx_itet (by rw [q0]; decide) (gx_gI r1.o (by decide) rfl ?_)
    rw [show (cset C 3 fun _ => nI e) 1 0 = nI L from h1]
    by_cases q2 : L ≤ tS b L i
    · refine gx_itef (fun c => by have := (nI_ltI (a := e) (b := L) (by omega) (by omega)).mp c; omega) (r1.p2 (by decide) hA (fun z2 f2 r2 => ?_))
      unfold qX6_advance_197
      refine gx_ret ⟨f1.tr f2, _, _, r2, ⟨h1, ?_, ?_, h4, h6, h5⟩, rfl, rfl, rfl⟩
      · show (0 : Int32) = nI (tK b L i)
        unfold tK; rw [if_neg q, if_pos q2]; rfl
      · show nI e = nI (tX b L i)
        unfold tX; rw [if_neg q, if_pos q2, es]
    · have ht1 := f1.at (a := tb) (by omega) ht
      obtain ⟨b1, b2⟩ := hg e (by omega)
      obtain ⟨_, _, o3, _⟩ := oct_c (b e) b1
      refine gx_itet ((nI_ltI (a := e) (b := L) (by omega) (by omega)).mpr (by omega)) (gx_gR r1.o (by decide) rfl (gx_aE (i := e) ht1 rfl (by omega) (Nat.le_of_ble_eq_true rfl) ?_))
      rw [b2]
      have fin : ∀ v : Nat, v = tK b L i → gx (qX6_advance_187 N t (nI e) (nI v) t G z1) (fun _ z' => osFr t (t + 1) z z' ∧ ∃ C' E', rX7 z' t tb C' E' ∧ tkC b L i C' E' ∧ k789 C C') := fun v ev => by
        unfold qX6_advance_187 qX6_advance_197
        refine r1.p2 (by decide) hA (fun z2 f2 r2 => r2.p3 (by decide) hA (fun z3 f3 r3 => gx_ret ⟨f1.tr (f2.tr f3), _, _, r3, ⟨h1, ?_, ?_, h4, h6, h5⟩, rfl, rfl, rfl⟩))
        · show nI v = _
          rw [ev]
        · show nI e + (1 : Int32) = nI (tX b L i)
          unfold tX; rw [if_neg q, if_neg q2, ← es]
          exact nI_sum (b := 1) rfl rfl
      refine gx_ite (fun c => fin 2 ?_) (fun c => fin 3 ?_)
      · unfold tK; rw [if_neg q, if_neg q2, ← es, if_pos (o3.mp c)]
      · unfold tK; rw [if_neg q, if_neg q2, ← es, if_neg (fun q => c (o3.mpr q))]
theorem adv41_X7 (h : rX7 z t tb C E) (ht : z.1 tb = some (.inl (1, (1000, .inl g)))) (hg : ∀ k, k < 1000 → b k < 256 ∧ g k = (nI (b k)).toInt8.toInt32) (hL : L ≤ 1000) (hi : i ≤ L) (hd : ¬ tb = t) (hA : G.2.2.1 ≤ t) (hN : 5000 < N) {s : Nat} (hs : s = tS b L i) (h1 : C 1 0 = nI L) : gx (qX6_advance_41 N t (nI s) G z) (fun _ z' => osFr t (t + 1) z z' ∧ ∃ C' E', rX7 z' t tb C' E' ∧ tkC b L i C' E' ∧ k789 C C') := by
  obtain ⟨s1, s2⟩ := tS_le (b := b) hi
  obtain ⟨w1, w2⟩ := tW_le (b := b) hi
  unfold qX6_advance_41
  refine h.p6 (by decide) hA (fun z1 f1 r1 => r1.p4 (by decide) hA (fun z2 f2 r2 => r2.p5 (by decide) hA (fun z3 f3 r3 => ?_)))
  unfold qX6_advance_56
  refine gx_loop (L - s) (fun j p z' => p = (t, nI (s + j)) ∧ s + j ≤ L ∧ sc (fun k => isLt (b k)) L (s + j) = tW b L i ∧ osFr t (t + 1) z z' ∧ ∃ C' E', rX7 z' t tb C' E' ∧ C' 1 0 = nI L ∧ C' 4 0 = nI j ∧ C' 6 0 = nI s ∧ E' 5 0 = lN (pkn b s (min j 8)) ∧ k789 C C') ?_ ?_ N 0 _ z3 (Nat.zero_le _) (by omega) ⟨rfl, by omega, by rw [hs]; rfl, f1.tr (f2.tr f3), _, _, r3, h1, rfl, rfl, rfl, rfl, rfl, rfl⟩
  · rintro ih j p z' hj ⟨rfl, hl, ew, fr, C', E', r', e1, e4, e6, e5, e7⟩ k
    show gx (bX6_advance_56 N ih t (nI (s + j)) G z') _
    unfold bX6_advance_56
    obtain ⟨b1, b2⟩ := hg (s + j) (by omega)
    obtain ⟨_, _, _, o4, o5⟩ := oct_c (b (s + j)) b1
    have ht1 := fr.at (a := tb) (by omega) ht
    have out : isLt (b (s + j)) = false → gx (qX6_advance_134 N t (nI (s + j)) G z') (fun _ z' => osFr t (t + 1) z z' ∧ ∃ C' E', rX7 z' t tb C' E' ∧ tkC b L i C' E' ∧ k789 C C') := fun q => by
      have ee : s + j = tW b L i := by rw [← ew]; exact (sc_no (p := fun k => isLt (b k)) (fun _ => q)).symm
      have en : tN b L i = j := by unfold tN; omega
      refine gx_mono (adv134_X7 r' ht1 hg hL hi hd hA ee e1 (by rw [en]; exact e4) (by rw [← hs]; exact e6) (by rw [en, ← hs]; exact e5)) (fun _ z9 ⟨f9, C9, E9, r9, t9, k9⟩ => ⟨fr.tr f9, C9, E9, r9, t9, k789_tr e7 k9⟩)
    refine gx_gI r'.o (by decide) rfl ?_
    rw [e1]
    refine gx_itef (nI_nleE (a := L) (b := s + j) rfl rfl (by omega) (by omega)) (gx_gR r'.o (by decide) rfl (gx_aE (i := s + j) ht1 rfl (by omega) (Nat.le_of_ble_eq_true rfl) ?_))
    rw [b2]
    cases hlt : isLt (b (s + j))
    · refine gx_ite (fun _ => out hlt) (fun c => gx_gR r'.o (by decide) rfl (gx_aE (i := s + j) ht1 rfl (by omega) (Nat.le_of_ble_eq_true rfl) ?_))
      rw [b2]
      refine gx_itet ?_ (out hlt)
      rcases o5 hlt with q | q
      · exact absurd q c
      · exact q
    · obtain ⟨c1, c2, c3⟩ := o4 hlt
      refine gx_itef c1 (gx_gR r'.o (by decide) rfl (gx_aE (i := s + j) ht1 rfl (by omega) (Nat.le_of_ble_eq_true rfl) ?_))
      rw [b2]
      refine gx_itef c2 (gx_gI r'.o (by decide) rfl ?_)
      rw [e4]
      have hl9 := hlt
      unfold isLt at hl9
      simp only [Bool.and_eq_true, decide_eq_true_eq] at hl9
      by_cases q8 : 8 ≤ j
      · refine gx_itet ((nI_leI (a := 8) (b := j) (by omega) (by omega)).mpr q8) ?_
        unfold qX6_advance_118
        refine gx_gI r'.o (by decide) rfl (r'.p4 (by decide) hA (fun z4 f4 r4 => k _ _ ⟨?_, by omega, ?_, fr.tr f4, _, _, r4, e1, ?_, e6, ?_, e7⟩))
        · exact congrArg (fun x => (_, x)) (nI_sum (b := 1) rfl rfl)
        · rw [← ew]; exact (sc_go (p := fun k => isLt (b k)) (by omega) hlt).symm
        · show C' 4 0 + (1 : Int32) = _
          rw [e4]; exact nI_sum (b := 1) rfl rfl
        · rw [e5, Nat.min_eq_right q8, Nat.min_eq_right (show 8 ≤ j + 1 by omega)]
      · refine gx_itef (fun c => q8 ((nI_leI (a := 8) (b := j) (by omega) (by omega)).mp c)) (gx_gJ r'.o (by decide) rfl (gx_gR r'.o (by decide) rfl (gx_aE (i := s + j) ht1 rfl (by omega) (Nat.le_of_ble_eq_true rfl) ?_)))
        rw [b2]
        refine r'.p5 (by decide) hA (fun z4 f4 r4 => ?_)
        unfold qX6_advance_118
        refine gx_gI r4.o (by decide) rfl (r4.p4 (by decide) hA (fun z5 f5 r5 => k _ _ ⟨?_, by omega, ?_, fr.tr (f4.tr f5), _, _, r5, e1, ?_, e6, ?_, e7⟩))
        · exact congrArg (fun x => (_, x)) (nI_sum (b := 1) rfl rfl)
        · rw [← ew]; exact (sc_go (p := fun k => isLt (b k)) (by omega) hlt).symm
        · show C' 4 0 + (1 : Int32) = _
          rw [e4]; exact nI_sum (b := 1) rfl rfl
        · show oslshl (E' 5 0) (5 : Int32) + ((nI (b (s + j))).toInt8.toInt32 - (97 : Int32) + (1 : Int32)).toInt64 = _
          have hp : pkn b s j < 2 ^ 40 := by
            refine Nat.lt_of_lt_of_le (pkn_lt (b := b) (s := s) (k := j) (fun q hq => ?_)).1 (Nat.pow_le_pow_right (by omega) (by omega))
            have := (sc_all (p := fun k => isLt (b k)) (L := L) rfl (show tS b L i ≤ L by omega)).2.2.2 (s + q) (by omega)
            refine this ?_
            show s + q < tW b L i
            rw [← ew]
            have := (sc_all (p := fun k => isLt (b k)) (L := L) rfl hl).1
            omega
          rw [e5, c3, Nat.min_eq_left (show j ≤ 8 by omega), Nat.min_eq_left (show j + 1 ≤ 8 by omega), lshl5 hp, show nI (b (s + j)) - (97 : Int32) = nI (b (s + j) - 97) from nI_sub (a := b (s + j)) (b := 97) (by omega), show nI (b (s + j) - 97) + (1 : Int32) = nI (b (s + j) - 97 + 1) from nI_sum (b := 1) rfl rfl, nI_l (by omega), lN_add]
          show _ = lN (32 * pkn b s j + (b (s + j) - 96))
          congr 1; omega
  · rintro ih p z' ⟨rfl, hl, ew, fr, C', E', r', e1, e4, e6, e5, e7⟩
    show gx (bX6_advance_56 N ih t (nI (s + (L - s))) G z') _
    unfold bX6_advance_56
    have ht1 := fr.at (a := tb) (by omega) ht
    refine gx_gI r'.o (by decide) rfl ?_
    rw [e1]
    have ee : s + (L - s) = tW b L i := by rw [← ew]; exact (sc_no (fun q => by omega)).symm
    have en : tN b L i = L - s := by unfold tN; omega
    refine gx_itet ((nI_leI (by omega) (by omega)).mpr (by omega)) ?_
    exact gx_mono (adv134_X7 r' ht1 hg hL hi hd hA ee e1 (by rw [en]; exact e4) (by rw [← hs]; exact e6) (by rw [en, ← hs]; exact e5)) (fun _ z9 ⟨f9, C9, E9, r9, t9, k9⟩ => ⟨fr.tr f9, C9, E9, r9, t9, k789_tr e7 k9⟩)
theorem adv_X7 (h : rX7 z t tb C E) (ht : z.1 tb = some (.inl (1, (1000, .inl g)))) (hg : ∀ k, k < 1000 → b k < 256 ∧ g k = (nI (b k)).toInt8.toInt32) (hL : L ≤ 1000) (hi : i ≤ L) (hd : ¬ tb = t) (hA : G.2.2.1 ≤ t) (hN : 5000 < N) (h3 : C 3 0 = nI i) (h1 : C 1 0 = nI L) : gx (qX6_advance N t G z) (fun _ z' => osFr t (t + 1) z z' ∧ ∃ C' E', rX7 z' t tb C' E' ∧ tkC b L i C' E' ∧ k789 C C') := by
  unfold qX6_advance
  refine gx_gI h.o (by decide) rfl ?_
  rw [h3]
  unfold qX6_advance_5
  refine gx_loop (L - i) (fun j p z' => p = (t, nI (i + j)) ∧ i + j ≤ L ∧ sc (fun k => isSp (b k)) L (i + j) = tS b L i ∧ z' = z) ?_ ?_ N 0 _ z (Nat.zero_le _) (by omega) ⟨rfl, by omega, rfl, rfl⟩
  · rintro ih j p z' hj ⟨rfl, hl, es, rfl⟩ k
    show gx (bX6_advance_5 N ih t (nI (i + j)) G z') _
    unfold bX6_advance_5
    obtain ⟨b1, b2⟩ := hg (i + j) (by omega)
    obtain ⟨o1, o2, _⟩ := oct_c (b (i + j)) b1
    have go : isSp (b (i + j)) = true → gx (qX6_advance_35 N ih t (nI (i + j)) G z') (fun _ z'' => osFr t (t + 1) z' z'' ∧ ∃ C' E', rX7 z'' t tb C' E' ∧ tkC b L i C' E' ∧ k789 C C') := fun q => by
      unfold qX6_advance_35
      refine k _ _ ⟨congrArg (fun x => (_, x)) (nI_sum (b := 1) rfl rfl), by omega, ?_, rfl⟩
      rw [← es]; exact (sc_go (p := fun k => isSp (b k)) (by omega) q).symm
    refine gx_gI h.o (by decide) rfl ?_
    rw [h1]
    refine gx_itef (nI_nleE (a := L) (b := i + j) rfl rfl (by omega) (by omega)) (gx_gR h.o (by decide) rfl (gx_aE (i := i + j) ht rfl (by omega) (Nat.le_of_ble_eq_true rfl) ?_))
    rw [b2]
    refine gx_ite (fun c => go (by unfold isSp; rw [decide_eq_true (o1.mp c)]; rfl)) (fun c => gx_gR h.o (by decide) rfl (gx_aE (i := i + j) ht rfl (by omega) (Nat.le_of_ble_eq_true rfl) ?_))
    rw [b2]
    refine gx_ite (fun c2 => go (by unfold isSp; rw [decide_eq_true (o2.mp c2), Bool.or_true])) (fun c2 => adv41_X7 h ht hg hL hi hd hA hN ?_ h1)
    rw [← es]
    refine (sc_no (fun _ => ?_)).symm
    show isSp (b (i + j)) = false
    unfold isSp
    rw [decide_eq_false (fun q => c (o1.mpr q)), decide_eq_false (fun q => c2 (o2.mpr q))]; rfl
  · rintro ih p z' ⟨rfl, hl, es, rfl⟩
    show gx (bX6_advance_5 N ih t (nI (i + (L - i))) G z') _
    unfold bX6_advance_5
    refine gx_gI h.o (by decide) rfl ?_
    rw [h1]
    refine gx_itet ((nI_leI (by omega) (by omega)).mpr (by omega)) (adv41_X7 h ht hg hL hi hd hA hN ?_ h1)
    rw [← es]
    exact (sc_no (fun q => by omega)).symm
end
section
variable {G : osG} {z : osS} {N t tb L i : Nat} {b : Nat → Nat} {C : Nat → Nat → Int32} {E : Nat → Nat → Int64} {g : Nat → Int32}
theorem adv134_X3 (h : rX3 z t tb C E) (ht : z.1 tb = some (.inl (1, (1000, .inl g)))) (hg : ∀ k, k < 1000 → b k < 256 ∧ g k = (nI (b k)).toInt8.toInt32) (hL : L ≤ 1000) (hi : i ≤ L) (hd : ¬ tb = t) (hA : G.2.2.1 ≤ t) {e : Nat} (he : e = tW b L i) (h1 : C 1 0 = nI L) (h4 : C 4 0 = nI (tN b L i)) (h6 : C 6 0 = nI (tS b L i)) (h5 : E 5 0 = lN (pkn b (tS b L i) (min (tN b L i) 8))) : gx (qX6_advance_134 N t (nI e) G z) (fun _ z' => osFr t (t + 1) z z' ∧ ∃ C' E', rX3 z' t tb C' E' ∧ tkC b L i C' E' ∧ k789 C C') := by
  obtain ⟨s1, s2⟩ := tS_le (b := b) hi
  obtain ⟨w1, w2⟩ := tW_le (b := b) hi
  unfold qX6_advance_134
  refine h.p3 (by decide) hA (fun z1 f1 r1 => gx_gI r1.o (by decide) rfl ?_)
  rw [show (cset C 3 fun _ => nI e) 4 0 = nI (tN b L i) from h4]
  by_cases q : 0 < tN b L i
  · refine gx_itef (fun c => by have := (nI_leI (a := tN b L i) (b := 0) (by unfold tN; omega) (by omega)).mp c; omega) (r1.p2 (by decide) hA (fun z2 f2 r2 => ?_))
    unfold qX6_advance_197
    refine gx_ret ⟨f1.tr f2, _, _, r2, ⟨h1, ?_, ?_, h4, h6, h5⟩, rfl, rfl, rfl⟩
    · show (1 : Int32) = nI (tK b L i)
      unfold tK; rw [if_pos q]; rfl
    · show nI e = nI (tX b L i)
      unfold tX; rw [if_pos q, he]
  · have q0 : tN b L i = 0 := by omega
    have es : e = tS b L i := by unfold tN at q0; omega
    refine gx_itet (by rw [q0]; decide) (gx_gI r1.o (by decide) rfl ?_)
    rw [show (cset C 3 fun _ => nI e) 1 0 = nI L from h1]
    by_cases q2 : L ≤ tS b L i
    · refine gx_itef (fun c => by have := (nI_ltI (a := e) (b := L) (by omega) (by omega)).mp c; omega) (r1.p2 (by decide) hA (fun z2 f2 r2 => ?_))
      unfold qX6_advance_197
      refine gx_ret ⟨f1.tr f2, _, _, r2, ⟨h1, ?_, ?_, h4, h6, h5⟩, rfl, rfl, rfl⟩
      · show (0 : Int32) = nI (tK b L i)
        unfold tK; rw [if_neg q, if_pos q2]; rfl
      · show nI e = nI (tX b L i)
        unfold tX; rw [if_neg q, if_pos q2, es]
    · have ht1 := f1.at (a := tb) (by omega) ht
      obtain ⟨b1, b2⟩ := hg e (by omega)
      obtain ⟨_, _, o3, _⟩ := oct_c (b e) b1
      refine gx_itet ((nI_ltI (a := e) (b := L) (by omega) (by omega)).mpr (by omega)) (gx_gR r1.o (by decide) rfl (gx_aE (i := e) ht1 rfl (by omega) (Nat.le_of_ble_eq_true rfl) ?_))
      rw [b2]
      have fin : ∀ v : Nat, v = tK b L i → gx (qX6_advance_187 N t (nI e) (nI v) t G z1) (fun _ z' => osFr t (t + 1) z z' ∧ ∃ C' E', rX3 z' t tb C' E' ∧ tkC b L i C' E' ∧ k789 C C') := fun v ev => by
        unfold qX6_advance_187 qX6_advance_197
        refine r1.p2 (by decide) hA (fun z2 f2 r2 => r2.p3 (by decide) hA (fun z3 f3 r3 => gx_ret ⟨f1.tr (f2.tr f3), _, _, r3, ⟨h1, ?_, ?_, h4, h6, h5⟩, rfl, rfl, rfl⟩))
        · show nI v = _
          rw [ev]
        · show nI e + (1 : Int32) = nI (tX b L i)
          unfold tX; rw [if_neg q, if_neg q2, ← es]
          exact nI_sum (b := 1) rfl rfl
      refine gx_ite (fun c => fin 2 ?_) (fun c => fin 3 ?_)
      · unfold tK; rw [if_neg q, if_neg q2, ← es, if_pos (o3.mp c)]
      · unfold tK; rw [if_neg q, if_neg q2, ← es, if_neg (fun q => c (o3.mpr q))]
theorem adv41_X3 (h : rX3 z t tb C E) (ht : z.1 tb = some (.inl (1, (1000, .inl g)))) (hg : ∀ k, k < 1000 → b k < 256 ∧ g k = (nI (b k)).toInt8.toInt32) (hL : L ≤ 1000) (hi : i ≤ L) (hd : ¬ tb = t) (hA : G.2.2.1 ≤ t) (hN : 5000 < N) {s : Nat} (hs : s = tS b L i) (h1 : C 1 0 = nI L) : gx (qX6_advance_41 N t (nI s) G z) (fun _ z' => osFr t (t + 1) z z' ∧ ∃ C' E', rX3 z' t tb C' E' ∧ tkC b L i C' E' ∧ k789 C C') := by
  obtain ⟨s1, s2⟩ := tS_le (b := b) hi
  obtain ⟨w1, w2⟩ := tW_le (b := b) hi
  unfold qX6_advance_41
  refine h.p6 (by decide) hA (fun z1 f1 r1 => r1.p4 (by decide) hA (fun z2 f2 r2 => r2.p5 (by decide) hA (fun z3 f3 r3 => ?_)))
  unfold qX6_advance_56
  refine gx_loop (L - s) (fun j p z' => p = (t, nI (s + j)) ∧ s + j ≤ L ∧ sc (fun k => isLt (b k)) L (s + j) = tW b L i ∧ osFr t (t + 1) z z' ∧ ∃ C' E', rX3 z' t tb C' E' ∧ C' 1 0 = nI L ∧ C' 4 0 = nI j ∧ C' 6 0 = nI s ∧ E' 5 0 = lN (pkn b s (min j 8)) ∧ k789 C C') ?_ ?_ N 0 _ z3 (Nat.zero_le _) (by omega) ⟨rfl, by omega, by rw [hs]; rfl, f1.tr (f2.tr f3), _, _, r3, h1, rfl, rfl, rfl, rfl, rfl, rfl⟩
  · rintro ih j p z' hj ⟨rfl, hl, ew, fr, C', E', r', e1, e4, e6, e5, e7⟩ k
    show gx (bX6_advance_56 N ih t (nI (s + j)) G z') _
    unfold bX6_advance_56
    obtain ⟨b1, b2⟩ := hg (s + j) (by omega)
    obtain ⟨_, _, _, o4, o5⟩ := oct_c (b (s + j)) b1
    have ht1 := fr.at (a := tb) (by omega) ht
    have out : isLt (b (s + j)) = false → gx (qX6_advance_134 N t (nI (s + j)) G z') (fun _ z' => osFr t (t + 1) z z' ∧ ∃ C' E', rX3 z' t tb C' E' ∧ tkC b L i C' E' ∧ k789 C C') := fun q => by
      have ee : s + j = tW b L i := by rw [← ew]; exact (sc_no (p := fun k => isLt (b k)) (fun _ => q)).symm
      have en : tN b L i = j := by unfold tN; omega
      refine gx_mono (adv134_X3 r' ht1 hg hL hi hd hA ee e1 (by rw [en]; exact e4) (by rw [← hs]; exact e6) (by rw [en, ← hs]; exact e5)) (fun _ z9 ⟨f9, C9, E9, r9, t9, k9⟩ => ⟨fr.tr f9, C9, E9, r9, t9, k789_tr e7 k9⟩)
    refine gx_gI r'.o (by decide) rfl ?_
    rw [e1]
    refine gx_itef (nI_nleE (a := L) (b := s + j) rfl rfl (by omega) (by omega)) (gx_gR r'.o (by decide) rfl (gx_aE (i := s + j) ht1 rfl (by omega) (Nat.le_of_ble_eq_true rfl) ?_))
    rw [b2]
    cases hlt : isLt (b (s + j))
    · refine gx_ite (fun _ => out hlt) (fun c => gx_gR r'.o (by decide) rfl (gx_aE (i := s + j) ht1 rfl (by omega) (Nat.le_of_ble_eq_true rfl) ?_))
      rw [b2]
      refine gx_itet ?_ (out hlt)
      rcases o5 hlt with q | q
      · exact absurd q c
      · exact q
    · obtain ⟨c1, c2, c3⟩ := o4 hlt
      refine gx_itef c1 (gx_gR r'.o (by decide) rfl (gx_aE (i := s + j) ht1 rfl (by omega) (Nat.le_of_ble_eq_true rfl) ?_))
      rw [b2]
      refine gx_itef c2 (gx_gI r'.o (by decide) rfl ?_)
      rw [e4]
      have hl9 := hlt
      unfold isLt at hl9
      simp only [Bool.and_eq_true, decide_eq_true_eq] at hl9
      by_cases q8 : 8 ≤ j
      · refine gx_itet ((nI_leI (a := 8) (b := j) (by omega) (by omega)).mpr q8) ?_
        unfold qX6_advance_118
        refine gx_gI r'.o (by decide) rfl (r'.p4 (by decide) hA (fun z4 f4 r4 => k _ _ ⟨?_, by omega, ?_, fr.tr f4, _, _, r4, e1, ?_, e6, ?_, e7⟩))
        · exact congrArg (fun x => (_, x)) (nI_sum (b := 1) rfl rfl)
        · rw [← ew]; exact (sc_go (p := fun k => isLt (b k)) (by omega) hlt).symm
        · show C' 4 0 + (1 : Int32) = _
          rw [e4]; exact nI_sum (b := 1) rfl rfl
        · rw [e5, Nat.min_eq_right q8, Nat.min_eq_right (show 8 ≤ j + 1 by omega)]
      · refine gx_itef (fun c => q8 ((nI_leI (a := 8) (b := j) (by omega) (by omega)).mp c)) (gx_gJ r'.o (by decide) rfl (gx_gR r'.o (by decide) rfl (gx_aE (i := s + j) ht1 rfl (by omega) (Nat.le_of_ble_eq_true rfl) ?_)))
        rw [b2]
        refine r'.p5 (by decide) hA (fun z4 f4 r4 => ?_)
        unfold qX6_advance_118
        refine gx_gI r4.o (by decide) rfl (r4.p4 (by decide) hA (fun z5 f5 r5 => k _ _ ⟨?_, by omega, ?_, fr.tr (f4.tr f5), _, _, r5, e1, ?_, e6, ?_, e7⟩))
        · exact congrArg (fun x => (_, x)) (nI_sum (b := 1) rfl rfl)
        · rw [← ew]; exact (sc_go (p := fun k => isLt (b k)) (by omega) hlt).symm
        · show C' 4 0 + (1 : Int32) = _
          rw [e4]; exact nI_sum (b := 1) rfl rfl
        · show oslshl (E' 5 0) (5 : Int32) + ((nI (b (s + j))).toInt8.toInt32 - (97 : Int32) + (1 : Int32)).toInt64 = _
          have hp : pkn b s j < 2 ^ 40 := by
            refine Nat.lt_of_lt_of_le (pkn_lt (b := b) (s := s) (k := j) (fun q hq => ?_)).1 (Nat.pow_le_pow_right (by omega) (by omega))
            have := (sc_all (p := fun k => isLt (b k)) (L := L) rfl (show tS b L i ≤ L by omega)).2.2.2 (s + q) (by omega)
            refine this ?_
            show s + q < tW b L i
            rw [← ew]
            have := (sc_all (p := fun k => isLt (b k)) (L := L) rfl hl).1
            omega
          rw [e5, c3, Nat.min_eq_left (show j ≤ 8 by omega), Nat.min_eq_left (show j + 1 ≤ 8 by omega), lshl5 hp, show nI (b (s + j)) - (97 : Int32) = nI (b (s + j) - 97) from nI_sub (a := b (s + j)) (b := 97) (by omega), show nI (b (s + j) - 97) + (1 : Int32) = nI (b (s + j) - 97 + 1) from nI_sum (b := 1) rfl rfl, nI_l (by omega), lN_add]
          show _ = lN (32 * pkn b s j + (b (s + j) - 96))
          congr 1; omega
  · rintro ih p z' ⟨rfl, hl, ew, fr, C', E', r', e1, e4, e6, e5, e7⟩
    show gx (bX6_advance_56 N ih t (nI (s + (L - s))) G z') _
    unfold bX6_advance_56
    have ht1 := fr.at (a := tb) (by omega) ht
    refine gx_gI r'.o (by decide) rfl ?_
    rw [e1]
    have ee : s + (L - s) = tW b L i := by rw [← ew]; exact (sc_no (fun q => by omega)).symm
    have en : tN b L i = L - s := by unfold tN; omega
    refine gx_itet ((nI_leI (by omega) (by omega)).mpr (by omega)) ?_
    exact gx_mono (adv134_X3 r' ht1 hg hL hi hd hA ee e1 (by rw [en]; exact e4) (by rw [← hs]; exact e6) (by rw [en, ← hs]; exact e5)) (fun _ z9 ⟨f9, C9, E9, r9, t9, k9⟩ => ⟨fr.tr f9, C9, E9, r9, t9, k789_tr e7 k9⟩)
theorem adv_X3 (h : rX3 z t tb C E) (ht : z.1 tb = some (.inl (1, (1000, .inl g)))) (hg : ∀ k, k < 1000 → b k < 256 ∧ g k = (nI (b k)).toInt8.toInt32) (hL : L ≤ 1000) (hi : i ≤ L) (hd : ¬ tb = t) (hA : G.2.2.1 ≤ t) (hN : 5000 < N) (h3 : C 3 0 = nI i) (h1 : C 1 0 = nI L) : gx (qX6_advance N t G z) (fun _ z' => osFr t (t + 1) z z' ∧ ∃ C' E', rX3 z' t tb C' E' ∧ tkC b L i C' E' ∧ k789 C C') := by
  unfold qX6_advance
  refine gx_gI h.o (by decide) rfl ?_
  rw [h3]
  unfold qX6_advance_5
  refine gx_loop (L - i) (fun j p z' => p = (t, nI (i + j)) ∧ i + j ≤ L ∧ sc (fun k => isSp (b k)) L (i + j) = tS b L i ∧ z' = z) ?_ ?_ N 0 _ z (Nat.zero_le _) (by omega) ⟨rfl, by omega, rfl, rfl⟩
  · rintro ih j p z' hj ⟨rfl, hl, es, rfl⟩ k
    show gx (bX6_advance_5 N ih t (nI (i + j)) G z') _
    unfold bX6_advance_5
    obtain ⟨b1, b2⟩ := hg (i + j) (by omega)
    obtain ⟨o1, o2, _⟩ := oct_c (b (i + j)) b1
    have go : isSp (b (i + j)) = true → gx (qX6_advance_35 N ih t (nI (i + j)) G z') (fun _ z'' => osFr t (t + 1) z' z'' ∧ ∃ C' E', rX3 z'' t tb C' E' ∧ tkC b L i C' E' ∧ k789 C C') := fun q => by
      unfold qX6_advance_35
      refine k _ _ ⟨congrArg (fun x => (_, x)) (nI_sum (b := 1) rfl rfl), by omega, ?_, rfl⟩
      rw [← es]; exact (sc_go (p := fun k => isSp (b k)) (by omega) q).symm
    refine gx_gI h.o (by decide) rfl ?_
    rw [h1]
    refine gx_itef (nI_nleE (a := L) (b := i + j) rfl rfl (by omega) (by omega)) (gx_gR h.o (by decide) rfl (gx_aE (i := i + j) ht rfl (by omega) (Nat.le_of_ble_eq_true rfl) ?_))
    rw [b2]
    refine gx_ite (fun c => go (by unfold isSp; rw [decide_eq_true (o1.mp c)]; rfl)) (fun c => gx_gR h.o (by decide) rfl (gx_aE (i := i + j) ht rfl (by omega) (Nat.le_of_ble_eq_true rfl) ?_))
    rw [b2]
    refine gx_ite (fun c2 => go (by unfold isSp; rw [decide_eq_true (o2.mp c2), Bool.or_true])) (fun c2 => adv41_X3 h ht hg hL hi hd hA hN ?_ h1)
    rw [← es]
    refine (sc_no (fun _ => ?_)).symm
    show isSp (b (i + j)) = false
    unfold isSp
    rw [decide_eq_false (fun q => c (o1.mpr q)), decide_eq_false (fun q => c2 (o2.mpr q))]; rfl
  · rintro ih p z' ⟨rfl, hl, es, rfl⟩
    show gx (bX6_advance_5 N ih t (nI (i + (L - i))) G z') _
    unfold bX6_advance_5
    refine gx_gI h.o (by decide) rfl ?_
    rw [h1]
    refine gx_itet ((nI_leI (by omega) (by omega)).mpr (by omega)) (adv41_X3 h ht hg hL hi hd hA hN ?_ h1)
    rw [← es]
    exact (sc_no (fun q => by omega)).symm
end
