/-! named (by program) -/
theorem let_oct : ∀ w, w < 256 → (!decide ((nI w).toInt8.toInt32 < 97) && !decide (122 < (nI w).toInt8.toInt32)) = (decide (97 ≤ w) && decide (w ≤ 122)) ∧ (!decide (nI w < 97) && !decide (122 < nI w)) = (decide (97 ≤ w) && decide (w ≤ 122)) ∧ (97 ≤ w ∧ w ≤ 122 → (nI w).toInt8.toInt32 = nI w) := by decide +kernel
def isLt (w : Nat) : Bool := decide (97 ≤ w) && decide (w ≤ 122)
/-- a name packed out of the bytes b, from the first on -/
def pkS (b : Nat → Nat) : Nat → Option Nat
  | 0 => some 0
  | i + 1 => match pkS b i with
    | some p => if isLt (b i) && decide (i < 5) then some (32 * p + (b i - 96)) else none
    | none => none
theorem pkS_lt {b : Nat → Nat} : ∀ {i p : Nat}, pkS b i = some p → i ≤ 5 ∧ p < 2 ^ (5 * i) ∧ (0 < i → 0 < p)
  | 0, p, h => by
    have h : some 0 = some p := h
    cases h
    exact ⟨by omega, by decide, fun q => absurd q (Nat.lt_irrefl 0)⟩
  | i + 1, p, h => by
    unfold pkS at h
    cases e : pkS b i with
    | none => rw [e] at h; cases h
    | some q =>
      rw [e] at h
      have h : (if isLt (b i) && decide (i < 5) then some (32 * q + (b i - 96)) else none) = some p := h
      cases c : isLt (b i) && decide (i < 5)
      · rw [c] at h; cases h
      · rw [c] at h
        have h : some (32 * q + (b i - 96)) = some p := h
        cases h
        rw [Bool.and_eq_true] at c
        unfold isLt at c
        simp only [Bool.and_eq_true, decide_eq_true_eq] at c
        obtain ⟨_, ih, _⟩ := pkS_lt e
        have e2 : 2 ^ (5 * (i + 1)) = 32 * 2 ^ (5 * i) := by rw [show 5 * (i + 1) = 5 * i + 5 by omega, Nat.pow_add]; omega
        refine ⟨by omega, ?_, fun _ => by omega⟩
        rw [e2]
        omega
theorem pkS_25 {b : Nat → Nat} {i p : Nat} (h : pkS b i = some p) : p < 2 ^ 25 := by
  obtain ⟨h1, h2, _⟩ := pkS_lt h
  exact Nat.lt_of_lt_of_le h2 (Nat.pow_le_pow_right (by omega) (by omega))
theorem pkS_none {b : Nat → Nat} {i : Nat} (h : pkS b i = none) : ∀ k, pkS b (i + k) = none
  | 0 => h
  | k + 1 => by
    show pkS b (i + k + 1) = none
    rw [pkS, pkS_none h k]
theorem pks_shl {p : Nat} (hp : p < 2 ^ 25) : osshl (nI p) (5 : Int32) = nI (32 * p) := by
  refine b_ext (fun i hi => ?_)
  have e : ∀ k v, k < 32 → bt (nI v) k = v.testBit k := fun k v hk => by
    unfold bt
    show (BitVec.ofNat 32 v).getLsbD k = _
    rw [BitVec.getLsbD_ofNat, decide_eq_true hk, Bool.true_and]
  show bt (nI p <<< (nI 5 &&& 31)) i = _
  rw [b_shl 5 (by omega) _ hi, e _ _ (by omega), e _ _ hi, show 32 * p = 2 ^ 5 * p from rfl, Nat.testBit_two_pow_mul]
section
variable {G : osG} {z : osS} {N x n np T : Nat} {ad : Nat → Nat} {W : Nat → Nat → Nat → Int32} {D : Nat → Nat → Int64} {M : Nat → Nat → Int32}
theorem q_X9_packedInput_11 {bd sp nw dr : Nat} {E : Nat → Nat → Int32} (h : rX9 z x bd sp nw dr E) {b : Nat → Nat} (hb : ∀ k, k < 1000 → b k < 256 ∧ E 0 k = (nI (b k)).toInt8.toInt32) {v : Nat} (hv : v ≤ 5) (hN : 5000 < N) : gx (qX9_packedInput_11 N (x, nI v, (0 : Int32), (0 : Int32)) G z) (fun r z' => r = (match pkS b v with | some p => nI p | none => 0) ∧ z' = z) := by
  refine gx_loop v (fun i p z' => (∃ q, pkS b i = some q ∧ p = (x, nI v, nI q, nI i)) ∧ z' = z) ?_ ?_ N 0 _ z (Nat.zero_le _) (by omega) ⟨⟨0, rfl, rfl⟩, rfl⟩
  · rintro ih i p z' hi ⟨⟨q, hq, rfl⟩, rfl⟩ k
    show gx (bX9_packedInput_11 N ih x (nI v) (nI q) (nI i) G z') _
    unfold bX9_packedInput_11
    obtain ⟨b1, b2⟩ := hb i (by omega)
    obtain ⟨l1, _, l3⟩ := let_oct (b i) b1
    have h25 := pkS_25 hq
    refine gx_itef (nI_ge hi (by omega)) (gx_itef (nI_ge (a := i) (b := 1000) (by omega) (by omega)) (gx_gR h.o (by decide) rfl (gx_aE h.a0 rfl (by omega) (Nat.le_of_ble_eq_true rfl) ?_)))
    rw [b2]
    refine gx_callE q_isLetter ?_
    rw [l1]
    refine gx_iteB (fun c => gx_ret ⟨?_, rfl⟩) (fun c => gx_gR h.o (by decide) rfl (gx_aE h.a0 rfl (by omega) (Nat.le_of_ble_eq_true rfl) ?_))
    · have hn : pkS b (i + 1) = none := by
        rw [pkS, hq]
        show (if isLt (b i) && decide (i < 5) then _ else none) = none
        rw [show isLt (b i) = false from c, Bool.false_and]; rfl
      have := pkS_none hn (v - (i + 1))
      rw [show i + 1 + (v - (i + 1)) = v by omega] at this
      rw [this]
    · have c' := c
      simp only [Bool.and_eq_true, decide_eq_true_eq] at c'
      rw [b2, l3 c']
      unfold qX9_letterNumber
      refine gx_callE (gx_eq (v := nI (b i - 96)) (z1 := z') (gx_ret ⟨?_, rfl⟩)) (gx_retb (k _ _ ⟨⟨32 * q + (b i - 96), ?_, ?_⟩, rfl⟩))
      · rw [show nI (b i) - (97 : Int32) = nI (b i - 97) from nI_sub (a := b i) (b := 97) (by omega), show b i - 96 = b i - 97 + 1 by omega]
        exact nI_sum (b := 1) rfl rfl
      · rw [pkS, hq]
        show (if isLt (b i) && decide (i < 5) then _ else none) = _
        rw [show isLt (b i) = true from c, decide_eq_true (show i < 5 by omega)]; rfl
      · rw [pks_shl h25, nI_add]
        exact congrArg (fun t => (_, _, _, t)) (nI_sum (b := 1) rfl rfl)
  · rintro ih p z' ⟨⟨q, hq, rfl⟩, rfl⟩
    show gx (bX9_packedInput_11 N ih x (nI v) (nI q) (nI v) G z') _
    unfold bX9_packedInput_11 qX9_packedInput_57
    exact gx_itet ((nI_leI (by omega) (by omega)).mpr (Nat.le_refl v)) (gx_ret ⟨by rw [hq], rfl⟩)
def lP (o : Option Nat) : Int64 := match o with
  | some p => lN p
  | none => -1
theorem q_X10_named_31 {m : Nat} (hm : rX10 z m M D) (hA : G.2.2.1 ≤ m) {b : Nat → Nat} (hb : ∀ k, k < 1000 → b k < 256 ∧ M 9 k = nI (b k)) (m0 : M 1 0 = nI n) (h16 : n ≤ 16) {v : Nat} (hv : v ≤ 1000) (hN : 5000 < N) : gx (qX10_named_31 N (m, nI v, (0 : Int64), (0 : Int32)) G z) (fun r z' => osFr m (m + 21) z z' ∧ ∃ M', rX10 z' m M' D ∧ (∀ k, ¬ k = 0 → ¬ k = 10 → M' k = M k) ∧ M' 10 0 = 0 ∧ ((fd (fun i => decide (D 6 (0 + i) = lP (pkS b v))) 0 n = none ∧ M' 0 0 = 2) ∨ ∃ a, fd (fun i => decide (D 6 (0 + i) = lP (pkS b v))) 0 n = some a ∧ M' 0 = M 0 ∧ r = nI a)) := by
  refine gx_loop v (fun i p z' => p = (m, nI v, lP (pkS b i), nI i) ∧ z' = z) ?_ ?_ N 0 _ z (Nat.zero_le _) (by omega) ⟨rfl, rfl⟩
  · rintro ih i p z' hi ⟨rfl, rfl⟩ k
    show gx (bX10_named_31 N ih m (nI v) (lP (pkS b i)) (nI i) G z') _
    unfold bX10_named_31 qX10_named_83 qX10_named_86
    obtain ⟨b1, b2⟩ := hb i (by omega)
    obtain ⟨_, l2, _⟩ := let_oct (b i) b1
    have bad : pkS b (i + 1) = none → gx (ih (m, nI v, (-1 : Int64), nI i + (1 : Int32)) G z') _ := fun q => k _ _ ⟨by rw [q]; exact congrArg (fun t => (_, _, _, t)) (nI_sum (b := 1) rfl rfl), rfl⟩
    refine gx_itef (nI_ge hi (by omega)) (gx_ite (fun c => bad ?_) (fun c => ?_))
    · have c := (nI_leI (a := 5) (b := i) (by omega) (by omega)).mp c
      rw [pkS]
      cases pkS b i with
      | none => rfl
      | some q =>
        show (if isLt (b i) && decide (i < 5) then _ else none) = none
        rw [decide_eq_false (show ¬ i < 5 by omega), Bool.and_false]; rfl
    · have c5 : i < 5 := Nat.not_le.mp (fun q => c ((nI_leI (a := 5) (b := i) (by omega) (by omega)).mpr q))
      refine gx_gR hm.o (by decide) rfl (gx_aE hm.a9 rfl (by omega) (Nat.le_of_ble_eq_true rfl) ?_)
      rw [b2]
      refine gx_callE q_X10_isLetter ?_
      rw [l2]
      refine gx_iteB (fun cl => bad ?_) (fun cl => ?_)
      · rw [pkS]
        cases pkS b i with
        | none => rfl
        | some q =>
          show (if isLt (b i) && decide (i < 5) then _ else none) = none
          rw [show isLt (b i) = false from cl, Bool.false_and]; rfl
      · have cl' := cl
        simp only [Bool.and_eq_true, decide_eq_true_eq] at cl'
        cases e : pkS b i with
        | none =>
          refine gx_itet (by show lg_cmp (-1) 0 < 0; decide) (bad ?_)
          rw [pkS, e]
        | some q =>
          have h25 := pkS_25 e
          have hneg : ¬ lg_cmp (lN q) 0 < 0 := fun hh => by
            unfold lg_cmp at hh
            by_cases g : lN q > 0
            · rw [if_pos g] at hh; exact absurd hh (by decide)
            · rw [if_neg g] at hh
              by_cases g2 : lN q = 0
              · rw [if_pos g2] at hh; exact absurd hh (by decide)
              · rcases Nat.eq_zero_or_pos q with g3 | g3
                · exact g2 (by rw [g3]; rfl)
                · exact g ((lN_lt (a := 0) (b := q) (by omega) (by omega)).mpr g3)
          refine gx_itef hneg (gx_gR hm.o (by decide) rfl (gx_aE hm.a9 rfl (by omega) (Nat.le_of_ble_eq_true rfl) ?_))
          rw [b2]
          refine k _ _ ⟨?_, rfl⟩
          have e3 : (32 : Int64) * lP (some q) + (nI (b i)).toInt64 - (96 : Int64) = lN (32 * q + (b i - 96)) := by
            show lN 32 * lN q + (nI (b i)).toInt64 - lN 96 = _
            rw [nI_l (by omega), lN_mul, lN_add, lN_sub (by omega)]
            congr 1; omega
          have e4 : pkS b (i + 1) = some (32 * q + (b i - 96)) := by
            rw [pkS, e]
            show (if isLt (b i) && decide (i < 5) then _ else none) = _
            rw [show isLt (b i) = true from cl, decide_eq_true c5]; rfl
          rw [e3, e4]
          exact congrArg (fun t => (_, _, _, t)) (nI_sum (b := 1) rfl rfl)
  · rintro ih p z' ⟨rfl, rfl⟩
    show gx (bX10_named_31 N ih m (nI v) (lP (pkS b v)) (nI v) G z') _
    unfold bX10_named_31 qX10_named_131
    refine gx_itet ((nI_leI (by omega) (by omega)).mpr (Nat.le_refl v)) (hm.p10 (by decide) hA (fun z2 f2 h2 => gx_gR h2.o (by decide) rfl (gx_gR h2.o (by decide) rfl (gx_aE (i := 0) h2.a1 rfl (by omega) (Nat.le_of_ble_eq_true rfl) ?_))))
    rw [show (cset M 10 fun _ => (0 : Int32)) 1 0 = nI n from m0]
    refine gx_callE (q_X10_numberOf (f := 0) (n := n) h2.a6 (by omega) (by omega) (by omega)) ?_
    cases e : fd (fun i => decide (D 6 (0 + i) = lP (pkS b v))) 0 n with
    | none =>
      refine gx_itet rfl (gx_recvQ h2.o (by decide) (q_X10_refuse h2 hA) (fun r z3 ⟨er, f3, h3⟩ => gx_ret ⟨f2.tr f3, _, h3, fun k q0 q1 => by rw [cset_ne q0, cset_ne q1], rfl, Or.inl ⟨rfl, rfl⟩⟩))
    | some a =>
      have ha := (fd_some e).2.1
      exact gx_itef (nI_m1 (by omega)) (gx_ret ⟨f2, _, h2, fun k q0 q1 => cset_ne q1, rfl, Or.inr ⟨a, rfl, rfl, rfl⟩⟩)
end
section
variable {G : osG} {z : osS} {N x n np T : Nat} {ad : Nat → Nat} {W : Nat → Nat → Nat → Int32} {D : Nat → Nat → Int64} {v : Int32}
theorem c_named (hw : WD z x ad W D) (hi : IVn W D n np T) (hA : G.2.2.1 ≤ x) (hN : 5000 < N) : callT G z x T [(1, (1 : Int32)), (2, (2 : Int32))] (qX9_named N x v) (qX10_named N (x + 129) v) := by
  have hA' : G.2.2.1 ≤ x + 129 := by omega
  have h16 := hi.m.n16
  have c0 := hi.m.c0
  have m0 := hi.m.m0
  obtain ⟨c, hc, e1, e10, hio⟩ := hi.in
  have e0 : (!decide (v < 1) && !decide (nI c < v)) = (!decide (v < 1) && decide (v ≤ nI c)) := by
    rw [dec_iff (show nI c < v ↔ ¬ v ≤ nI c from ⟨fun q h => absurd (Int32.lt_iff_toInt_lt.mp q) (by have := Int32.le_iff_toInt_le.mp h; omega), fun q => by
      rw [Int32.lt_iff_toInt_lt]
      have : ¬ v.toInt ≤ (nI c).toInt := fun h => q (Int32.le_iff_toInt_le.mpr h)
      omega⟩)]
    cases decide (v < 1) <;> by_cases h : v ≤ nI c <;> simp [h]
  cases ca : (!decide (v < 1) && decide (v ≤ nI c))
  · refine call_of hw (pair_of hi (.inl 1) ?_ (fun z1 ad1 hw1 => ?_))
    · unfold qX9_named
      refine gx_bindT (gx_recv hw.x9.o (by decide) ?_)
      unfold qX9_requireLength qX9_requireLength_13
      refine gx_ite (fun _ => gx_throw hw.nz ⟨rfl, rfl⟩) (fun c1 => gx_gI hw.x9.o (by decide) rfl ?_)
      rw [e1]
      refine gx_itef (fun c2 => ?_) (gx_throw hw.nz ⟨rfl, rfl⟩)
      rw [decide_eq_false c1, decide_eq_true c2] at ca
      cases ca
    · unfold qX10_named qX10_named_18
      refine gx_gI hw1.m.o (by decide) rfl (gx_callE q_X10_in ?_)
      rw [e10, e0, ca]
      refine gx_itet rfl ?_
      exact gx_refT hw1.m hA' (by decide) (fun z2 f2 h2 => gx_ret ⟨f2, _, h2, k0_ok, agrT (j := 1) (q := (1, 1)) rfl rfl (by decide)⟩)
  · have ca' := ca
    simp only [Bool.and_eq_true, Bool.not_eq_true', decide_eq_false_iff_not, decide_eq_true_eq] at ca'
    obtain ⟨k1, k2⟩ := ca'
    obtain ⟨l, hl, rfl⟩ := nI_of (show ¬ v < 0 from fun q => k1 (by
      have := Int32.lt_iff_toInt_lt.mp q
      rw [Int32.lt_iff_toInt_lt]
      have e9 : (1 : Int32).toInt = 1 := rfl
      have e8 : (0 : Int32).toInt = 0 := rfl
      omega))
    have l1 : 1 ≤ l := Nat.not_lt.mp (fun q => k1 ((nI_ltI (a := l) (b := 1) (by omega) (by omega)).mpr q))
    have l2 : l ≤ c := (nI_leI hl (by omega)).mp k2
    obtain ⟨b, hb⟩ : ∃ b : Nat → Nat, ∀ k, k < 1000 → b k < 256 ∧ W 20 9 k = nI (b k) ∧ W 0 0 k = (nI (b k)).toInt8.toInt32 := by
      refine ⟨fun k => tn (W 20 9 k), fun k hk => ?_⟩
      obtain ⟨w, w1, w2, w3⟩ := hio k hk
      have : tn (W 20 9 k) = w := by rw [w2]; exact nI_clamp (by omega)
      show tn (W 20 9 k) < 256 ∧ W 20 9 k = nI (tn (W 20 9 k)) ∧ W 0 0 k = (nI (tn (W 20 9 k))).toInt8.toInt32
      rw [this]
      exact ⟨w1, w2, w3⟩
    have efd : fd (fun i => decide (D 6 (0 + i) = lP (pkS b l))) 0 n = fd (fun i => decide (W 1 5 i = (match pkS b l with | some p => nI p | none => 0))) 0 n := by
      refine fd_cong (fun j _ hj => ?_)
      obtain ⟨w, w0, w1, w2, w3⟩ := hi.m.2.2.1 j (by omega)
      rw [Nat.zero_add, w3, w2]
      cases e : pkS b l with
      | none =>
        show decide (lN w = -1) = decide (nI w = 0)
        rw [decide_eq_false (fun q => by
          have q := congrArg Int64.toInt q
          rw [lN_toInt (by omega)] at q
          have : (-1 : Int64).toInt = -1 := by decide
          omega), decide_eq_false (fun q => by have := (nI_00 (by omega)).mp q; omega)]
      | some p =>
        have hp := pkS_25 e
        show decide (lN w = lN p) = decide (nI w = nI p)
        exact dec_iff ((lN_eq (by omega) (by omega)).trans ⟨fun q => by rw [q], fun q => by
          have q := congrArg Int32.toInt q
          rw [nI_toInt (by omega), nI_toInt (by omega)] at q
          omega⟩)
    refine ⟨fun r _ W1 D1 => D1 = D ∧ W1 = Ws W 0 (cset (W 0) 1 fun _ => (0 : Int32)) ∧ ((fd (fun i => decide (W 1 5 i = (match pkS b l with | some p => nI p | none => 0))) 0 n = none ∧ r = .inl 2) ∨ ∃ a, fd (fun i => decide (W 1 5 i = (match pkS b l with | some p => nI p | none => 0))) 0 n = some a ∧ r = .inr (nI a)), ?_, ?_⟩
    · unfold qX9_named
      refine gx_bindT (gx_recv hw.x9.o (by decide) ?_)
      unfold qX9_requireLength
      refine gx_itef k1 (gx_gI hw.x9.o (by decide) rfl ?_)
      rw [e1]
      refine gx_itet k2 (gx_Rt (gx_ret (hw.x9.p1 (by decide) hA (fun z1 f1 h1 => ?_))))
      have w1 := hw.c9 f1 h1
      have bd1 := w1.bd
      rw [Ws_ne (by omega)] at bd1
      have hpk : qX9_packedInput N x (nI l) G z1 = some ((match pkS b l with | some p => nI p | none => 0), z1) := by
        refine gx_eq ?_
        unfold qX9_packedInput
        refine gx_ite (fun q => ?_) (fun q => gx_ret ⟨?_, rfl⟩)
        · exact q_X9_packedInput_11 h1 (b := b) (fun k hk => ⟨(hb k hk).1, (hb k hk).2.2⟩) ((nI_leI (a := l) (b := 5) (by omega) (by omega)).mp q) hN
        · have : ¬ l ≤ 5 := fun h => q ((nI_leI (a := l) (b := 5) (by omega) (by omega)).mpr h)
          cases e : pkS b l with
          | none => rfl
          | some p => exact absurd (pkS_lt e).1 this
      refine gx_gR w1.x9.o (by decide) rfl (gx_recvE w1.x9.o (by decide) hpk (gx_recvE bd1.o (by decide) (q_findArea bd1 c0 h16 (by omega)) ?_))
      cases e : fd (fun i => decide (W 1 5 i = (match pkS b l with | some p => nI p | none => 0))) 0 n with
      | none => exact gx_itet rfl (gx_throw w1.nz ⟨ad, _, D, w1, rfl, rfl, Or.inl ⟨rfl, rfl⟩⟩)
      | some a =>
        have ha := (fd_some e).2.1
        exact gx_itef (nI_m1 (by omega)) (gx_Rt (gx_ret ⟨ad, _, D, w1, rfl, rfl, Or.inr ⟨a, rfl, rfl⟩⟩))
    · rintro r z1 ad1 W1 D1 hw1 ⟨rfl, rfl, hr⟩
      have hm1 := hw1.m
      rw [Ws_ne (by omega)] at hm1
      unfold qX10_named qX10_named_18
      refine gx_gI hm1.o (by decide) rfl (gx_callE q_X10_in ?_)
      rw [e10, e0, ca]
      refine gx_itef (by decide) (gx_refF hm1 hA' (fun z2 f2 h2 => ?_))
      refine gx_mono (q_X10_named_31 (b := b) (v := l) h2 hA' (fun k hk => ⟨(hb k hk).1, (hb k hk).2.1⟩) m0 h16 (by omega) hN) (fun r2 z3 ⟨f3, M', h3, er, e10', hres⟩ => ?_)
      have fr := f2.tr f3
      have hin : cpIn (cset (W 0) 1 fun _ => (0 : Int32)) M' := ⟨0, by omega, rfl, e10', fun k hk => by
        rw [er 9 (by omega) (by omega)]; exact hio k hk⟩
      have hiv : IVn (Ws (Ws W 0 (cset (W 0) 1 fun _ => (0 : Int32))) 20 M') D1 n np T := IV_in hi hin (fun r hr => cset_ne (by omega)) (fun k hk => by rw [er k (by omega) (by omega)]; exact cset_ne (by omega))
      refine ⟨fr, ad1, _, D1, hw1.ref fr h3, ⟨n, np, hiv⟩, ?_⟩
      rw [Ws_eq]
      rw [efd] at hres
      rcases hr with ⟨q1, rfl⟩ | ⟨a, q1, rfl⟩
      · rcases hres with ⟨_, q3⟩ | ⟨a, q2, _⟩
        · exact ⟨⟨(2, 2), rfl, q3.symm⟩, by rw [q3]; decide⟩
        · rw [q1] at q2; cases q2
      · rcases hres with ⟨q2, _⟩ | ⟨a2, q2, q3, q4⟩
        · rw [q1] at q2; cases q2
        · rw [q1] at q2; cases q2
          exact ⟨by rw [q3]; rfl, q4.symm⟩
end
