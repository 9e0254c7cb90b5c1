/-! endBuilds (by program) -/
def rmA (S : Nat → Nat → Int32) (v : Int32) (J : Nat) : Nat := fb_ct (fun i => decide (S 6 (15 - i) = v)) J
def rm (S : Nat → Nat → Int32) (a : Nat) : Bool := uu S a && decide (ct (S 5) (S 6 a) + rmA S (S 6 a) (15 - a) < ct (S 6) (S 6 a))
def rmR (S : Nat → Nat → Int32) (v : Int32) (J : Nat) : Nat := fb_ct (fun i => decide (S 6 (15 - i) = v) && rm S (15 - i)) J
def isR (Q : Nat → Bool) (S V : Nat → Nat → Int32) : Prop := (∀ b, b < 16 → V 6 b = if (Q b && rm S b) = true then -1 else S 6 b) ∧ (∀ b, b < 16 → V 7 b = if (Q b && rm S b) = true then -1 else S 7 b) ∧ ∀ k, ¬ k = 6 → ¬ k = 7 → V k = S k
section
variable {C S V M : Nat → Nat → Int32} {n np T : Nat} {v : Int32}
theorem rm_v {J : Nat} (hv : ¬ v = -1) (hJ : J < 16) (e : S 6 (15 - J) = v) : rm S (15 - J) = decide (ct (S 5) v + rmA S v J < ct (S 6) v) := by
  unfold rm uu
  rw [e, decide_eq_false hv, show 15 - (15 - J) = J by omega]; rfl
theorem rmR_min (hv : ¬ v = -1) : ∀ J, J ≤ 16 → rmR S v J = min (rmA S v J) (ct (S 6) v - ct (S 5) v)
  | 0, _ => by unfold rmR rmA fb_ct; omega
  | J + 1, h => by
    have ih := rmR_min hv J (by omega)
    have e1 : rmR S v (J + 1) = rmR S v J + if (decide (S 6 (15 - J) = v) && rm S (15 - J)) = true then 1 else 0 := rfl
    have e2 : rmA S v (J + 1) = rmA S v J + if decide (S 6 (15 - J) = v) = true then 1 else 0 := rfl
    rw [e1, e2]
    by_cases e : S 6 (15 - J) = v
    · rw [rm_v hv (by omega) e, decide_eq_true e]
      by_cases q : ct (S 5) v + rmA S v J < ct (S 6) v
      · rw [decide_eq_true q, if_pos (show (true && true) = true from rfl), if_pos rfl]; omega
      · rw [decide_eq_false q, if_neg (show ¬ (true && false) = true by decide), if_pos rfl]; omega
    · rw [decide_eq_false e, Bool.false_and, if_neg (by decide)]; omega
theorem rm_iff {J : Nat} (hv : ¬ v = -1) (hJ : J < 16) (e : S 6 (15 - J) = v) : rm S (15 - J) = decide (ct (S 5) v + rmR S v J < ct (S 6) v) := by
  rw [rm_v hv hJ e, rmR_min hv J (by omega)]
  exact dec_iff (by omega)
theorem rm_uu {a : Nat} (h : rm S a = true) : uu S a = true := by unfold rm at h; rw [Bool.and_eq_true] at h; exact h.1
theorem isR_ext {Q Q' : Nat → Bool} (h : isR Q S V) (e : ∀ b, b < 16 → (Q b && rm S b) = (Q' b && rm S b)) : isR Q' S V := ⟨fun b hb => by rw [← e b hb]; exact h.1 b hb, fun b hb => by rw [← e b hb]; exact h.2.1 b hb, h.2.2⟩
theorem ds_one {W : Nat → Nat → Int32} {Q : Nat → Bool} (hv : ¬ v = -1) (h : isR Q S W) (hQ : ∀ b, b < 16 → S 6 b = v → Q b = false) : ∀ J, J ≤ 16 → isR (fun b => Q b || (decide (16 ≤ b + J) && decide (S 6 b = v))) S (osit (fun j W => stDS v (15 - j) W) 0 J (W, (0 : Int32))).1 ∧ ct ((osit (fun j W => stDS v (15 - j) W) 0 J (W, (0 : Int32))).1 6) v + rmR S v J = ct (S 6) v ∧ (osit (fun j W => stDS v (15 - j) W) 0 J (W, (0 : Int32))).2 = nI (rmR S v J)
  | 0, _ => by
    refine ⟨isR_ext h (fun b hb => ?_), ?_, rfl⟩
    · rw [decide_eq_false (show ¬ 16 ≤ b + 0 by omega), Bool.false_and, Bool.or_false]
    · show ct (W 6) v + 0 = _
      refine fb_ct_cong (fun b hb => ?_)
      rw [h.1 b hb]
      cases q : Q b && rm S b
      · rw [if_neg (by decide)]
      · rw [if_pos rfl]
        rw [Bool.and_eq_true] at q
        rw [decide_eq_false (fun e => hv e.symm), decide_eq_false (fun e => by rw [hQ b hb e] at q; cases q.1)]
  | J + 1, hJ => by
    obtain ⟨i1, i2, i3⟩ := ds_one hv h hQ J (by omega)
    rw [osit_last, Nat.zero_add]
    generalize osit (fun j W => stDS v (15 - j) W) 0 J (W, (0 : Int32)) = X at i1 i2 i3 ⊢
    have ha : 15 - J < 16 := by omega
    have e0 : X.1 6 (15 - J) = v ↔ S 6 (15 - J) = v := by
      rw [i1.1 _ ha]
      show (if ((Q (15 - J) || (decide (16 ≤ 15 - J + J) && decide (S 6 (15 - J) = v))) && rm S (15 - J)) = true then (-1 : Int32) else S 6 (15 - J)) = v ↔ _
      by_cases e : S 6 (15 - J) = v
      · rw [hQ _ ha e, decide_eq_false (show ¬ 16 ≤ 15 - J + J by omega)]; simp
      · split
        · exact ⟨fun q => absurd q.symm hv, fun q => absurd q e⟩
        · exact Iff.rfl
    have er : rmR S v (J + 1) = rmR S v J + if (decide (S 6 (15 - J) = v) && rm S (15 - J)) = true then 1 else 0 := rfl
    have keep : (decide (S 6 (15 - J) = v) && rm S (15 - J)) = false → isR (fun b => Q b || (decide (16 ≤ b + (J + 1)) && decide (S 6 b = v))) S X.1 ∧ ct (X.1 6) v + rmR S v (J + 1) = ct (S 6) v ∧ X.2 = nI (rmR S v (J + 1)) := fun q => by
      rw [er, q, if_neg (by decide), Nat.add_zero]
      refine ⟨isR_ext i1 (fun b hb => ?_), i2, i3⟩
      show ((Q b || (decide (16 ≤ b + J) && decide (S 6 b = v))) && rm S b) = ((Q b || (decide (16 ≤ b + (J + 1)) && decide (S 6 b = v))) && rm S b)
      by_cases e : b = 15 - J
      · have q' : (decide (S 6 b = v) && rm S b) = false := by rw [e]; exact q
        cases h1 : Q b
        · rw [Bool.false_or, Bool.false_or, Bool.and_assoc, Bool.and_assoc, q', Bool.and_false, Bool.and_false]
        · rfl
      · rw [dec_iff (show 16 ≤ b + J ↔ 16 ≤ b + (J + 1) by omega)]
    unfold stDS
    by_cases c1 : S 6 (15 - J) = v
    · rw [if_pos (e0.mpr c1), i1.2.2 5 (by omega) (by omega)]
      have key := rm_iff hv (by omega) c1
      by_cases c2 : ct (S 5) v < ct (X.1 6) v
      · rw [if_pos c2]
        have hr : rm S (15 - J) = true := by rw [key]; exact decide_eq_true (by omega)
        rw [er, decide_eq_true c1, hr, if_pos (show (true && true) = true from rfl)]
        refine ⟨⟨fun b hb => ?_, fun b hb => ?_, fun k h6 h7 => ?_⟩, ?_, ?_⟩
        · show (if b = 15 - J then (-1 : Int32) else X.1 6 b) = if ((Q b || (decide (16 ≤ b + (J + 1)) && decide (S 6 b = v))) && rm S b) = true then -1 else S 6 b
          by_cases e : b = 15 - J
          · rw [if_pos e, if_pos]
            rw [e, hr, decide_eq_true c1, decide_eq_true (show 16 ≤ 15 - J + (J + 1) by omega)]
            cases Q (15 - J) <;> rfl
          · rw [if_neg e, i1.1 b hb]
            show (if ((Q b || (decide (16 ≤ b + J) && decide (S 6 b = v))) && rm S b) = true then _ else _) = _
            rw [dec_iff (show 16 ≤ b + J ↔ 16 ≤ b + (J + 1) by omega)]
        · show (if b = 15 - J then (-1 : Int32) else X.1 7 b) = if ((Q b || (decide (16 ≤ b + (J + 1)) && decide (S 6 b = v))) && rm S b) = true then -1 else S 7 b
          by_cases e : b = 15 - J
          · rw [if_pos e, if_pos]
            rw [e, hr, decide_eq_true c1, decide_eq_true (show 16 ≤ 15 - J + (J + 1) by omega)]
            cases Q (15 - J) <;> rfl
          · rw [if_neg e, i1.2.1 b hb]
            show (if ((Q b || (decide (16 ≤ b + J) && decide (S 6 b = v))) && rm S b) = true then _ else _) = _
            rw [dec_iff (show 16 ≤ b + J ↔ 16 ≤ b + (J + 1) by omega)]
        · show placed _ _ _ _ k = _
          unfold placed
          rw [cset_ne h7, cset_ne h6]; exact i1.2.2 k h6 h7
        · have e1 : ct ((placed X.1 (15 - J) (-1) (-1)) 6) v = fb_ct (fun k => if k = 15 - J then false else decide (X.1 6 k = v)) 16 := fb_ct_cong (fun k hk => by
            show decide ((if k = 15 - J then (-1 : Int32) else X.1 6 k) = v) = _
            by_cases e : k = 15 - J
            · rw [if_pos e, if_pos e]; exact decide_eq_false (fun q => hv q.symm)
            · rw [if_neg e, if_neg e])
          have e2 := fb_ct_upd (fun k => decide (X.1 6 k = v)) false (i := 15 - J) (n := 16) ha
          have e3 : (if (fun k => decide (X.1 6 k = v)) (15 - J) = true then 1 else 0) = 1 := if_pos (decide_eq_true (e0.mpr c1))
          have e4 : (if false = true then 1 else 0) = 0 := rfl
          have e5 : fb_ct (fun k => decide (X.1 6 k = v)) 16 = ct (X.1 6) v := rfl
          rw [e3, e4, e5] at e2
          show ct ((placed X.1 (15 - J) (-1) (-1)) 6) v + _ = _
          omega
        · show X.2 + (1 : Int32) = _
          rw [i3]; exact nI_sum (b := 1) rfl rfl
      · rw [if_neg c2]
        refine keep ?_
        have e9 : decide (ct (S 5) v + rmR S v J < ct (S 6) v) = false := decide_eq_false (by omega)
        rw [key, e9, Bool.and_false]
    · rw [if_neg (fun q => c1 (e0.mp q))]
      exact keep (by rw [decide_eq_false c1, Bool.false_and])
def rmT (S : Nat → Nat → Int32) : Nat → Nat
  | 0 => 0
  | i + 1 => rmT S i + rmR S (nI i) 16
def own (S : Nat → Nat → Int32) (i b : Nat) : Bool := exn (fun p => decide (S 6 b = nI p)) i
theorem own_no {i b : Nat} (hi : i < 2 ^ 31) (e : S 6 b = nI i) : own S i b = false := by
  unfold own
  refine exn_no.mpr (fun p hp => decide_eq_false (fun q => ?_))
  have q := congrArg Int32.toInt (e.symm.trans q)
  rw [nI_toInt (by omega), nI_toInt (by omega)] at q
  omega
theorem rmT_eq : ∀ i, i ≤ 4 → rmT S i = fb_ct (fun j => own S i (15 - j) && rm S (15 - j)) 16
  | 0, _ => (fb_ct_zero.mpr (fun _ _ => rfl)).symm
  | i + 1, h => by
    rw [rmT, rmT_eq i (by omega)]
    unfold rmR
    rw [← fb_ct_or (fun k hk q => ?_)]
    · refine fb_ct_cong (fun k hk => ?_)
      show _ = ((own S i (15 - k) || decide (S 6 (15 - k) = nI i)) && rm S (15 - k))
      cases own S i (15 - k) <;> cases decide (S 6 (15 - k) = nI i) <;> cases rm S (15 - k) <;> rfl
    · rw [Bool.and_eq_true, Bool.and_eq_true] at q
      have := own_no (S := S) (by omega) (of_decide_eq_true q.2.1)
      rw [this] at q
      cases q.1.1
theorem own_uu (hj : stJ C S n np T) (h4 : np ≤ 4) {b : Nat} (hb : b < 16) (h : rm S b = true) : own S np b = true := by
  obtain ⟨_, ⟨p, hp, e⟩, _⟩ := hj.u b hb (rm_uu h)
  exact exn_iff.mpr ⟨p, hp, decide_eq_true e⟩
theorem rmT_all (hj : stJ C S n np T) (h4 : np ≤ 4) : rmT S np = fb_ct (fun j => rm S (15 - j)) 16 := by
  rw [rmT_eq np h4]
  refine fb_ct_cong (fun k hk => ?_)
  cases q : rm S (15 - k)
  · rw [Bool.and_false]
  · rw [own_uu hj h4 (by omega) q]; rfl
theorem isR_J (hj : stJ C S n np T) (h : isR (fun _ => true) S V) : stJ C V n np T := by
  obtain ⟨h6, h7, hk⟩ := h
  have e6 : ∀ b, b < 16 → uu V b = (uu S b && !rm S b) := fun b hb => by
    unfold uu
    rw [h6 b hb, Bool.true_and]
    cases q : rm S b
    · rw [if_neg (by decide)]; simp
    · rw [if_pos rfl]; simp
  refine ⟨by rw [hk 2 (by omega) (by omega)]; exact hj.b2, by rw [hk 1 (by omega) (by omega)]; exact hj.t, fun a ha q => ?_, fun a ha q => ?_, fun a ha q => ?_, fun a ha q => ?_, ?_, fun a ha q => ?_, fun a ha q => ?_⟩
  · rw [h7 a ha, Bool.true_and]
    cases e : rm S a
    · rw [if_neg (by decide)]
      rw [e6 a ha, e] at q
      exact hj.k7 a ha (by simpa using q)
    · rw [if_pos rfl]
  · rw [e6 a ha, Bool.and_eq_true] at q
    have e : rm S a = false := by simpa using q.2
    rw [h6 a ha, h7 a ha, e]
    exact hj.u a ha q.1
  · unfold ds at q
    rw [hk 8 (by omega) (by omega)] at q
    rw [hk 8 (by omega) (by omega), hk 9 (by omega) (by omega)]; exact hj.d a ha q
  · unfold ds at q
    rw [hk 8 (by omega) (by omega)] at q
    rw [hk 9 (by omega) (by omega), hk 11 (by omega) (by omega)]; exact hj.nd a ha q
  · have l1 : fb_ct (uu V) 16 ≤ fb_ct (uu S) 16 := fb_ct_sub (fun a ha q => by rw [e6 a ha, Bool.and_eq_true] at q; exact q.1)
    have l2 : fb_ct (ds V) 16 = fb_ct (ds S) 16 := fb_ct_cong (fun a ha => by unfold ds; rw [hk 8 (by omega) (by omega)])
    have := hj.c12
    omega
  · rw [hk 5 (by omega) (by omega)] at q ⊢; exact hj.ow a ha q
  · rw [hk 11 (by omega) (by omega)] at q ⊢; exact hj.rt a ha q
theorem isR_T {f g : Nat → Int32} (hc : cpT S f) (h : isR (fun _ => true) S V) (e21 : ∀ b, b < 16 → g (21 + b) = if rm S b = true then -1 else S 6 b) (ek : ∀ j, j < 21 ∨ 37 ≤ j → g j = f j) : cpT V g := by
  obtain ⟨⟨c0, c1, c2, c3, c4⟩, g1, g2, g3, g4⟩ := hc
  obtain ⟨h6, h7, hk⟩ := h
  refine ⟨⟨by rw [ek 0 (by omega), hk 0 (by omega) (by omega)]; exact c0, by rw [ek 1 (by omega), hk 1 (by omega) (by omega)]; exact c1, by rw [ek 2 (by omega), hk 2 (by omega) (by omega)]; exact c2, by rw [ek 3 (by omega), hk 3 (by omega) (by omega)]; exact c3, by rw [ek 4 (by omega), hk 4 (by omega) (by omega)]; exact c4⟩, fun a ha => ?_, fun a ha q => ?_, fun a ha q => ?_, fun a w ha hw => ?_⟩
  · rw [ek (5 + a) (by omega), e21 a ha, ek (53 + a) (by omega), ek (101 + a) (by omega), ek (117 + a) (by omega), ek (133 + a) (by omega), ek (149 + a) (by omega), hk 5 (by omega) (by omega), h6 a ha, hk 8 (by omega) (by omega), hk 11 (by omega) (by omega), hk 12 (by omega) (by omega), hk 13 (by omega) (by omega), hk 14 (by omega) (by omega), Bool.true_and]
    obtain ⟨t1, t2, t3, t4, t5, t6, t7⟩ := g1 a ha
    exact ⟨t1, rfl, t3, t4, t5, t6, t7⟩
  · unfold uu at q
    rw [h6 a ha, Bool.true_and] at q
    rw [ek (37 + a) (by omega), h7 a ha, Bool.true_and]
    cases e : rm S a
    · rw [e, if_neg (by decide)] at q
      rw [if_neg (by decide)]; exact g2 a ha q
    · rw [e, if_pos rfl] at q; cases q
  · unfold ds at q
    rw [hk 8 (by omega) (by omega)] at q
    rw [ek (69 + a) (by omega), ek (85 + a) (by omega), hk 9 (by omega) (by omega), hk 10 (by omega) (by omega)]; exact g3 a ha q
  · rw [ek _ (by omega), hk 15 (by omega) (by omega)]; exact g4 a w ha hw
end
