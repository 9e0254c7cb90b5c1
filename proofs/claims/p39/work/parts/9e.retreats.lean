def crW (S : Nat → Nat → Int32) (i : Nat) : (Nat → Nat → Int32) × Int32 := osit (fun a W => stCR S a W) 0 i (S, (0 : Int32))
def retS (S : Nat → Nat → Int32) : Nat → Nat → Int32 := osit (fun a W => stCD a W) 0 16 (crW S 16).1
section
variable {C S U : Nat → Nat → Int32} {n np T : Nat}
theorem crW_succ {i : Nat} : crW S (i + 1) = stCR S i (crW S i) := by unfold crW; rw [osit_last, Nat.zero_add]
theorem stCR_sE (h : sE S U) {a : Nat} (ha : a < 16) (b : (Nat → Nat → Int32) × Int32) : stCR U a b = stCR S a b := by
  unfold stCR
  have e := fun k (h5 : 5 ≤ k) (hk : k < 15) => h.2.1 k h5 hk a ha
  have ec : ∀ v, ct (U 11) v = ct (S 11) v := fun v => fb_ct_cong (fun k hk => by rw [h.2.1 11 (by omega) (by omega) k hk])
  rw [e 8 (by omega) (by omega), e 9 (by omega) (by omega), e 11 (by omega) (by omega), ec]
theorem crU_eq (h : sE S U) : osit (fun a W => stCR U a W) 0 16 (S, (0 : Int32)) = crW S 16 := osit_congr (fun j b _ hj => stCR_sE h (by omega) b)
theorem crW_cut (hj : stJ C S n np T) (h16 : n ≤ 16) : crW S 16 = crW S n := osit_cut h16 (fun j b h1 h2 => by
  unfold stCR
  rw [if_pos]
  cases q : ds S j
  · unfold ds at q; simpa using q
  · exact absurd (hj.d j h2 q).1 (by omega))
def rI (S W : Nat → Nat → Int32) (n np i : Nat) : Prop := (∀ k, ¬ k = 6 → ¬ k = 7 → W k = S k) ∧ (∀ a, a < 16 → uu W a = false → W 7 a = -1) ∧ (∀ a, a < 16 → uu W a = true → a < n ∧ pw np (W 6 a) ∧ (W 7 a = 0 ∨ W 7 a = 1)) ∧ fb_ct (uu W) 16 ≤ fb_ct (uu S) 16 + fb_ct (ds S) i
theorem pw_n {p : Int32} (h : pw np p) (h4 : np ≤ 4) : ¬ p = -1 := by
  obtain ⟨q, hq, rfl⟩ := h
  exact nI_m1 (by omega)
theorem uu_placed {W : Nat → Nat → Int32} {t : Nat} {p k : Int32} (b : Nat) : uu (placed W t p k) b = if b = t then !decide (p = -1) else uu W b := by
  unfold uu placed
  show (!decide ((if b = t then p else W 6 b) = -1)) = _
  by_cases e : b = t
  · rw [if_pos e, if_pos e]
  · rw [if_neg e, if_neg e]
theorem rI_all (hj : stJ C S n np T) (h16 : n ≤ 16) (h4 : np ≤ 4) : ∀ i, i ≤ 16 → rI S (crW S i).1 n np i
  | 0, _ => ⟨fun _ _ _ => rfl, hj.k7, hj.u, Nat.le_refl _⟩
  | i + 1, hi => by
    have ih := rI_all hj h16 h4 i (by omega)
    have hmon := fb_ct_mono (ds S) (show i ≤ i + 1 by omega)
    have up : rI S (crW S i).1 n np (i + 1) := ⟨ih.1, ih.2.1, ih.2.2.1, by have := ih.2.2.2; omega⟩
    rw [crW_succ]
    unfold stCR
    by_cases c1 : S 8 i = -1
    · rw [if_pos c1]; exact up
    · rw [if_neg c1]
      by_cases c2 : S 11 i = -1
      · rw [if_pos c2]; exact up
      · rw [if_neg c2]
        by_cases c3 : nI (ct (S 11) (S 11 i)) = 1
        · rw [if_pos c3]
          have hds : ds S i = true := by unfold ds; rw [decide_eq_false c1]; rfl
          obtain ⟨d1, d2, d3⟩ := hj.d i (by omega) hds
          have ht := (hj.rt i (by omega) c2).2
          obtain ⟨a1, a2, a3, a4⟩ := ih
          have hp := pw_n d2 h4
          refine ⟨fun k h6 h7 => ?_, fun b hb q => ?_, fun b hb q => ?_, ?_⟩
          · show placed _ _ _ _ k = _
            unfold placed
            rw [cset_ne h7, cset_ne h6]; exact a1 k h6 h7
          · rw [uu_placed] at q
            show (if b = tn (S 11 i) then S 9 i else (crW S i).1 7 b) = _
            by_cases e : b = tn (S 11 i)
            · rw [if_pos e, decide_eq_false hp] at q; cases q
            · rw [if_neg e] at q ⊢; exact a2 b hb q
          · rw [uu_placed] at q
            show b < n ∧ pw np (if b = tn (S 11 i) then S 8 i else (crW S i).1 6 b) ∧ ((if b = tn (S 11 i) then S 9 i else (crW S i).1 7 b) = 0 ∨ (if b = tn (S 11 i) then S 9 i else (crW S i).1 7 b) = 1)
            by_cases e : b = tn (S 11 i)
            · rw [if_pos e, if_pos e]; exact ⟨by rw [e]; exact ht, d2, d3⟩
            · rw [if_neg e] at q
              rw [if_neg e, if_neg e]; exact a3 b hb q
          · have e1 : fb_ct (uu (placed (crW S i).1 (tn (S 11 i)) (S 8 i) (S 9 i))) 16 = fb_ct (fun k => if k = tn (S 11 i) then !decide (S 8 i = -1) else uu (crW S i).1 k) 16 := fb_ct_cong (fun k _ => uu_placed k)
            have e2 := fb_ct_upd (uu (crW S i).1) (!decide (S 8 i = -1)) (i := tn (S 11 i)) (n := 16) (by omega)
            have e3 : fb_ct (ds S) (i + 1) = fb_ct (ds S) i + 1 := by rw [fb_ct_succ, if_pos hds]
            have e4 : (if (!decide (S 8 i = -1)) = true then 1 else 0) ≤ 1 := by split <;> omega
            show fb_ct (uu (placed (crW S i).1 (tn (S 11 i)) (S 8 i) (S 9 i))) 16 ≤ _
            omega
        · rw [if_neg c3]; exact up
theorem ret_k {k : Nat} (h : ¬ (8 ≤ k ∧ k ≤ 11)) : retS S k = (crW S 16).1 k := by
  unfold retS
  rw [cf_CD, cset_ne (by omega), cset_ne (by omega), cset_ne (by omega), cset_ne (by omega)]
theorem ret_m {a : Nat} (ha : a < 16) : retS S 8 a = -1 ∧ retS S 9 a = -1 ∧ retS S 10 a = -1 ∧ retS S 11 a = -1 := by
  unfold retS
  rw [cf_CD]
  refine ⟨?_, ?_, ?_, ?_⟩ <;> simp [cset_ap, fl, ha]
theorem ret_ds {a : Nat} (ha : a < 16) : ds (retS S) a = false := by unfold ds; rw [(ret_m ha).1]; rfl
theorem ret_J (hj : stJ C S n np T) (h16 : n ≤ 16) (h4 : np ≤ 4) : stJ C (retS S) n np T := by
  obtain ⟨a1, a2, a3, a4⟩ := rI_all hj h16 h4 16 (Nat.le_refl _)
  have k6 : retS S 6 = (crW S 16).1 6 := ret_k (by omega)
  have k7 : retS S 7 = (crW S 16).1 7 := ret_k (by omega)
  have eu : ∀ a, uu (retS S) a = uu (crW S 16).1 a := fun a => by unfold uu; rw [k6]
  have k0 : ∀ k, k ≠ 6 → k ≠ 7 → ¬ (8 ≤ k ∧ k ≤ 11) → retS S k = S k := fun k h6 h7 h => by rw [ret_k h]; exact a1 k h6 h7
  refine ⟨by rw [k0 2 (by omega) (by omega) (by omega)]; exact hj.b2, by rw [k0 1 (by omega) (by omega) (by omega)]; exact hj.t, fun a ha q => ?_, fun a ha q => ?_, fun a ha q => ?_, fun a ha q => ?_, ?_, fun a ha q => ?_, fun a ha q => ?_⟩
  · rw [k7]; exact a2 a ha (by rw [← eu a]; exact q)
  · rw [k6, k7]; exact a3 a ha (by rw [← eu a]; exact q)
  · rw [ret_ds ha] at q; cases q
  · exact ⟨(ret_m ha).2.1, (ret_m ha).2.2.2⟩
  · have e1 : fb_ct (ds (retS S)) 16 = 0 := fb_ct_zero.mpr (fun k hk => ret_ds hk)
    have e2 : fb_ct (uu (retS S)) 16 = fb_ct (uu (crW S 16).1) 16 := fb_ct_cong (fun k _ => eu k)
    have := hj.c12
    omega
  · rw [k0 5 (by omega) (by omega) (by omega)] at q ⊢; exact hj.ow a ha q
  · exact absurd (ret_m ha).2.2.2 q
def alP (S : Nat → Nat → Int32) (a c : Nat) : Bool := !decide (c = a) && (ds S c && decide (S 11 c = S 11 a))
theorem al_ct (hj : stJ C S n np T) (h16 : n ≤ 16) {a : Nat} (ha : a < 16) (h11 : ¬ S 11 a = -1) : decide (nI (ct (S 11) (S 11 a)) = 1) = !exn (alP S a) n := by
  have e1 := fb_ct_upd (fun i => decide (S 11 i = S 11 a)) false (i := a) (n := 16) ha
  have e2 : decide (S 11 a = S 11 a) = true := decide_eq_true rfl
  have e3 : fb_ct (fun i => decide (S 11 i = S 11 a)) 16 = fb_ct (fun k => if k = a then false else decide (S 11 k = S 11 a)) 16 + 1 := by
    have : (if (fun i => decide (S 11 i = S 11 a)) a = true then 1 else 0) = 1 := if_pos e2
    rw [this] at e1
    have e4 : (if false = true then 1 else 0) = 0 := rfl
    rw [e4] at e1
    omega
  have hle := ct_le (S 11) (S 11 a)
  have e5 : (nI (ct (S 11) (S 11 a)) = 1) ↔ ct (S 11) (S 11 a) = 1 := ⟨fun q => by
    have q := congrArg Int32.toInt q
    rw [nI_toInt (by omega)] at q
    have : (1 : Int32).toInt = 1 := rfl
    omega, fun q => by rw [q]; rfl⟩
  have e6 : ct (S 11) (S 11 a) = 1 ↔ fb_ct (fun k => if k = a then false else decide (S 11 k = S 11 a)) 16 = 0 := by
    unfold ct; rw [e3]; omega
  rw [dec_iff (e5.trans (e6.trans fb_ct_zero))]
  cases q : exn (alP S a) n
  · refine decide_eq_true (fun k hk => ?_)
    have hq := exn_no.mp q
    by_cases e : k = a
    · rw [if_pos e]
    · rw [if_neg e]
      refine decide_eq_false (fun h => ?_)
      have hd : ds S k = true := by
        cases hd : ds S k
        · exact absurd (((hj.nd k hk hd).2).symm.trans h).symm h11
        · rfl
      have := hq k (hj.d k hk hd).1
      unfold alP at this
      rw [decide_eq_false e, hd, decide_eq_true h] at this
      cases this
  · refine decide_eq_false (fun h => ?_)
    obtain ⟨c, hc, hp⟩ := exn_iff.mp q
    have := h c (by omega)
    unfold alP at hp
    simp only [Bool.and_eq_true, Bool.not_eq_true', decide_eq_false_iff_not, decide_eq_true_eq] at hp
    rw [if_neg hp.1, decide_eq_true hp.2.2] at this
    cases this
end
section
variable {G : osG} {z : osS} {N m n np T : Nat} {C S M : Nat → Nat → Int32} {D : Nat → Nat → Int64}
end
