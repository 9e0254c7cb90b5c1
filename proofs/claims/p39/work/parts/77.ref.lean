/-! the reference's settling: isConvoyed, laysPaths (by program) -/
theorem fb_lt {p q : Nat → Bool} {k : Nat} : ∀ {n : Nat}, (∀ i, i < n → p i = true → q i = true) → k < n → q k = true → p k = false → fb_ct p n < fb_ct q n
  | 0, _, h, _, _ => by omega
  | n + 1, hs, hk, h1, h2 => by
    have hle := fb_ct_sub (p := p) (q := q) (n := n) (fun i hi => hs i (by omega))
    rw [fb_ct_succ, fb_ct_succ]
    by_cases e : k = n
    · subst e
      rw [h1, h2]; simp; omega
    · have := fb_lt (n := n) (fun i hi => hs i (by omega)) (show k < n by omega) h1 h2
      have h3 : (if p n = true then 1 else 0) ≤ (if q n = true then 1 else 0) := by
        cases hp : p n
        · simp
        · rw [hs n (by omega) hp]; simp
      omega
theorem cnt_lt {x y : Int32} (hx : hi0 x) (hy : hi0 y) (hs : ∀ i, i < 16 → bt x i = true → bt y i = true) (hne : ¬ y = x) : cnt x < cnt y := by
  have : exn (fun i => bt y i && !bt x i) 16 = true := by
    cases e : exn (fun i => bt y i && !bt x i) 16
    · exact absurd (b_ext (fun i hi => by
        by_cases h16 : i < 16
        · have h1 := exn_no.mp e i h16
          cases h2 : bt x i
          · rw [h2] at h1; simpa using h1
          · exact hs i h16 h2
        · rw [hx i (by omega) hi, hy i (by omega) hi])) hne
    · rfl
  obtain ⟨k, h1, h2⟩ := exn_iff.mp this
  rw [Bool.and_eq_true] at h2
  exact fb_lt hs h1 h2.1 (by simpa using h2.2)
theorem cnt_0 {x : Int32} (h : ¬ x = 0) (hi : hi0 x) : 1 ≤ cnt x := by
  have := i0_ex hi
  rw [decide_eq_false h] at this
  have h2 : exn (bt x) 16 = true := by cases e : exn (bt x) 16; rw [e] at this; cases this; rfl
  obtain ⟨k, h1, h3⟩ := exn_iff.mp h2
  exact fb_ct_pos.mpr ⟨k, h1, h3⟩
theorem cnt_le (x : Int32) : cnt x ≤ 16 := fb_ct_le _ 16
theorem bt_grC {C : Nat → Nat → Int32} {F s : Int32} {i : Nat} : bt (grC C F s) i = (bt s i || exn (fun c => bt s c && (bt (bd C c 1) i && bt F i)) 16) := by
  unfold grC
  rw [bt_gath]
  congr 1
  exact exn_cong (fun c _ => by rw [b_and])
def rFl (M : Nat → Nat → Int32) (f t : Nat) (a : Nat) : Bool := !decide (M 3 (21 + a) = -1) && (decide (M 3 (117 + a) = 4) && (decide (M 3 (133 + a) = nI f) && (decide (M 3 (149 + a) = nI t) && !bt (M 29 0) a)))
section
variable {C S M : Nat → Nat → Int32} {n : Nat}
theorem psg1 (hc : cpS C S M n) {a : Nat} (ha : a < 16) : psg M a 1 = bd C a 1 := by
  show M 1 (82 + a) = C 8 a
  exact hc.fl ha
theorem wid_grC (hc : cpS C S M n) {F s : Int32} (hF : ∀ i, i < 32 → bt F i = true → i < n) (hs : ∀ i, i < 32 → bt s i = true → bt F i = true) : osit (stRW M s 1) 0 n s &&& F = grC C F s := by
  refine b_ext (fun i hi => ?_)
  rw [b_and, bt_grC]
  have e : bt (osit (stRW M s 1) 0 n s) i = (bt s i || exn (fun c => bt s c && bt (psg M c 1) i) n) := bt_gath (P := bt s) (f := fun c => psg M c 1) (g0 := s) (i := i) (n := n)
  rw [e]
  have e2 : exn (fun c => bt s c && bt (psg M c 1) i) n = exn (fun c => bt s c && bt (bd C c 1) i) 16 := by
    rw [Bool.eq_iff_iff, exn_iff, exn_iff]
    constructor
    · rintro ⟨c, h1, h2⟩
      have := hc.n16
      exact ⟨c, by omega, by rw [psg1 hc (by omega)] at h2; exact h2⟩
    · rintro ⟨c, h1, h2⟩
      have h3 := h2
      rw [Bool.and_eq_true] at h3
      exact ⟨c, hF c (by omega) (hs c (by omega) h3.1), by rw [psg1 hc h1]; exact h2⟩
  rw [e2]
  have e3 : exn (fun c => bt s c && (bt (bd C c 1) i && bt F i)) 16 = (exn (fun c => bt s c && bt (bd C c 1) i) 16 && bt F i) := by
    cases hf : bt F i
    · rw [Bool.and_false]
      exact exn_no.mpr (fun c _ => by simp)
    · rw [Bool.and_true]
      exact exn_cong (fun c _ => by simp)
  rw [e3]
  cases hsi : bt s i
  · simp
  · rw [hs i hi hsi]; simp
theorem grC_sub {F s : Int32} (hs : ∀ i, i < 32 → bt s i = true → bt F i = true) : ∀ i, i < 32 → bt (grC C F s) i = true → bt F i = true := fun i hi h => by
  rw [bt_grC] at h
  cases h1 : bt s i
  · rw [h1, Bool.false_or] at h
    obtain ⟨c, _, h2⟩ := exn_iff.mp h
    rw [Bool.and_eq_true, Bool.and_eq_true] at h2
    exact h2.2.2
  · exact hs i hi h1
theorem grC_inf {F s : Int32} : ∀ i, i < 16 → bt s i = true → bt (grC C F s) i = true := fun i _ h => by rw [bt_grC, h]; rfl
theorem hi0_F {F s : Int32} (hF : ∀ i, i < 32 → bt F i = true → i < n) (h16 : n ≤ 16) (hs : ∀ i, i < 32 → bt s i = true → bt F i = true) : hi0 s := fun i h1 h2 => by
  cases e : bt s i
  · rfl
  · have := hF i h2 (hs i h2 e); omega
end
theorem bset_or {P : Nat → Bool} {a : Nat} : (if P a = true then bset P a ||| osshl (1 : Int32) (nI a) else bset P a) = bset P (a + 1) := (bset_succ P a).symm
def rPa (M : Nat → Nat → Int32) (v : Bool) (i : Nat) : Bool := decide (M 25 i = 0) || (decide (M 27 0 = 0) && v)
/-- something said of the moves, by their numbers -/
def pI (S : Nat → Nat → Int32) (p : Nat → Bool) (i : Nat) : Bool := exn (fun a => mv S a && (decide (ix S a = i) && p a)) 16
theorem pI_ix {S : Nat → Nat → Int32} {p : Nat → Bool} {a : Nat} (ha : a < 16) (hm : mv S a = true) : pI S p (ix S a) = p a := by
  unfold pI
  cases hp : p a
  · refine exn_no.mpr (fun b hb => ?_)
    cases hmb : mv S b
    · rfl
    · by_cases e : ix S b = ix S a
      · rw [(ix_inj hmb hm).mp e, hp]; simp
      · rw [decide_eq_false e]; rfl
  · exact exn_iff.mpr ⟨a, ha, by rw [hm, hp]; simp⟩
