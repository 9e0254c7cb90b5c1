/-! Judge: what weigh finds (by program) -/
/-- some place below n -/
def exn (P : Nat → Bool) : Nat → Bool
  | 0 => false
  | n + 1 => exn P n || P n
theorem exn_iff {P : Nat → Bool} : ∀ {n : Nat}, exn P n = true ↔ ∃ a, a < n ∧ P a = true
  | 0 => by simp [exn]
  | n + 1 => by
    unfold exn
    rw [Bool.or_eq_true, exn_iff (n := n)]
    constructor
    · rintro (⟨a, h1, h2⟩ | h)
      · exact ⟨a, by omega, h2⟩
      · exact ⟨n, by omega, h⟩
    · rintro ⟨a, h1, h2⟩
      by_cases e : a = n
      · subst e; exact Or.inr h2
      · exact Or.inl ⟨a, by omega, h2⟩
theorem exn_no {P : Nat → Bool} {n : Nat} : exn P n = false ↔ ∀ a, a < n → P a = false := by
  constructor
  · intro h a ha
    cases e : P a
    · rfl
    · have := exn_iff.mpr ⟨a, ha, e⟩
      rw [h] at this; cases this
  · intro h
    cases e : exn P n
    · rfl
    · obtain ⟨a, h1, h2⟩ := exn_iff.mp e
      rw [h a h1] at h2; cases h2
theorem exn_cong {P Q : Nat → Bool} : ∀ {n : Nat}, (∀ a, a < n → P a = Q a) → exn P n = exn Q n
  | 0, _ => rfl
  | n + 1, h => by unfold exn; rw [exn_cong (fun a ha => h a (by omega)), h n (by omega)]
theorem bt_gath {P : Nat → Bool} {f : Nat → Int32} {g0 : Int32} {i : Nat} : ∀ {n : Nat}, bt (osit (fun c g => if P c = true then g ||| f c else g) 0 n g0) i = (bt g0 i || exn (fun c => P c && bt (f c) i) n)
  | 0 => by rw [osit_zero]; simp [exn]
  | n + 1 => by
    rw [osit_last, Nat.zero_add]
    unfold exn
    by_cases hp : P n = true
    · rw [if_pos hp, b_or, bt_gath, hp]; simp [Bool.or_assoc]
    · rw [if_neg hp, bt_gath]; simp at hp; rw [hp]; simp
theorem i0_ex {x : Int32} (h : hi0 x) : decide (x = 0) = !exn (bt x) 16 := by
  cases e : exn (bt x) 16
  · have : x = 0 := b_ext (fun i hi => by
      rw [b_0]
      by_cases h16 : i < 16
      · exact exn_no.mp e i h16
      · exact h i (by omega) hi)
    simp [this]
  · obtain ⟨a, h1, h2⟩ := exn_iff.mp e
    have : ¬ x = 0 := fun q => by rw [q, b_0] at h2; cases h2
    simp [this]
theorem hi0_of {x : Int32} {P : Nat → Bool} (h : ∀ i, i < 32 → bt x i = (decide (i < 16) && P i)) : hi0 x := fun i h1 h2 => by
  rw [h i h2]; simp; omega
theorem cnt_of {x : Int32} {P : Nat → Bool} (h : ∀ i, i < 32 → bt x i = (decide (i < 16) && P i)) : cnt x = fb_ct P 16 := fb_ct_cong (fun i hi => by rw [h i (by omega)]; simp [hi])
theorem bset_of {x : Int32} {P : Nat → Bool} (h : ∀ i, i < 32 → bt x i = (decide (i < 16) && P i)) : x = bset P 16 := b_ext (fun i hi => by rw [h i hi, b_bset P (by omega) hi])
def disl (S : Nat → Nat → Int32) (X : Nat → Bool) (b : Nat) : Bool := uu S b && (!X b && exn (fun a => X a && decide (gof S a = b)) 16)
def grC (C : Nat → Nat → Int32) (F s : Int32) : Int32 := osit (fun c g => if bt s c = true then g ||| (bd C c 1 &&& F) else g) 0 16 s
def flt (C S : Nat → Nat → Int32) (X : Nat → Bool) (a : Nat) : Int32 := bset (fun i => cvy C S a i && !disl S X i) 16
def carS (C S : Nat → Nat → Int32) (X : Nat → Bool) (a : Nat) : Bool := !decide (fixi (grC C (flt C S X a)) 16 (flt C S X a &&& bd C a 1) &&& bd C (gof S a) 1 = 0)
def pth (C S : Nat → Nat → Int32) (sea : Bool) (X : Nat → Bool) (a : Nat) : Bool := dm C S a || (sea && (mv S a && carS C S X a))
def gvn (C S : Nat → Nat → Int32) (sea : Bool) (X : Nat → Bool) (a : Nat) : Bool := blg S a && (!disl S X a && !exn (fun c => cutt S a c && pth C S sea X c) 16)
theorem b_not {x : Int32} {i : Nat} (hi : i < 32) : bt (x ^^^ (-1 : Int32)) i = !bt x i := by rw [b_xor, b_m1 _ hi]; simp
theorem fixi_0 {w : Int32 → Int32} (h : w 0 = 0) : ∀ k, fixi w k 0 = 0
  | 0 => rfl
  | k + 1 => by unfold fixi; rw [if_pos h]
theorem grC_0 {C : Nat → Nat → Int32} {F : Int32} : grC C F 0 = 0 := b_ext (fun i _ => by
  unfold grC
  rw [bt_gath, b_0]
  simp
  rw [exn_no]
  intro a _
  rw [b_0]; simp)
theorem carS_0 {C S : Nat → Nat → Int32} {X : Nat → Bool} {a : Nat} (h : flt C S X a = 0) : carS C S X a = false := by
  unfold carS
  rw [h, show (0 : Int32) &&& bd C a 1 = 0 from b_ext (fun i _ => by rw [b_and, b_0, Bool.false_and]), fixi_0 grC_0, show (0 : Int32) &&& bd C (gof S a) 1 = 0 from b_ext (fun i _ => by rw [b_and, b_0, Bool.false_and])]
  simp
section
variable {C S L J : Nat → Nat → Int32} {o : Int32} {sea : Bool}
theorem wg_6 (hk : LK C S L) (ho : okO S) (hX : ∀ i, i < 16 → bt o i = true → mv S i = true) {i : Nat} (hi : i < 32) : bt (wgh0 L J o 6 0) i = (decide (i < 16) && disl S (bt o) i) := by
  show bt ((jEnt L o &&& L 0 0) &&& (o ^^^ (-1 : Int32))) i = _
  rw [b_and, b_and, b_not hi, hk.u hi]
  unfold jEnt
  have e : bt (osit (stEn L o) 0 16 0) i = exn (fun a => bt o a && decide (gof S a = i)) 16 := by
    have := bt_gath (P := bt o) (f := L 6) (g0 := 0) (i := i) (n := 16)
    rw [b_0, Bool.false_or] at this
    refine Eq.trans this (exn_cong (fun a ha => ?_))
    cases ex : bt o a
    · rfl
    · have hm := hX a ha ex
      rw [hk.goal ha, if_pos hm, Bool.true_and, Bool.true_and]
      rw [b_sg (show gof S a < 32 by have := (mv_g ho ha hm).2; omega) hi]
      by_cases q : i = gof S a
      · simp [q]
      · have : ¬ gof S a = i := fun e => q e.symm
        simp [q, this]
  rw [e]
  unfold disl
  cases uu S i <;> cases bt o i <;> cases decide (i < 16) <;> simp
end
section
variable {C S L J : Nat → Nat → Int32} {o : Int32} {sea : Bool}
theorem jCar_6 {J' : Nat → Nat → Int32} {a : Nat} (h : J 6 = J' 6) : jCar L J a = jCar L J' a := by unfold jCar jFl; rw [h]
theorem jFl_eq (hk : LK C S L) (hd : ∀ i, i < 32 → bt (J 6 0) i = (decide (i < 16) && disl S (bt o) i)) {a : Nat} (ha : a < 16) : jFl L J a = flt C S (bt o) a := by
  unfold jFl flt
  refine bset_of (fun i hi => ?_)
  rw [b_and, hk.cv ha hi, b_not hi, hd i hi]
  cases decide (i < 16) <;> cases cvy C S a i <;> cases disl S (bt o) i <;> rfl
theorem grw_eq (hk : LK C S L) {F s : Int32} : grw L F s = grC C F s := by
  unfold grw grC
  refine osit_congr (fun c g _ hc => ?_)
  unfold stGr
  rw [hk.wa (by omega)]
theorem fixi_cong {w v : Int32 → Int32} (h : ∀ s, w s = v s) : ∀ k s, fixi w k s = fixi v k s := fun k s => by rw [show w = v from funext h]
theorem jCar_eq (hk : LK C S L) (hd : ∀ i, i < 32 → bt (J 6 0) i = (decide (i < 16) && disl S (bt o) i)) {a : Nat} (ha : a < 16) (hm : mv S a = true) : jCar L J a = carS C S (bt o) a := by
  unfold jCar carS
  rw [jFl_eq hk hd ha, hk.bo ha hm, hk.la ha hm, fixi_cong (fun s => grw_eq hk)]
theorem cvy_mv {f a : Nat} (h : cvy C S f a = true) : mv S f = true := by
  unfold cvy at h
  simp at h
  exact h.2.2.2.1
theorem w1_eq (hk : LK C S L) (hd : ∀ i, i < 32 → bt (J 6 0) i = (decide (i < 16) && disl S (bt o) i)) {a : Nat} (ha : a < 16) : (!decide (L 12 a = 0) && jCar L J a) = (mv S a && carS C S (bt o) a) := by
  have h12 : decide (L 12 a = 0) = !exn (bt (L 12 a)) 16 := i0_ex (hi0_of (fun i hi => hk.cv ha hi))
  by_cases hz : L 12 a = 0
  · have : flt C S (bt o) a = 0 := by
      rw [← jFl_eq hk hd ha]
      unfold jFl
      rw [hz]
      exact b_ext (fun i _ => by rw [b_and, b_0, Bool.false_and])
    rw [carS_0 this]
    simp [hz]
  · have hm : mv S a = true := by
      have e : exn (bt (L 12 a)) 16 = true := by
        rw [decide_eq_false hz] at h12
        cases q : exn (bt (L 12 a)) 16
        · rw [q] at h12; cases h12
        · rfl
      obtain ⟨i, h1, h2⟩ := exn_iff.mp e
      rw [hk.cv ha (by omega)] at h2
      simp at h2
      exact cvy_mv h2.2
    rw [jCar_eq hk hd ha hm, hm]
    simp [hz]
/-- what stands after weigh -/
theorem stW1_row {W : Nat → Nat → Int32} {a k : Nat} (h : k ≠ 2) : stW1 L a W k = W k := by
  unfold stW1
  split
  · rfl
  · split
    · rfl
    · split
      · exact cset_ne h
      · rfl
theorem stW2_row {W : Nat → Nat → Int32} {a k : Nat} (h : k ≠ 3) : stW2 L a W k = W k := by
  unfold stW2
  split
  · split
    · exact cset_ne h
    · rfl
  · rfl
theorem wgh_keep {k : Nat} (h : k ≠ 2 ∧ k ≠ 3) : wgh L J o k = wgh0 L J o k := by
  unfold wgh
  rw [osit_row (fun a W => stW2_row h.2), osit_row (fun a W => stW1_row h.1)]
theorem wgh_5 : wgh L J o 5 0 = o := by rw [wgh_keep (by omega)]; rfl
theorem wgh_1 : wgh L J o 1 = J 1 := by rw [wgh_keep (by omega)]; rfl
theorem wgh_4 : wgh L J o 4 = J 4 := by rw [wgh_keep (by omega)]; rfl
theorem wgh_7 : wgh L J o 7 = J 7 := by rw [wgh_keep (by omega)]; rfl
theorem wgh_6 (hk : LK C S L) (ho : okO S) (hX : ∀ i, i < 16 → bt o i = true → mv S i = true) {i : Nat} (hi : i < 32) : bt (wgh L J o 6 0) i = (decide (i < 16) && disl S (bt o) i) := by
  rw [wgh_keep (by omega)]; exact wg_6 hk ho hX hi
theorem W1_2 {V W : Nat → Nat → Int32} {a : Nat} (h : W 1 = V 1 ∧ W 6 = V 6) : stW1 L a W 2 = rA (fun a => !decide (V 1 0 = 0) && (!decide (L 12 a = 0) && jCar L V a)) a (W 2) := by
  unfold stW1 rA
  rw [h.1, jCar_6 h.2]
  by_cases h1 : V 1 0 = 0
  · simp [h1]
  · by_cases h2 : L 12 a = 0
    · simp [h1, h2]
    · cases h3 : jCar L V a <;> simp [h1, h2, h3, cset]
theorem W1_I {V W : Nat → Nat → Int32} {a : Nat} (h : W 1 = V 1 ∧ W 6 = V 6) : stW1 L a W 1 = V 1 ∧ stW1 L a W 6 = V 6 := by
  unfold stW1
  split
  · exact h
  · split
    · exact h
    · split
      · exact h
      · exact h
theorem W2_3 {V W : Nat → Nat → Int32} {a : Nat} (h : W 2 = V 2 ∧ W 6 = V 6) : stW2 L a W 3 = rA (fun a => bt (L 5 0 &&& (V 6 0 ^^^ (-1 : Int32))) a && decide (L 11 a &&& V 2 0 = 0)) a (W 3) := by
  unfold stW2 rA
  rw [h.1, h.2]
  by_cases h1 : bt (L 5 0 &&& (V 6 0 ^^^ (-1 : Int32))) a = true
  · by_cases h2 : L 11 a &&& V 2 0 = 0
    · rw [if_pos h1, if_pos h2, if_pos (by show (bt (L 5 0 &&& (V 6 0 ^^^ (-1 : Int32))) a && decide (L 11 a &&& V 2 0 = 0)) = true; rw [h1, decide_eq_true h2]; rfl)]; rfl
    · rw [if_pos h1, if_neg h2, if_neg (by show ¬ (bt (L 5 0 &&& (V 6 0 ^^^ (-1 : Int32))) a && decide (L 11 a &&& V 2 0 = 0)) = true; rw [h1, decide_eq_false h2]; decide)]
  · rw [if_neg h1, if_neg (fun q => h1 (by rw [Bool.and_eq_true] at q; exact q.1))]
theorem W2_I {V W : Nat → Nat → Int32} {a : Nat} (h : W 2 = V 2 ∧ W 6 = V 6) : stW2 L a W 2 = V 2 ∧ stW2 L a W 6 = V 6 := by
  unfold stW2
  split
  · split
    · exact h
    · exact h
  · exact h
theorem wgh_2 (hk : LK C S L) (ho : okO S) (hs : J 1 0 = b2i sea) (hX : ∀ i, i < 16 → bt o i = true → mv S i = true) {i : Nat} (hi : i < 32) : bt (wgh L J o 2 0) i = (decide (i < 16) && pth C S sea (bt o) i) := by
  unfold wgh
  rw [osit_row (j := 2) (fun a W => stW2_row (by omega))]
  rw [osit_pr (r := fun a f => rA (fun a => !decide (wgh0 L J o 1 0 = 0) && (!decide (L 12 a = 0) && jCar L (wgh0 L J o) a)) a f) (fun W => W 1 = wgh0 L J o 1 ∧ W 6 = wgh0 L J o 6) (fun a W h => W1_I h) (fun a W h => W1_2 h) ⟨rfl, rfl⟩, bt_rA (by omega) hi]
  have e1 : wgh0 L J o 1 0 = b2i sea := hs
  have e2 : bt (wgh0 L J o 2 0) i = (decide (i < 16) && dm C S i) := hk.d hi
  rw [e1, e2]
  by_cases h16 : i < 16
  · rw [w1_eq hk (fun k hk9 => wg_6 hk ho hX hk9) h16]
    unfold pth
    cases sea <;> simp [h16, b2i]
  · simp [h16]
theorem wgh_3 (hk : LK C S L) (ho : okO S) (hs : J 1 0 = b2i sea) (hX : ∀ i, i < 16 → bt o i = true → mv S i = true) {i : Nat} (hi : i < 32) : bt (wgh L J o 3 0) i = (decide (i < 16) && gvn C S sea (bt o) i) := by
  have h2 : ∀ k, k < 32 → bt (wgh L J o 2 0) k = (decide (k < 16) && pth C S sea (bt o) k) := fun k hk9 => wgh_2 hk ho hs hX hk9
  have h6 : ∀ k, k < 32 → bt (wgh L J o 6 0) k = (decide (k < 16) && disl S (bt o) k) := fun k hk9 => wgh_6 hk ho hX hk9
  have e2 : wgh L J o 2 = (osit (fun a W => stW1 L a W) 0 16 (wgh0 L J o)) 2 := by
    unfold wgh
    exact osit_row (j := 2) (fun a W => stW2_row (by omega))
  have e6 : wgh L J o 6 = (osit (fun a W => stW1 L a W) 0 16 (wgh0 L J o)) 6 := by
    unfold wgh
    exact osit_row (j := 6) (fun a W => stW2_row (by omega))
  rw [e2] at h2
  rw [e6] at h6
  have e3 : (osit (fun a W => stW1 L a W) 0 16 (wgh0 L J o)) 3 0 = 0 := by
    rw [osit_row (j := 3) (fun a W => stW1_row (by omega))]
    rfl
  unfold wgh
  generalize osit (fun a W => stW1 L a W) 0 16 (wgh0 L J o) = V at h2 h6 e3 ⊢
  rw [osit_pr (r := fun a f => rA (fun a => bt (L 5 0 &&& (V 6 0 ^^^ (-1 : Int32))) a && decide (L 11 a &&& V 2 0 = 0)) a f) (fun W => W 2 = V 2 ∧ W 6 = V 6) (fun a W h => W2_I h) (fun a W h => W2_3 h) ⟨rfl, rfl⟩, bt_rA (by omega) hi, e3, b_0, Bool.false_or]
  by_cases h16 : i < 16
  · rw [b_and, b_not hi, hk.bl hi, h6 i hi]
    have e : decide (L 11 i &&& V 2 0 = 0) = !exn (bt (L 11 i &&& V 2 0)) 16 := i0_ex (and_hi (fun k h1 h2 => by rw [hk.cu h16 h2, decide_eq_false (show ¬ k < 16 by omega), Bool.false_and, Bool.and_false]))
    rw [e]
    unfold gvn
    cases hb : blg S i
    · simp
    · have : exn (bt (L 11 i &&& V 2 0)) 16 = exn (fun c => cutt S i c && pth C S sea (bt o) c) 16 := exn_cong (fun c hc => by rw [b_and, hk.cu h16 (by omega), h2 c (by omega), hb]; simp [hc])
      rw [this]
      simp [h16]
  · simp [h16]
end
