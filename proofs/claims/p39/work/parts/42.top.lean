/-! the smallest functions, as numbers -/
section
variable {α β : Type} {G : osG} {z : osS} {Q : α → osS → Prop}
theorem gx_recvE {cis : List Nat} {b c : Nat} {fs : List Value} {g : osM β} {f : β → osM α} {v : β} {z1 : osS} (h : z.1 b = some (.inr (c, fs))) (hc : c ∈ cis) (hg : g G z = some (v, z1)) (kk : gx (f v G z1) Q) : gx (osbind (osrecv cis b g) f G z) Q :=
  gx_bind (gx_recv h hc ⟨v, z1, hg, kk⟩)
theorem gx_recvC {Q1 : β → osS → Prop} {cis : List Nat} {b c : Nat} {fs : List Value} {g : osM β} {f : β → osM α} (h : z.1 b = some (.inr (c, fs))) (hc : c ∈ cis) (hg : gx (g G z) Q1) (kk : ∀ v z1, Q1 v z1 → gx (f v G z1) Q) : gx (osbind (osrecv cis b g) f G z) Q :=
  gx_bind (gx_recv h hc (gx_mono hg kk))
theorem gx_aN {t a n i : Nat} {g : Nat → Int32} {f : Int32 → osM α} (h : z.1 a = some (.inl (t, (n, .inl g)))) (hi : i < n) (hn : n < 2 ^ 31) (kk : gx (f (g i) G z) Q) : gx (osbind (osaI t a (nI i)) f G z) Q :=
  gx_aI h (nI_in hi hn) (by rw [nI_clamp (by omega)]; exact kk)
theorem gx_aNJ {t a n i : Nat} {g : Nat → Int64} {f : Int64 → osM α} (h : z.1 a = some (.inl (t, (n, .inr (.inl g))))) (hi : i < n) (hn : n < 2 ^ 31) (kk : gx (f (g i) G z) Q) : gx (osbind (osaJ t a (nI i)) f G z) Q :=
  gx_aJ h (nI_in hi hn) (by rw [nI_clamp (by omega)]; exact kk)
theorem gx_sN {t a n i : Nat} {v : Int32} {g : Nat → Int32} {f : Unit → osM α} (h : z.1 a = some (.inl (t, (n, .inl g)))) (hi : i < n) (hn : n < 2 ^ 31) (hA : G.2.2.1 ≤ a) (kk : gx (f () G (osup z a (.inl (t, (n, .inl (upd g i v)))))) Q) : gx (osbind (ossI t a (nI i) v) f G z) Q :=
  gx_sI h (nI_in hi hn) hA (by rw [nI_clamp (by omega)]; exact kk)
theorem gx_sNJ {t a n i : Nat} {v : Int64} {g : Nat → Int64} {f : Unit → osM α} (h : z.1 a = some (.inl (t, (n, .inr (.inl g))))) (hi : i < n) (hn : n < 2 ^ 31) (hA : G.2.2.1 ≤ a) (kk : gx (f () G (osup z a (.inl (t, (n, .inr (.inl (vp_updL g i v))))))) Q) : gx (osbind (ossJ t a (nI i) v) f G z) Q :=
  gx_sJ h (nI_in hi hn) hA (by rw [nI_clamp (by omega)]; exact kk)
end
def b2i (b : Bool) : Int32 := if b then 1 else 0
theorem b2i_0 {b : Bool} : b2i b = 0 ↔ b = false := by cases b <;> decide
theorem b2i_n0 {b : Bool} (h : ¬ b2i b = 0) : b = true := by
  cases b
  · exact absurd rfl h
  · rfl
theorem b2i_01 (b : Bool) : b2i b = 0 ∨ b2i b = 1 := by cases b <;> decide
theorem b2i_t : b2i true = 1 := rfl
theorem b2i_f : b2i false = 0 := rfl
/-- an array's entry, -1 beyond its ends -/
def en (f : Nat → Int32) (n : Nat) (v : Int32) : Int32 := if osin v n then f v.toNatClampNeg else -1
theorem en_in {f : Nat → Int32} {n i : Nat} (h : i < n) (hn : n < 2 ^ 31) : en f n (nI i) = f i := by
  unfold en
  rw [if_pos (nI_in h hn), nI_clamp (by omega)]
theorem en_m1 {f : Nat → Int32} {n : Nat} : en f n (-1) = -1 := by
  unfold en
  rw [if_neg (fun h => h (Or.inl (by decide)))]
theorem en_out {f : Nat → Int32} {n i : Nat} (h : n ≤ i) (hi : i < 2 ^ 31) : en f n (nI i) = -1 := by
  unfold en
  rw [if_neg (fun h9 => h9 (Or.inr (by rw [nI_clamp hi]; exact h)))]
theorem q_entry {G : osG} {z : osS} {N a n : Nat} {f : Nat → Int32} {v : Int32} (h : z.1 a = some (.inl (0, (n, .inl f)))) (hn : n < 2 ^ 31) : qX9_entry N a v G z = some (en f n v, z) := by
  refine gx_eq ?_
  unfold qX9_entry qX9_entry_16 qX9_entry_17
  refine gx_ite (fun h1 => ?_) (fun h1 => ?_)
  · exact gx_ret ⟨by unfold en; rw [if_neg (fun h => h (Or.inl h1))], rfl⟩
  · obtain ⟨j, hj, rfl⟩ := nI_of h1
    refine gx_len h ?_
    refine gx_ite (fun h2 => ?_) (fun h2 => ?_)
    · exact gx_ret ⟨(en_out ((nI_leI hn hj).mp h2) hj).symm, rfl⟩
    · have h3 : j < n := Nat.not_le.mp (fun q => h2 ((nI_leI hn hj).mpr q))
      exact gx_aI h (nI_in h3 hn) (gx_ret ⟨by rw [en_in h3 hn, nI_clamp hj], rfl⟩)
/-- whether v is in the set s -/
def hsv (s v : Int32) : Bool := !decide (v < 0) && !decide ((osshr s v) &&& 1 = 0)
theorem q_has {G : osG} {z : osS} {N : Nat} {s v : Int32} : qX9_has N s v G z = some (b2i (hsv s v), z) := by
  refine gx_eq ?_
  unfold qX9_has qX9_has_16 qX9_has_17
  refine gx_ite (fun h1 => ?_) (fun h1 => gx_ite (fun h2 => ?_) (fun h2 => ?_))
  · exact gx_retZ (Or.inl rfl) ⟨by simp [hsv, h1, b2i], rfl⟩
  · exact gx_retZ (Or.inl rfl) ⟨by simp [hsv, h2, b2i], rfl⟩
  · exact gx_retZ (Or.inr rfl) ⟨by simp [hsv, h1, h2, b2i], rfl⟩
theorem b_one (i : Nat) : bt 1 i = decide (i = 0) := by
  rcases Nat.lt_or_ge i 32 with h | h
  · exact (by decide +kernel : ∀ i, i < 32 → bt 1 i = decide (i = 0)) i h
  · rw [b_big h, decide_eq_false (by omega)]
theorem and1 (x : Int32) : (x &&& 1 = 0) ↔ bt x 0 = false := by
  constructor
  · intro h
    have := congrArg (fun y => bt y 0) h
    simpa [b_and, b_one, b_0] using this
  · intro h
    refine b_ext (fun i _ => ?_)
    rw [b_and, b_one, b_0]
    by_cases hi : i = 0
    · subst hi; simp [h]
    · simp [hi]
theorem hsv_nI {s : Int32} {i : Nat} (hi : i < 32) : hsv s (nI i) = bt s i := by
  unfold hsv osshr
  have h1 : ¬ nI i < 0 := nI_pos (by omega)
  have h2 : bt (s >>> (nI i &&& 31)) 0 = bt s i := by
    rw [b_sshr i hi s (by decide)]
    rw [if_pos (by omega), Nat.add_zero]
  have h3 := and1 (s >>> (nI i &&& 31))
  rw [h2] at h3
  cases hb : bt s i
  · rw [hb] at h3; simp [h1, h3.mpr rfl]
  · rw [hb] at h3
    have : ¬ ((s >>> (nI i &&& 31)) &&& 1 = 0) := fun q => by simpa using h3.mp q
    simp [h1, this]
theorem hsv_m1 {s : Int32} : hsv s (-1) = false := by
  have : ((-1 : Int32) < 0) := by decide
  simp [hsv, this]
/-- the set of one area -/
def sg (i : Nat) : Int32 := osshl 1 (nI i)
theorem q_bit {G : osG} {z : osS} {N i : Nat} (hi : i < 32) : qX9_bit N (nI i) G z = some (sg i, z) := by
  refine gx_eq ?_
  unfold qX9_bit qX9_bit_11
  refine gx_ite (fun h1 => gx_ret ⟨rfl, rfl⟩) (fun h1 => absurd (nI_pos' (by omega)) h1)
theorem q_bit_m1 {G : osG} {z : osS} {N : Nat} : qX9_bit N (-1) G z = some (0, z) := by
  refine gx_eq ?_
  unfold qX9_bit qX9_bit_11
  exact gx_ite (fun h1 => absurd h1 (by decide)) (fun h1 => gx_ret ⟨rfl, rfl⟩)
theorem b_sg {i j : Nat} (hi : i < 32) (hj : j < 32) : bt (sg i) j = decide (j = i) := by
  unfold sg osshl
  rw [b_shl i hi 1 hj, b_one]
  by_cases h : i ≤ j
  · simp [h]; omega
  · simp [h]; omega
theorem osin_of {v : Int32} {n : Nat} {m : Int32} (hm : m = nI n) (hn : n < 2 ^ 31) (h1 : ¬ v < 0) (h2 : v < m) : osin v n := by
  obtain ⟨j, hj, rfl⟩ := nI_of h1
  rw [hm] at h2
  exact nI_in ((nI_ltI hj hn).mp h2) hn
theorem and_sg {x : Int32} {j : Nat} (hj : j < 32) : (x &&& sg j = 0) ↔ bt x j = false := by
  constructor
  · intro h
    have := congrArg (fun y => bt y j) h
    simpa [b_and, b_sg hj hj, b_0] using this
  · intro h
    refine b_ext (fun i hi => ?_)
    rw [b_and, b_sg hj hi, b_0]
    by_cases he : i = j
    · subst he; simp [h]
    · simp [he]
