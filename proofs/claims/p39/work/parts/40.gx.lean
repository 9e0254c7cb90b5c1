/-! the plain functions run: what a function answers, and the memory behind it -/
def gx {α : Type} (r : Option (α × osS)) (Q : α → osS → Prop) : Prop := ∃ a z, r = some (a, z) ∧ Q a z
section GX
variable {α β : Type} {G : osG} {z : osS} {Q : α → osS → Prop} {Q1 : β → osS → Prop}
theorem gx_mono {r : Option (α × osS)} {Q Q' : α → osS → Prop} (h : gx r Q) (k : ∀ a z, Q a z → Q' a z) : gx r Q' := by
  obtain ⟨a, z, h1, h2⟩ := h; exact ⟨a, z, h1, k a z h2⟩
theorem gx_some {a : α} (h : Q a z) : gx (some (a, z)) Q := ⟨a, z, rfl, h⟩
theorem gx_eq {r : Option (α × osS)} {v : α} {z1 : osS} (h : gx r (fun a z' => a = v ∧ z' = z1)) : r = some (v, z1) := by
  obtain ⟨a, z, h1, rfl, rfl⟩ := h; exact h1
theorem gx_of {r : Option (α × osS)} {v : α} {z1 : osS} (h : r = some (v, z1)) (q : Q v z1) : gx r Q := ⟨v, z1, h, q⟩
theorem gx_bind {m : osM β} {f : β → osM α} (h : gx (m G z) (fun a z1 => gx (f a G z1) Q)) : gx (osbind m f G z) Q := by
  obtain ⟨b, z1, h1, a, z2, h2, h3⟩ := h
  exact ⟨a, z2, by unfold osbind; rw [h1]; exact h2, h3⟩
theorem gx_call {m : osM β} {f : β → osM α} (h : gx (m G z) Q1) (k : ∀ b z1, Q1 b z1 → gx (f b G z1) Q) : gx (osbind m f G z) Q := gx_bind (gx_mono h k)
theorem gx_callE {m : osM β} {f : β → osM α} {b : β} {z1 : osS} (h : m G z = some (b, z1)) (k : gx (f b G z1) Q) : gx (osbind m f G z) Q := gx_bind ⟨b, z1, h, k⟩
theorem gx_ret {v : α} (h : Q v z) : gx (osret v G z) Q := ⟨v, z, rfl, h⟩
theorem gx_retb {v : β} {f : β → osM α} (h : gx (f v G z) Q) : gx (osbind (osret v) f G z) Q := gx_bind ⟨v, z, rfl, h⟩
theorem gx_retZ {v : Int32} {Q : Int32 → osS → Prop} (hv : v = 0 ∨ v = 1) (h : Q v z) : gx (osretZ v G z) Q := ⟨v, z, by unfold osretZ; rw [if_pos hv], h⟩
theorem gx_ite {c : Prop} [Decidable c] {t e : osM α} (h1 : c → gx (t G z) Q) (h2 : ¬ c → gx (e G z) Q) : gx (osite c t e G z) Q := by
  unfold osite
  by_cases h : c
  · rw [if_pos h]; exact h1 h
  · rw [if_neg h]; exact h2 h
theorem gx_itet {c : Prop} [Decidable c] {t e : osM α} (h : c) (h1 : gx (t G z) Q) : gx (osite c t e G z) Q := gx_ite (fun _ => h1) (fun q => absurd h q)
theorem gx_itef {c : Prop} [Decidable c] {t e : osM α} (h : ¬ c) (h1 : gx (e G z) Q) : gx (osite c t e G z) Q := gx_ite (fun q => absurd q h) (fun _ => h1)
theorem gx_guard {c : Prop} [Decidable c] {t : osM α} (h : c) (h1 : gx (t G z) Q) : gx (osguard c t G z) Q := by
  unfold osguard; rw [if_pos h]; exact h1
theorem osget_of {cis : List Nat} {k a c : Nat} {fs : List Value} {v : Value} (h : z.1 a = some (.inr (c, fs))) (hc : c ∈ cis) (hk : fs[k]? = some v) : osget cis k a z = some v := by
  unfold osget; rw [h]
  show (if c ∈ cis then fs[k]? else none) = some v
  rw [if_pos hc]; exact hk
theorem gx_gI {cis : List Nat} {k a c : Nat} {fs : List Value} {v : Int32} {f : Int32 → osM α} (h : z.1 a = some (.inr (c, fs))) (hc : c ∈ cis) (hk : fs[k]? = some (.int v)) (kk : gx (f v G z) Q) : gx (osbind (osgI cis k a) f G z) Q :=
  gx_callE (by unfold osgI; rw [osget_of h hc hk]) kk
theorem gx_gJ {cis : List Nat} {k a c : Nat} {fs : List Value} {v : Int64} {f : Int64 → osM α} (h : z.1 a = some (.inr (c, fs))) (hc : c ∈ cis) (hk : fs[k]? = some (.long v)) (kk : gx (f v G z) Q) : gx (osbind (osgJ cis k a) f G z) Q :=
  gx_callE (by unfold osgJ; rw [osget_of h hc hk]) kk
theorem gx_gR {cis : List Nat} {k a c : Nat} {fs : List Value} {v : Nat} {f : Nat → osM α} (h : z.1 a = some (.inr (c, fs))) (hc : c ∈ cis) (hk : fs[k]? = some (.ref v)) (kk : gx (f v G z) Q) : gx (osbind (osgR cis k a) f G z) Q :=
  gx_callE (by unfold osgR; rw [osget_of h hc hk]) kk
theorem gx_put {cis : List Nat} {k a c : Nat} {fs : List Value} {v : Value} {f : Unit → osM α} (h : z.1 a = some (.inr (c, fs))) (hc : c ∈ cis) (hk : k < fs.length) (hA : G.2.2.1 ≤ a) (kk : gx (f () G (osup z a (.inr (c, fs.set k v)))) Q) : gx (osbind (osput cis k a v) f G z) Q :=
  gx_callE (by unfold osput; rw [h]; show (if c ∈ cis ∧ k < fs.length ∧ G.2.2.1 ≤ a then _ else none) = _; rw [if_pos ⟨hc, hk, hA⟩]) kk
theorem osga_of {t a : Nat} {x : vp_A} (h : z.1 a = some (.inl (t, x))) : osga t a z = some x := by
  unfold osga; rw [h]
  show (if t = t then some x else none) = some x
  rw [if_pos rfl]
theorem gx_aI {t a n : Nat} {g : Nat → Int32} {i : Int32} {f : Int32 → osM α} (h : z.1 a = some (.inl (t, (n, .inl g)))) (hi : osin i n) (kk : gx (f (g i.toNatClampNeg) G z) Q) : gx (osbind (osaI t a i) f G z) Q :=
  gx_callE (by unfold osaI; rw [osga_of h]; show (if osin i n then _ else none) = _; rw [if_pos hi]) kk
theorem gx_aJ {t a n : Nat} {g : Nat → Int64} {i : Int32} {f : Int64 → osM α} (h : z.1 a = some (.inl (t, (n, .inr (.inl g))))) (hi : osin i n) (kk : gx (f (g i.toNatClampNeg) G z) Q) : gx (osbind (osaJ t a i) f G z) Q :=
  gx_callE (by unfold osaJ; rw [osga_of h]; show (if osin i n then _ else none) = _; rw [if_pos hi]) kk
theorem gx_sI {t a n : Nat} {g : Nat → Int32} {i v : Int32} {f : Unit → osM α} (h : z.1 a = some (.inl (t, (n, .inl g)))) (hi : osin i n) (hA : G.2.2.1 ≤ a) (kk : gx (f () G (osup z a (.inl (t, (n, .inl (upd g i.toNatClampNeg v)))))) Q) : gx (osbind (ossI t a i v) f G z) Q :=
  gx_callE (by unfold ossI; rw [osga_of h]; show (if osin i n ∧ G.2.2.1 ≤ a then _ else none) = _; rw [if_pos ⟨hi, hA⟩]) kk
theorem gx_sJ {t a n : Nat} {g : Nat → Int64} {i : Int32} {v : Int64} {f : Unit → osM α} (h : z.1 a = some (.inl (t, (n, .inr (.inl g))))) (hi : osin i n) (hA : G.2.2.1 ≤ a) (kk : gx (f () G (osup z a (.inl (t, (n, .inr (.inl (vp_updL g i.toNatClampNeg v))))))) Q) : gx (osbind (ossJ t a i v) f G z) Q :=
  gx_callE (by unfold ossJ; rw [osga_of h]; show (if osin i n ∧ G.2.2.1 ≤ a then _ else none) = _; rw [if_pos ⟨hi, hA⟩]) kk
theorem gx_len {t a : Nat} {x : vp_A} {f : Int32 → osM α} (h : z.1 a = some (.inl (t, x))) (kk : gx (f (Int32.ofNat x.1) G z) Q) : gx (osbind (oslen a) f G z) Q :=
  gx_callE (by unfold oslen; rw [h]) kk
theorem gx_recv {cis : List Nat} {b c : Nat} {fs : List Value} {g : osM α} (h : z.1 b = some (.inr (c, fs))) (hc : c ∈ cis) (kk : gx (g G z) Q) : gx (osrecv cis b g G z) Q := by
  unfold osrecv; rw [h]
  show gx (if c ∈ cis then g G z else none) Q
  rw [if_pos hc]; exact kk
theorem osup_eq {a : Nat} {e : osE} : (osup z a e).1 a = some e := by simp [osup]
theorem osup_ne {a b : Nat} {e : osE} {x : Option osE} (h : b ≠ a) (hz : z.1 b = x) : (osup z a e).1 b = x := by simp [osup, h, hz]
theorem osup_sz {a : Nat} {e : osE} : (osup z a e).2 = z.2 := rfl
end GX
/-- nothing changed outside these addresses -/
def osFr (lo hi : Nat) (z z' : osS) : Prop := (∀ a, a < lo ∨ hi ≤ a → z'.1 a = z.1 a) ∧ z'.2 = z.2
theorem osFr.rf {lo hi : Nat} {z : osS} : osFr lo hi z z := ⟨fun _ _ => rfl, rfl⟩
theorem osFr.tr {lo hi : Nat} {z z1 z2 : osS} (h1 : osFr lo hi z z1) (h2 : osFr lo hi z1 z2) : osFr lo hi z z2 := ⟨fun a ha => (h2.1 a ha).trans (h1.1 a ha), h2.2.trans h1.2⟩
theorem osFr.up {lo hi a : Nat} {z z1 : osS} {e : osE} (h : osFr lo hi z z1) (h1 : lo ≤ a) (h2 : a < hi) : osFr lo hi z (osup z1 a e) := ⟨fun b hb => (osup_ne (by omega) rfl).trans (h.1 b hb), h.2⟩
theorem osFr.wide {lo hi lo' hi' : Nat} {z z1 : osS} (h : osFr lo hi z z1) (h1 : lo' ≤ lo) (h2 : hi ≤ hi') : osFr lo' hi' z z1 := ⟨fun a ha => h.1 a (by omega), h.2⟩
theorem osFr.at {lo hi a : Nat} {z z1 : osS} {x : Option osE} (h : osFr lo hi z z1) (h1 : a < lo ∨ hi ≤ a) (hx : z.1 a = x) : z1.1 a = x := (h.1 a h1).trans hx
/-! loops -/
/-- a step done for i, i + 1, .., i + k - 1 -/
def osit {α : Type} (step : Nat → α → α) : Nat → Nat → α → α
  | _, 0, a => a
  | i, k + 1, a => osit step (i + 1) k (step i a)
theorem osit_zero {α : Type} {step : Nat → α → α} {i : Nat} {a : α} : osit step i 0 a = a := rfl
theorem osit_succ {α : Type} {step : Nat → α → α} {i k : Nat} {a : α} : osit step i (k + 1) a = osit step (i + 1) k (step i a) := rfl
theorem osit_last {α : Type} {step : Nat → α → α} : ∀ {k i : Nat} {a : α}, osit step i (k + 1) a = step (i + k) (osit step i k a)
  | 0, i, a => rfl
  | k + 1, i, a => by
    rw [osit_succ, osit_last (k := k), ← osit_succ, show i + 1 + k = i + (k + 1) by omega]
theorem osit_congr {α : Type} {f g : Nat → α → α} : ∀ {k i : Nat} {a : α}, (∀ j b, i ≤ j → j < i + k → f j b = g j b) → osit f i k a = osit g i k a
  | 0, i, a, _ => rfl
  | k + 1, i, a, h => by
    rw [osit_succ, osit_succ, h i a (Nat.le_refl i) (by omega)]
    exact osit_congr (fun j b h1 h2 => h j b (by omega) (by omega))
theorem osit_app {α : Type} {f : Nat → α → α} : ∀ {k i n : Nat} {a : α}, osit f i (k + n) a = osit f (i + k) n (osit f i k a)
  | 0, i, n, a => by rw [Nat.zero_add]; rfl
  | k + 1, i, n, a => by
    rw [show k + 1 + n = (k + n) + 1 by omega, osit_succ, osit_app (k := k), osit_succ, show i + 1 + k = i + (k + 1) by omega]
theorem osit_id {α : Type} {f : Nat → α → α} : ∀ {k i : Nat} {a : α}, (∀ j b, i ≤ j → j < i + k → f j b = b) → osit f i k a = a
  | 0, i, a, _ => rfl
  | k + 1, i, a, h => by
    rw [osit_succ, h i a (Nat.le_refl i) (by omega)]
    exact osit_id (fun j b h1 h2 => h j b (by omega) (by omega))
/-- steps beyond n do nothing -/
theorem osit_cut {α : Type} {f : Nat → α → α} {n m : Nat} {a : α} (hn : n ≤ m) (h : ∀ j b, n ≤ j → j < m → f j b = b) : osit f 0 m a = osit f 0 n a := by
  obtain ⟨k, rfl⟩ : ∃ k, m = n + k := ⟨m - n, by omega⟩
  rw [osit_app, osit_id (fun j b h1 h2 => h j b (by omega) (by omega))]
theorem osit_inv {α : Type} {f : Nat → α → α} (P : Nat → α → Prop) : ∀ {k i : Nat} {a : α}, P i a → (∀ j b, i ≤ j → j < i + k → P j b → P (j + 1) (f j b)) → P (i + k) (osit f i k a)
  | 0, i, a, h, _ => h
  | k + 1, i, a, h, hs => by
    rw [osit_succ, show i + (k + 1) = i + 1 + k by omega]
    exact osit_inv P (hs i a (Nat.le_refl i) (by omega) h) (fun j b h1 h2 h3 => hs j b (by omega) (by omega) h3)
/-- a loop, its invariant I at each count i up to n -/
theorem gx_loop {β ρ : Type} {b : (β → osM ρ) → β → osM ρ} {G : osG} {Q : ρ → osS → Prop} (n : Nat) (I : Nat → β → osS → Prop)
    (hs : ∀ (ih : β → osM ρ) (i : Nat) (p : β) (z : osS), i < n → I i p z → (∀ p' z', I (i + 1) p' z' → gx (ih p' G z') Q) → gx (b ih p G z) Q)
    (he : ∀ (ih : β → osM ρ) (p : β) (z : osS), I n p z → gx (b ih p G z) Q) : ∀ (N i : Nat) (p : β) (z : osS), i ≤ n → n - i < N → I i p z → gx (osloop b N p G z) Q
  | 0, i, p, z, _, h, _ => by omega
  | N + 1, i, p, z, hi, hN, hI => by
    show gx (b (osloop b N) p G z) Q
    by_cases h : i = n
    · subst h; exact he _ p z hI
    · exact hs _ i p z (by omega) hI (fun p' z' hI' => gx_loop n I hs he N (i + 1) p' z' (by omega) (by omega) hI')
/-- a loop that reads alone and gathers: n rounds of a step -/
theorem gx_acc {α β ρ : Type} {b : (β → osM ρ) → β → osM ρ} {G : osG} {z : osS} (n : Nat) (pk : Nat → α → β) (step : Nat → α → α) (fin : α → ρ)
    (hs : ∀ (ih : β → osM ρ) (i : Nat) (a : α), i < n → ∀ Q : ρ → osS → Prop, gx (ih (pk (i + 1) (step i a)) G z) Q → gx (b ih (pk i a) G z) Q)
    (he : ∀ (ih : β → osM ρ) (a : α), b ih (pk n a) G z = some (fin a, z)) (N : Nat) (a : α) (hN : n < N) : osloop b N (pk 0 a) G z = some (fin (osit step 0 n a), z) := by
  refine gx_eq (gx_loop n (fun i p z' => p = pk i (osit step 0 i a) ∧ z' = z) ?_ ?_ N 0 _ z (Nat.zero_le n) (by omega) ⟨rfl, rfl⟩)
  · rintro ih i p z' hi ⟨rfl, rfl⟩ k
    refine hs ih i _ hi _ (k _ _ ⟨?_, rfl⟩)
    rw [osit_last, Nat.zero_add]
  · rintro ih p z' ⟨rfl, rfl⟩
    exact gx_of (he ih _) ⟨rfl, rfl⟩
