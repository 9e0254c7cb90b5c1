/-! the reference run over its rows alone (by program) -/
/-- the reference's run, as a step from rows to rows, wherever its cells lie in the memory -/
def ux (G : osG) (m : Nat) {α : Type} (f : osM α) (M : Nat → Nat → Int32) (D : Nat → Nat → Int64) (Q : α → (Nat → Nat → Int32) → (Nat → Nat → Int64) → Prop) : Prop := ∃ r M' D', (∀ z, rX10 z m M D → gx (f G z) (fun a z' => a = r ∧ osFr m (m + 21) z z' ∧ rX10 z' m M' D')) ∧ Q r M' D'
section
variable {G : osG} {m : Nat} {α β : Type} {M M1 : Nat → Nat → Int32} {D D1 : Nat → Nat → Int64} {Q Q' : α → (Nat → Nat → Int32) → (Nat → Nat → Int64) → Prop}
theorem ux_mono {f : osM α} (h : ux G m f M D Q) (k : ∀ a M D, Q a M D → Q' a M D) : ux G m f M D Q' := by
  obtain ⟨r, M', D', h1, q⟩ := h
  exact ⟨r, M', D', h1, k _ _ _ q⟩
theorem ux_bind {mm : osM β} {f : β → osM α} (h : ux G m mm M D (fun b M1 D1 => ux G m (f b) M1 D1 Q)) : ux G m (osbind mm f) M D Q := by
  obtain ⟨b, M1, D1, h1, r, M2, D2, h2, q⟩ := h
  refine ⟨r, M2, D2, fun z hz => gx_call (h1 z hz) ?_, q⟩
  rintro _ z1 ⟨rfl, f1, r1⟩
  exact gx_mono (h2 z1 r1) (fun a z2 ⟨e, f2, r2⟩ => ⟨e, f1.tr f2, r2⟩)
theorem ux_recv {mm : osM α} (h : ux G m mm M D Q) : ux G m (osrecv [8] m mm) M D Q := by
  obtain ⟨r, M', D', h1, q⟩ := h
  exact ⟨r, M', D', fun z hz => gx_recv hz.o (by decide) (h1 z hz), q⟩
theorem ux_call {mm : osM β} {f : β → osM α} (h : ux G m mm M D (fun b M1 D1 => ux G m (f b) M1 D1 Q)) : ux G m (osbind (osrecv [8] m mm) f) M D Q := ux_bind (ux_recv h)
theorem ux_of {f : osM α} {r : α} (h : ∀ z, rX10 z m M D → gx (f G z) (fun a z' => a = r ∧ osFr m (m + 21) z z' ∧ rX10 z' m M1 D1)) (q : Q r M1 D1) : ux G m f M D Q := ⟨r, M1, D1, h, q⟩
theorem ux_E {mm : osM β} {f : β → osM α} {v : β} (h : ∀ z, rX10 z m M D → mm G z = some (v, z)) (k : ux G m (f v) M D Q) : ux G m (osbind mm f) M D Q := ux_bind ⟨v, M, D, fun z hz => gx_of (h z hz) ⟨rfl, osFr.rf, hz⟩, k⟩
theorem ux_rE {mm : osM β} {f : β → osM α} {v : β} (h : ∀ z, rX10 z m M D → mm G z = some (v, z)) (k : ux G m (f v) M D Q) : ux G m (osbind (osrecv [8] m mm) f) M D Q := ux_call ⟨v, M, D, fun z hz => gx_of (h z hz) ⟨rfl, osFr.rf, hz⟩, k⟩
theorem ux_st {f g : osM α} (h : ∀ z, rX10 z m M D → ∀ R : α → osS → Prop, gx (f G z) R → gx (g G z) R) (k : ux G m f M D Q) : ux G m g M D Q := by
  obtain ⟨r, M', D', h1, q⟩ := k
  exact ⟨r, M', D', fun z hz => h z hz _ (h1 z hz), q⟩
theorem ux_w {f g : osM α} (h : ∀ z, rX10 z m M D → ∀ R : α → osS → Prop, (∀ z1, osFr m (m + 21) z z1 → rX10 z1 m M1 D1 → gx (f G z1) R) → gx (g G z) R) (k : ux G m f M1 D1 Q) : ux G m g M D Q := by
  obtain ⟨r, M', D', h1, q⟩ := k
  exact ⟨r, M', D', fun z hz => h z hz _ (fun z1 f1 r1 => gx_mono (h1 z1 r1) (fun a z2 ⟨e, f2, r2⟩ => ⟨e, f1.tr f2, r2⟩)), q⟩
theorem ux_gI {k : Nat} {v : Int32} {f : Int32 → osM α} (hk : (fX10 m M D)[k]? = some (.int v)) (kk : ux G m (f v) M D Q) : ux G m (osbind (osgI [8] k m) f) M D Q := ux_st (fun z hz R h => gx_gI hz.o (by decide) hk h) kk
theorem ux_gJ {k : Nat} {v : Int64} {f : Int64 → osM α} (hk : (fX10 m M D)[k]? = some (.long v)) (kk : ux G m (f v) M D Q) : ux G m (osbind (osgJ [8] k m) f) M D Q := ux_st (fun z hz R h => gx_gJ hz.o (by decide) hk h) kk
theorem ux_gR {k : Nat} {v : Nat} {f : Nat → osM α} (hk : (fX10 m M D)[k]? = some (.ref v)) (kk : ux G m (f v) M D Q) : ux G m (osbind (osgR [8] k m) f) M D Q := ux_st (fun z hz R h => gx_gR hz.o (by decide) hk h) kk
theorem ux_a {a n i : Nat} {x : Int32} {g : Nat → Int32} {f : Int32 → osM α} (h : ∀ z, rX10 z m M D → z.1 a = some (.inl (0, (n, .inl g)))) (e : x = nI i) (hi : i < n) (hn : n < 2 ^ 31) (kk : ux G m (f (g i)) M D Q) : ux G m (osbind (osaI 0 a x) f) M D Q := ux_st (fun z hz R k => gx_aE (h z hz) e hi hn k) kk
theorem ux_ret {v : α} (h : Q v M D) : ux G m (osret v) M D Q := ⟨v, M, D, fun z hz => gx_ret ⟨rfl, osFr.rf, hz⟩, h⟩
theorem ux_retZ {v : Int32} {Q : Int32 → (Nat → Nat → Int32) → (Nat → Nat → Int64) → Prop} (hv : v = 0 ∨ v = 1) (h : Q v M D) : ux G m (osretZ v) M D Q := ⟨v, M, D, fun z hz => gx_retZ hv ⟨rfl, osFr.rf, hz⟩, h⟩
theorem ux_itet {c : Prop} [Decidable c] {t e : osM α} (h : c) (k : ux G m t M D Q) : ux G m (osite c t e) M D Q := ux_st (fun z hz R q => gx_itet h q) k
theorem ux_itef {c : Prop} [Decidable c] {t e : osM α} (h : ¬ c) (k : ux G m e M D Q) : ux G m (osite c t e) M D Q := ux_st (fun z hz R q => gx_itef h q) k
theorem ux_ite {c : Prop} [Decidable c] {t e : osM α} (h1 : c → ux G m t M D Q) (h2 : ¬ c → ux G m e M D Q) : ux G m (osite c t e) M D Q := by
  by_cases h : c
  · exact ux_itet h (h1 h)
  · exact ux_itef h (h2 h)
theorem ux_iteB {b : Bool} {t e : osM α} (h1 : b = false → ux G m t M D Q) (h2 : b = true → ux G m e M D Q) : ux G m (osite (b2i b = 0) t e) M D Q := ux_ite (fun h => h1 (b2i_0.mp h)) (fun h => h2 (b2i_n0 h))
theorem ux_loop {b : (β → osM α) → β → osM α} (n : Nat) (I : Nat → β → (Nat → Nat → Int32) → (Nat → Nat → Int64) → Prop)
    (hs : ∀ (ih : β → osM α) (i : Nat) (p : β) (M : Nat → Nat → Int32) (D : Nat → Nat → Int64), i < n → I i p M D → (∀ p' M' D', I (i + 1) p' M' D' → ux G m (ih p') M' D' Q) → ux G m (b ih p) M D Q)
    (he : ∀ (ih : β → osM α) (p : β) (M : Nat → Nat → Int32) (D : Nat → Nat → Int64), I n p M D → ux G m (b ih p) M D Q) : ∀ (N i : Nat) (p : β) (M : Nat → Nat → Int32) (D : Nat → Nat → Int64), i ≤ n → n - i < N → I i p M D → ux G m (osloop b N p) M D Q
  | 0, i, p, M, D, _, h, _ => by omega
  | N + 1, i, p, M, D, hi, hN, hI => by
    show ux G m (b (osloop b N) p) M D Q
    by_cases h : i = n
    · subst h; exact he _ p M D hI
    · exact hs _ i p M D (by omega) hI (fun p' M' D' hI' => ux_loop n I hs he N (i + 1) p' M' D' (by omega) (by omega) hI')
theorem ux_p0 (hA : G.2.2.1 ≤ m) {v : Int32} {f : Unit → osM α} (k : ux G m (f ()) (cset M 0 fun _ => v) D Q) : ux G m (osbind (osput [8] 0 m (.int v)) f) M D Q := ux_w (fun z hz R kk => hz.p0 (by decide) hA kk) k
theorem ux_p10 (hA : G.2.2.1 ≤ m) {v : Int32} {f : Unit → osM α} (k : ux G m (f ()) (cset M 10 fun _ => v) D Q) : ux G m (osbind (osput [8] 10 m (.int v)) f) M D Q := ux_w (fun z hz R kk => hz.p10 (by decide) hA kk) k
theorem ux_p11 (hA : G.2.2.1 ≤ m) {v : Int32} {f : Unit → osM α} (k : ux G m (f ()) (cset M 11 fun _ => v) D Q) : ux G m (osbind (osput [8] 11 m (.int v)) f) M D Q := ux_w (fun z hz R kk => hz.p11 (by decide) hA kk) k
theorem ux_p12 (hA : G.2.2.1 ≤ m) {v : Int32} {f : Unit → osM α} (k : ux G m (f ()) (cset M 12 fun _ => v) D Q) : ux G m (osbind (osput [8] 12 m (.int v)) f) M D Q := ux_w (fun z hz R kk => hz.p12 (by decide) hA kk) k
theorem ux_p13 (hA : G.2.2.1 ≤ m) {v : Int32} {f : Unit → osM α} (k : ux G m (f ()) (cset M 13 fun _ => v) D Q) : ux G m (osbind (osput [8] 13 m (.int v)) f) M D Q := ux_w (fun z hz R kk => hz.p13 (by decide) hA kk) k
theorem ux_p14 (hA : G.2.2.1 ≤ m) {v : Int32} {f : Unit → osM α} (k : ux G m (f ()) (cset M 14 fun _ => v) D Q) : ux G m (osbind (osput [8] 14 m (.int v)) f) M D Q := ux_w (fun z hz R kk => hz.p14 (by decide) hA kk) k
theorem ux_p15 (hA : G.2.2.1 ≤ m) {v : Int32} {f : Unit → osM α} (k : ux G m (f ()) (cset M 15 fun _ => v) D Q) : ux G m (osbind (osput [8] 15 m (.int v)) f) M D Q := ux_w (fun z hz R kk => hz.p15 (by decide) hA kk) k
theorem ux_p16 (hA : G.2.2.1 ≤ m) {v : Int32} {f : Unit → osM α} (k : ux G m (f ()) (cset M 16 fun _ => v) D Q) : ux G m (osbind (osput [8] 16 m (.int v)) f) M D Q := ux_w (fun z hz R kk => hz.p16 (by decide) hA kk) k
theorem ux_p17 (hA : G.2.2.1 ≤ m) {v : Int32} {f : Unit → osM α} (k : ux G m (f ()) (cset M 17 fun _ => v) D Q) : ux G m (osbind (osput [8] 17 m (.int v)) f) M D Q := ux_w (fun z hz R kk => hz.p17 (by decide) hA kk) k
theorem ux_p19 (hA : G.2.2.1 ≤ m) {v : Int32} {f : Unit → osM α} (k : ux G m (f ()) (cset M 19 fun _ => v) D Q) : ux G m (osbind (osput [8] 19 m (.int v)) f) M D Q := ux_w (fun z hz R kk => hz.p19 (by decide) hA kk) k
theorem ux_p20 (hA : G.2.2.1 ≤ m) {v : Int32} {f : Unit → osM α} (k : ux G m (f ()) (cset M 20 fun _ => v) D Q) : ux G m (osbind (osput [8] 20 m (.int v)) f) M D Q := ux_w (fun z hz R kk => hz.p20 (by decide) hA kk) k
theorem ux_p18 (hA : G.2.2.1 ≤ m) {v : Int64} {f : Unit → osM α} (k : ux G m (f ()) M (cset D 18 fun _ => v) Q) : ux G m (osbind (osput [8] 18 m (.long v)) f) M D Q := ux_w (fun z hz R kk => hz.p18 (by decide) hA kk) k
theorem ux_s2 (hA : G.2.2.1 ≤ m) {i : Nat} {x v : Int32} {f : Unit → osM α} (e : x = nI i) (hi : i < 98) (k : ux G m (f ()) (cset M 2 (upd (M 2) i v)) D Q) : ux G m (osbind (ossI 0 (m + 2) x v) f) M D Q := ux_w (fun z hz R kk => hz.s2 e hi hA kk) k
theorem ux_s4 (hA : G.2.2.1 ≤ m) {i : Nat} {x v : Int32} {f : Unit → osM α} (e : x = nI i) (hi : i < 261) (k : ux G m (f ()) (cset M 4 (upd (M 4) i v)) D Q) : ux G m (osbind (ossI 0 (m + 4) x v) f) M D Q := ux_w (fun z hz R kk => hz.s4 e hi hA kk) k
theorem ux_s7 (hA : G.2.2.1 ≤ m) {i : Nat} {x : Int32} {v : Int64} {f : Unit → osM α} (e : x = nI i) (hi : i < 20) (k : ux G m (f ()) M (cset D 7 (vp_updL (D 7) i v)) Q) : ux G m (osbind (ossJ 2 (m + 7) x v) f) M D Q := ux_w (fun z hz R kk => hz.s7 e hi hA kk) k
end
section
variable {G : osG} {m : Nat} {α β ρ : Type} {M : Nat → Nat → Int32} {D : Nat → Nat → Int64} {Q : α → osS → ρ → (Nat → Nat → Int32) → (Nat → Nat → Int64) → Prop} {r : Option (α × osS)} {f : osM ρ}
/-- the class' run and the reference's, either one first -/
theorem sm_u (h : ux G m f M D (fun b M' D' => gx r (fun a z' => Q a z' b M' D'))) : gx r (fun a z' => ux G m f M D (fun b M' D' => Q a z' b M' D')) := by
  obtain ⟨b, M', D', h1, a, z', h2, q⟩ := h
  exact ⟨a, z', h2, b, M', D', h1, q⟩
theorem sm_g (h : gx r (fun a z' => ux G m f M D (fun b M' D' => Q a z' b M' D'))) : ux G m f M D (fun b M' D' => gx r (fun a z' => Q a z' b M' D')) := by
  obtain ⟨a, z', h2, b, M', D', h1, q⟩ := h
  exact ⟨b, M', D', h1, a, z', h2, q⟩
end
theorem sm_call {G : osG} {m : Nat} {α β α1 β1 : Type} {M : Nat → Nat → Int32} {D : Nat → Nat → Int64} {z : osS} {P : α1 → osS → β1 → (Nat → Nat → Int32) → (Nat → Nat → Int64) → Prop} {Q : α → osS → β → (Nat → Nat → Int32) → (Nat → Nat → Int64) → Prop} {m1 : osM α1} {f1 : α1 → osM α} {m2 : osM β1} {f2 : β1 → osM β} {cis : List Nat} {t c : Nat} {fs : List Value} (ho : z.1 t = some (.inr (c, fs))) (hc : c ∈ cis) (h : gx (m1 G z) (fun r1 z1 => ux G m m2 M D (fun r2 M' D' => P r1 z1 r2 M' D'))) (k : ∀ r1 z1 r2 M' D', P r1 z1 r2 M' D' → gx (f1 r1 G z1) (fun a z' => ux G m (f2 r2) M' D' (fun b M2 D2 => Q a z' b M2 D2))) : gx (osbind (osrecv cis t m1) f1 G z) (fun a z' => ux G m (osbind (osrecv [8] m m2) f2) M D (fun b M2 D2 => Q a z' b M2 D2)) := by
  obtain ⟨r1, z1, e1, r2, M', D', e2, p⟩ := h
  obtain ⟨a, z', e3, r, M2, D2, e4, q⟩ := k _ _ _ _ _ p
  refine gx_recvE ho hc e1 ⟨a, z', e3, ux_call ⟨r2, M', D', e2, r, M2, D2, e4, q⟩⟩
