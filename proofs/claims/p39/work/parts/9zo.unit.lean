/-! units and powers of a map read, in both (by program) -/
section
variable {α β γ : Type} {G : osG} {z : osS} {Q : α → osS → Prop}
theorem gx_as {m : osM β} {f : β → osM γ} {g : γ → osM α} (h : gx (osbind m (fun x => osbind (f x) g) G z) Q) : gx (osbind (osbind m f) g G z) Q := by
  obtain ⟨a, z1, h1, q⟩ := h
  refine ⟨a, z1, ?_, q⟩
  unfold osbind at h1 ⊢
  cases e : m G z with
  | none => rw [e] at h1; cases h1
  | some p => rw [e] at h1; exact h1
theorem gx_inl {m : osM β} {f : β → osM γ} {g : γ → osM α} {cis : List Nat} {t c : Nat} {fs : List Value} (ho : z.1 t = some (.inr (c, fs))) (hc : c ∈ cis) (h : gx (osbind m (fun x => osbind (f x) g) G z) Q) : gx (osbind (osrecv cis t (osbind m f)) g G z) Q := by
  obtain ⟨a, z1, h1, q⟩ := gx_as h
  refine gx_bind (gx_recv ho hc ?_)
  unfold osbind at h1
  cases e : osbind m f G z with
  | none =>
    unfold osbind at e
    rw [e] at h1; cases h1
  | some p =>
    have e2 := e
    unfold osbind at e2
    rw [e2] at h1
    exact ⟨p.1, p.2, rfl, a, z1, h1, q⟩
theorem gx_bt {c : Prop} [Decidable c] {t e : osM β} {g : β → osM α} (h : c) (k : gx (osbind t g G z) Q) : gx (osbind (osite c t e) g G z) Q := by
  have : osite c t e = t := by funext G z; unfold osite; rw [if_pos h]
  rw [this]; exact k
theorem gx_bf {c : Prop} [Decidable c] {t e : osM β} {g : β → osM α} (h : ¬ c) (k : gx (osbind e g G z) Q) : gx (osbind (osite c t e) g G z) Q := by
  have : osite c t e = e := by funext G z; unfold osite; rw [if_neg h]
  rw [this]; exact k
end
section
variable {G : osG} {z : osS} {N x n np L i i0 : Nat} {ad : Nat → Nat} {W : Nat → Nat → Nat → Int32} {D D' : osS} {E : Nat → Nat → Int64} {b : Nat → Nat} {M0 M B S C : Nat → Nat → Int32} {kd at0 : Int32}
end
