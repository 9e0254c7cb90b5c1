/-! areas and borders of a map read, in both (by program) -/
theorem nI_eqN {a k : Nat} (ha : a < 2 ^ 31) (hk : k < 2 ^ 31) (h : nI a = nI k) : a = k := by
  have h := congrArg Int32.toInt h
  rw [nI_toInt (by omega), nI_toInt (by omega)] at h
  omega
theorem vL_ne {g : Nat → Int64} {k j : Nat} {v : Int64} (h : ¬ j = k) : vp_updL g k v j = g j := by simp [vp_updL, h]
section
variable {G : osG} {z : osS} {N x n np L i i0 : Nat} {ad : Nat → Nat} {W : Nat → Nat → Nat → Int32} {D D' : osS} {E : Nat → Nat → Int64} {b : Nat → Nat} {M0 M B S C : Nat → Nat → Int32} {kd at0 : Int32}
end
section
variable {G : osG} {z : osS} {N x n np L i i0 a c m : Nat} {ad : Nat → Nat} {W : Nat → Nat → Nat → Int32} {D D' : osS} {E : Nat → Nat → Int64} {b : Nat → Nat} {M0 M B S C : Nat → Nat → Int32} {at0 l4 : Int32} {oA oF ar fl : Bool}
theorem c_bor145 {Q : Int32 → osS → Prop} (h : MW z x ad (Ws (Ws W 2 B) 4 S) D C E) (hA : G.2.2.1 ≤ x) (hn : B 0 0 = nI n) (h16 : n ≤ 16) (ha : a < n) (hc : c < n) (k0 : (ar || fl) = false → ∀ z' C', MW z' x ad (Ws (Ws W 2 B) 4 S) D C' E → C' 8 0 = 4 → C' 9 0 = (if (oA || oF) = true then l4 else C 7 0) → Q 0 z') (k1 : (ar || fl) = true → ∀ z', MW z' x ad (Ws (Ws W 2 (bordered B a c ar fl)) 4 S) D C E → Q 1 z') : gx (qX3_readBorder_145 N (x + 4) (ad 1) (nI a) (nI c) l4 (b2i oA) (b2i oF) (b2i ar) (b2i fl) G z) Q := by
  unfold qX3_readBorder_145 qX3_readBorder_169 qX3_readBorder_178 qX3_readBorder_182
  have good : (ar || fl) = true → gx ((osbind (osrecv [0] (ad 1) (qX0_addBorder N (ad 1) (nI a) (nI c) (b2i ar) (b2i fl))) fun _ => osretZ (1 : Int32)) G z) Q := fun q =>
    gx_recvQ h.b2.o (by decide) (q_X0_addBorder h.b2 (h.hA hA).2 hn h16 ha hc) (fun _ z1 ⟨f1, b1⟩ => gx_retZ (Or.inr rfl) (k1 q z1 (h.s2 f1 b1)))
  have bad : ∀ v, (ar || fl) = false → v = (if (oA || oF) = true then l4 else C 7 0) → gx ((osbind (osrecv [3] (x + 4) (qX6_fail N (x + 4) (4 : Int32) v)) fun x1 => osretZ x1) G z) Q := fun v q e =>
    gx_recvQ h.2.o (by decide) (c_fail_X3 h hA) (fun r z' ⟨e2, p⟩ => gx_retZ (Or.inl e2) (by rw [e2]; exact k0 q z' _ p rfl e))
  refine gx_iteB (fun q1 => gx_iteB (fun q2 => ?_) (fun q2 => good (by rw [q2, Bool.or_true]))) (fun q1 => good (by rw [q1]; rfl))
  have qq : (ar || fl) = false := by rw [q1, q2]; rfl
  refine gx_iteB (fun q3 => gx_iteB (fun q4 => gx_gI h.2.o (by decide) rfl (bad _ qq ?_)) (fun q4 => bad _ qq ?_)) (fun q3 => bad _ qq ?_)
  · rw [q3, q4]; rfl
  · rw [q3, q4]; rfl
  · rw [q3]; rfl
theorem c_bor85 {Q : Int32 → osS → Prop} (h : MW z x ad (Ws (Ws W 2 B) 4 S) D C E) (hA : G.2.2.1 ≤ x) (hn : B 0 0 = nI n) (h16 : n ≤ 16) (ha : a < n) (hc : c < n) (ear : ar = (!oF && (suit B a 0 && suit B c 0))) (efl : fl = (!oA && (suit B a 1 && suit B c 1))) (k0 : (ar || fl) = false → ∀ z' C', MW z' x ad (Ws (Ws W 2 B) 4 S) D C' E → C' 8 0 = 4 → C' 9 0 = (if (oA || oF) = true then l4 else C 7 0) → Q 0 z') (k1 : (ar || fl) = true → ∀ z', MW z' x ad (Ws (Ws W 2 (bordered B a c ar fl)) 4 S) D C E → Q 1 z') : gx (qX3_readBorder_85 N (x + 4) (ad 1) (nI a) (nI c) l4 (b2i oA) (b2i oF) G z) Q := by
  have s145 : gx (qX3_readBorder_145 N (x + 4) (ad 1) (nI a) (nI c) l4 (b2i oA) (b2i oF) (b2i ar) (b2i fl) G z) Q := c_bor145 h hA hn h16 ha hc k0 k1
  have s115 : gx (qX3_readBorder_115 N (x + 4) (ad 1) (nI a) (nI c) l4 (b2i oA) (b2i oF) (b2i ar) G z) Q := by
    unfold qX3_readBorder_115 qX3_readBorder_144
    refine gx_iteB (fun q1 => gx_recvE h.b2.o (by decide) (q_suits h.b2 (by omega)) (gx_iteB (fun q2 => ?_) (fun q2 => gx_recvE h.b2.o (by decide) (q_suits h.b2 (by omega)) (gx_iteB (fun q3 => ?_) (fun q3 => ?_))))) (fun q1 => ?_)
    · have e : fl = false := by rw [efl, q2]; simp
      rw [e] at s145; exact s145
    · have e : fl = false := by rw [efl, q3]; simp
      rw [e] at s145; exact s145
    · have e : fl = true := by rw [efl, q1, q2, q3]; rfl
      rw [e] at s145; exact s145
    · have e : fl = false := by rw [efl, q1]; rfl
      rw [e] at s145; exact s145
  unfold qX3_readBorder_85 qX3_readBorder_114
  refine gx_iteB (fun q1 => gx_recvE h.b2.o (by decide) (q_suits h.b2 (by omega)) (gx_iteB (fun q2 => ?_) (fun q2 => gx_recvE h.b2.o (by decide) (q_suits h.b2 (by omega)) (gx_iteB (fun q3 => ?_) (fun q3 => ?_))))) (fun q1 => ?_)
  · have e : ar = false := by rw [ear, q2]; simp
    rw [e] at s115; exact s115
  · have e : ar = false := by rw [ear, q3]; simp
    rw [e] at s115; exact s115
  · have e : ar = true := by rw [ear, q1, q2, q3]; rfl
    rw [e] at s115; exact s115
  · have e : ar = false := by rw [ear, q1]; rfl
    rw [e] at s115; exact s115
theorem kd_suit {a : Nat} : (decide (kdOf B a = 2) = !suit B a 0) ∧ (decide (kdOf B a = 0) = !suit B a 1) := by
  unfold kdOf suit
  cases bt (B 3 0) a <;> cases bt (B 2 0) a <;> exact ⟨rfl, rfl⟩
def rBorT (N x y : Nat) (a c : Int32) : osM Int32 := osbind (osgI [3] 6 (x + 4)) fun x4 => osbind (osstat 5) fun x5 => osbind (osrecv [3] (x + 4) (qX6_take N (x + 4) x5)) fun x6 => osite (x6 = 0) (osbind (osstat 6) fun x7 => osbind (osrecv [3] (x + 4) (qX6_take N (x + 4) x7)) fun x8 => osite (x8 = 0) (qX3_readBorder_84 N (x + 4) y a c x4 x6) (qX3_readBorder_85 N (x + 4) y a c x4 x6 (1 : Int32))) (qX3_readBorder_84 N (x + 4) y a c x4 x6)
end
