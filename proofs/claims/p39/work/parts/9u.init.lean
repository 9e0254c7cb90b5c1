/-! constructors (1) (by program) -/
section
variable {α : Type} {G : osG} {z : osS} {Q : α → osS → Prop}
theorem gx_putH {cis : List Nat} {k a c : Nat} {fs : List Value} {v : Value} {f : Unit → osM α} (h : z.1 a = some (.inr (c, fs))) (hc : c ∈ cis) (hk : k < fs.length) (hA : G.2.2.1 ≤ a) (kk : ∀ z1 : osS, z1.1 a = some (.inr (c, fs.set k v)) → (∀ b, ¬ b = a → z1.1 b = z.1 b) → z1.2 = z.2 → gx (f () G z1) Q) : gx (osbind (osput cis k a v) f G z) Q :=
  gx_put h hc hk hA (kk _ osup_eq (fun b hb => if_neg hb) rfl)
theorem gx_newH {e : osE} {q : Nat} {f : Nat → osM α} (h2 : z.2 = some q) (hA : G.2.2.1 ≤ q) (kk : ∀ z1 : osS, z1.1 q = some e → (∀ b, ¬ b = q → z1.1 b = z.1 b) → z1.2 = some (q + 1) → gx (f q G z1) Q) : gx (osbind (osnew e) f G z) Q :=
  gx_callE (b := q) (z1 := (fun b => if b = q then some e else z.1 b, some (q + 1))) (by unfold osnew; rw [h2]; show (if G.2.2.1 ≤ q then _ else none) = _; rw [if_pos hA]) (kk _ (if_pos rfl) (fun b hb => if_neg hb) rfl)
end
def rw0 : Nat → Nat → Int32 := fun _ _ => 0
def rw1 : Nat → Nat → Int32 := fun k _ => if k = 1 then 1 else 0
theorem i_X0 {G : osG} {z : osS} {N a : Nat} (h0 : z.1 a = some (.inr (0, [.int 0, .int 0, .int 0, .int 0, .int 0, .null, .null, .null, .null, .null]))) (e0 : z.2 = some (a + 1)) (hA : G.2.2.1 ≤ a) (hN : 5000 < N) : gx (qX0_init N a G z) (fun _ z' => z'.2 = some (a + 6) ∧ (∀ c, c < a → z'.1 c = z.1 c) ∧ rX0 z' a (bclr rw0)) := by
  unfold qX0_init
  have K0 : ∀ c, c < a → z.1 c = z.1 c := fun _ _ => rfl
  refine gx_putH h0 (by decide) (Nat.le_of_ble_eq_true rfl) hA (fun z1 h1 n1 f1 => ?_)
  have e1 := f1.trans e0
  have K1 : ∀ c, c < a → z1.1 c = z.1 c := fun c hc => (n1 c (by omega)).trans (K0 c hc)
  refine gx_putH h1 (by decide) (Nat.le_of_ble_eq_true rfl) hA (fun z2 h2 n2 f2 => ?_)
  have e2 := f2.trans e1
  have K2 : ∀ c, c < a → z2.1 c = z.1 c := fun c hc => (n2 c (by omega)).trans (K1 c hc)
  refine gx_putH h2 (by decide) (Nat.le_of_ble_eq_true rfl) hA (fun z3 h3 n3 f3 => ?_)
  have e3 := f3.trans e2
  have K3 : ∀ c, c < a → z3.1 c = z.1 c := fun c hc => (n3 c (by omega)).trans (K2 c hc)
  refine gx_putH h3 (by decide) (Nat.le_of_ble_eq_true rfl) hA (fun z4 h4 n4 f4 => ?_)
  have e4 := f4.trans e3
  have K4 : ∀ c, c < a → z4.1 c = z.1 c := fun c hc => (n4 c (by omega)).trans (K3 c hc)
  refine gx_putH h4 (by decide) (Nat.le_of_ble_eq_true rfl) hA (fun z5 h5 n5 f5 => ?_)
  have e5 := f5.trans e4
  have K5 : ∀ c, c < a → z5.1 c = z.1 c := fun c hc => (n5 c (by omega)).trans (K4 c hc)
  refine gx_newH e5 (by omega) (fun z6 c1_6 n6 f6 => ?_)
  have e6 : z6.2 = some (a + 2) := f6
  have h6 := (n6 a (by omega)).trans h5
  have K6 : ∀ c, c < a → z6.1 c = z.1 c := fun c hc => (n6 c (by omega)).trans (K5 c hc)
  refine gx_putH h6 (by decide) (Nat.le_of_ble_eq_true rfl) hA (fun z7 h7 n7 f7 => ?_)
  have e7 := f7.trans e6
  have c1_7 := (n7 (a + 1) (by omega)).trans c1_6
  have K7 : ∀ c, c < a → z7.1 c = z.1 c := fun c hc => (n7 c (by omega)).trans (K6 c hc)
  refine gx_newH e7 (by omega) (fun z8 c2_8 n8 f8 => ?_)
  have e8 : z8.2 = some (a + 3) := f8
  have h8 := (n8 a (by omega)).trans h7
  have c1_8 := (n8 (a + 1) (by omega)).trans c1_7
  have K8 : ∀ c, c < a → z8.1 c = z.1 c := fun c hc => (n8 c (by omega)).trans (K7 c hc)
  refine gx_putH h8 (by decide) (Nat.le_of_ble_eq_true rfl) hA (fun z9 h9 n9 f9 => ?_)
  have e9 := f9.trans e8
  have c1_9 := (n9 (a + 1) (by omega)).trans c1_8
  have c2_9 := (n9 (a + 2) (by omega)).trans c2_8
  have K9 : ∀ c, c < a → z9.1 c = z.1 c := fun c hc => (n9 c (by omega)).trans (K8 c hc)
  refine gx_newH e9 (by omega) (fun z10 c3_10 n10 f10 => ?_)
  have e10 : z10.2 = some (a + 4) := f10
  have h10 := (n10 a (by omega)).trans h9
  have c1_10 := (n10 (a + 1) (by omega)).trans c1_9
  have c2_10 := (n10 (a + 2) (by omega)).trans c2_9
  have K10 : ∀ c, c < a → z10.1 c = z.1 c := fun c hc => (n10 c (by omega)).trans (K9 c hc)
  refine gx_putH h10 (by decide) (Nat.le_of_ble_eq_true rfl) hA (fun z11 h11 n11 f11 => ?_)
  have e11 := f11.trans e10
  have c1_11 := (n11 (a + 1) (by omega)).trans c1_10
  have c2_11 := (n11 (a + 2) (by omega)).trans c2_10
  have c3_11 := (n11 (a + 3) (by omega)).trans c3_10
  have K11 : ∀ c, c < a → z11.1 c = z.1 c := fun c hc => (n11 c (by omega)).trans (K10 c hc)
  refine gx_newH e11 (by omega) (fun z12 c4_12 n12 f12 => ?_)
  have e12 : z12.2 = some (a + 5) := f12
  have h12 := (n12 a (by omega)).trans h11
  have c1_12 := (n12 (a + 1) (by omega)).trans c1_11
  have c2_12 := (n12 (a + 2) (by omega)).trans c2_11
  have c3_12 := (n12 (a + 3) (by omega)).trans c3_11
  have K12 : ∀ c, c < a → z12.1 c = z.1 c := fun c hc => (n12 c (by omega)).trans (K11 c hc)
  refine gx_putH h12 (by decide) (Nat.le_of_ble_eq_true rfl) hA (fun z13 h13 n13 f13 => ?_)
  have e13 := f13.trans e12
  have c1_13 := (n13 (a + 1) (by omega)).trans c1_12
  have c2_13 := (n13 (a + 2) (by omega)).trans c2_12
  have c3_13 := (n13 (a + 3) (by omega)).trans c3_12
  have c4_13 := (n13 (a + 4) (by omega)).trans c4_12
  have K13 : ∀ c, c < a → z13.1 c = z.1 c := fun c hc => (n13 c (by omega)).trans (K12 c hc)
  refine gx_newH e13 (by omega) (fun z14 c5_14 n14 f14 => ?_)
  have e14 : z14.2 = some (a + 6) := f14
  have h14 := (n14 a (by omega)).trans h13
  have c1_14 := (n14 (a + 1) (by omega)).trans c1_13
  have c2_14 := (n14 (a + 2) (by omega)).trans c2_13
  have c3_14 := (n14 (a + 3) (by omega)).trans c3_13
  have c4_14 := (n14 (a + 4) (by omega)).trans c4_13
  have K14 : ∀ c, c < a → z14.1 c = z.1 c := fun c hc => (n14 c (by omega)).trans (K13 c hc)
  refine gx_putH h14 (by decide) (Nat.le_of_ble_eq_true rfl) hA (fun z15 h15 n15 f15 => ?_)
  have e15 := f15.trans e14
  have c1_15 := (n15 (a + 1) (by omega)).trans c1_14
  have c2_15 := (n15 (a + 2) (by omega)).trans c2_14
  have c3_15 := (n15 (a + 3) (by omega)).trans c3_14
  have c4_15 := (n15 (a + 4) (by omega)).trans c4_14
  have c5_15 := (n15 (a + 5) (by omega)).trans c5_14
  have K15 : ∀ c, c < a → z15.1 c = z.1 c := fun c hc => (n15 c (by omega)).trans (K14 c hc)
  have hr : rX0 z15 a rw0 := ⟨h15, c1_15, c2_15, c3_15, c4_15, c5_15⟩
  exact gx_recvQ hr.o (by decide) (q_X0_clear hr hA (by omega)) (fun _ z2 ⟨f, r⟩ => gx_ret ⟨f.2.trans e15, fun c hc => (f.1 c (by omega)).trans (K15 c hc), r⟩)
theorem i_X5 {G : osG} {z : osS} {N a : Nat} (h0 : z.1 a = some (.inr (5, [.int 0, .int 0, .int 0, .int 0, .int 0, .null, .null, .null, .null, .null, .null, .null, .null, .null, .null, .null]))) (e0 : z.2 = some (a + 1)) (hA : G.2.2.1 ≤ a) (hN : 5000 < N) : gx (qX5_init N a G z) (fun _ z' => z'.2 = some (a + 12) ∧ (∀ c, c < a → z'.1 c = z.1 c) ∧ rX5 z' a (sclr rw1)) := by
  unfold qX5_init
  have K0 : ∀ c, c < a → z.1 c = z.1 c := fun _ _ => rfl
  refine gx_putH h0 (by decide) (Nat.le_of_ble_eq_true rfl) hA (fun z1 h1 n1 f1 => ?_)
  have e1 := f1.trans e0
  have K1 : ∀ c, c < a → z1.1 c = z.1 c := fun c hc => (n1 c (by omega)).trans (K0 c hc)
  refine gx_putH h1 (by decide) (Nat.le_of_ble_eq_true rfl) hA (fun z2 h2 n2 f2 => ?_)
  have e2 := f2.trans e1
  have K2 : ∀ c, c < a → z2.1 c = z.1 c := fun c hc => (n2 c (by omega)).trans (K1 c hc)
  refine gx_guard (by decide) ?_
  refine gx_putH h2 (by decide) (Nat.le_of_ble_eq_true rfl) hA (fun z3 h3 n3 f3 => ?_)
  have e3 := f3.trans e2
  have K3 : ∀ c, c < a → z3.1 c = z.1 c := fun c hc => (n3 c (by omega)).trans (K2 c hc)
  refine gx_putH h3 (by decide) (Nat.le_of_ble_eq_true rfl) hA (fun z4 h4 n4 f4 => ?_)
  have e4 := f4.trans e3
  have K4 : ∀ c, c < a → z4.1 c = z.1 c := fun c hc => (n4 c (by omega)).trans (K3 c hc)
  refine gx_putH h4 (by decide) (Nat.le_of_ble_eq_true rfl) hA (fun z5 h5 n5 f5 => ?_)
  have e5 := f5.trans e4
  have K5 : ∀ c, c < a → z5.1 c = z.1 c := fun c hc => (n5 c (by omega)).trans (K4 c hc)
  refine gx_newH e5 (by omega) (fun z6 c1_6 n6 f6 => ?_)
  have e6 : z6.2 = some (a + 2) := f6
  have h6 := (n6 a (by omega)).trans h5
  have K6 : ∀ c, c < a → z6.1 c = z.1 c := fun c hc => (n6 c (by omega)).trans (K5 c hc)
  refine gx_putH h6 (by decide) (Nat.le_of_ble_eq_true rfl) hA (fun z7 h7 n7 f7 => ?_)
  have e7 := f7.trans e6
  have c1_7 := (n7 (a + 1) (by omega)).trans c1_6
  have K7 : ∀ c, c < a → z7.1 c = z.1 c := fun c hc => (n7 c (by omega)).trans (K6 c hc)
  refine gx_newH e7 (by omega) (fun z8 c2_8 n8 f8 => ?_)
  have e8 : z8.2 = some (a + 3) := f8
  have h8 := (n8 a (by omega)).trans h7
  have c1_8 := (n8 (a + 1) (by omega)).trans c1_7
  have K8 : ∀ c, c < a → z8.1 c = z.1 c := fun c hc => (n8 c (by omega)).trans (K7 c hc)
  refine gx_putH h8 (by decide) (Nat.le_of_ble_eq_true rfl) hA (fun z9 h9 n9 f9 => ?_)
  have e9 := f9.trans e8
  have c1_9 := (n9 (a + 1) (by omega)).trans c1_8
  have c2_9 := (n9 (a + 2) (by omega)).trans c2_8
  have K9 : ∀ c, c < a → z9.1 c = z.1 c := fun c hc => (n9 c (by omega)).trans (K8 c hc)
  refine gx_newH e9 (by omega) (fun z10 c3_10 n10 f10 => ?_)
  have e10 : z10.2 = some (a + 4) := f10
  have h10 := (n10 a (by omega)).trans h9
  have c1_10 := (n10 (a + 1) (by omega)).trans c1_9
  have c2_10 := (n10 (a + 2) (by omega)).trans c2_9
  have K10 : ∀ c, c < a → z10.1 c = z.1 c := fun c hc => (n10 c (by omega)).trans (K9 c hc)
  refine gx_putH h10 (by decide) (Nat.le_of_ble_eq_true rfl) hA (fun z11 h11 n11 f11 => ?_)
  have e11 := f11.trans e10
  have c1_11 := (n11 (a + 1) (by omega)).trans c1_10
  have c2_11 := (n11 (a + 2) (by omega)).trans c2_10
  have c3_11 := (n11 (a + 3) (by omega)).trans c3_10
  have K11 : ∀ c, c < a → z11.1 c = z.1 c := fun c hc => (n11 c (by omega)).trans (K10 c hc)
  refine gx_newH e11 (by omega) (fun z12 c4_12 n12 f12 => ?_)
  have e12 : z12.2 = some (a + 5) := f12
  have h12 := (n12 a (by omega)).trans h11
  have c1_12 := (n12 (a + 1) (by omega)).trans c1_11
  have c2_12 := (n12 (a + 2) (by omega)).trans c2_11
  have c3_12 := (n12 (a + 3) (by omega)).trans c3_11
  have K12 : ∀ c, c < a → z12.1 c = z.1 c := fun c hc => (n12 c (by omega)).trans (K11 c hc)
  refine gx_putH h12 (by decide) (Nat.le_of_ble_eq_true rfl) hA (fun z13 h13 n13 f13 => ?_)
  have e13 := f13.trans e12
  have c1_13 := (n13 (a + 1) (by omega)).trans c1_12
  have c2_13 := (n13 (a + 2) (by omega)).trans c2_12
  have c3_13 := (n13 (a + 3) (by omega)).trans c3_12
  have c4_13 := (n13 (a + 4) (by omega)).trans c4_12
  have K13 : ∀ c, c < a → z13.1 c = z.1 c := fun c hc => (n13 c (by omega)).trans (K12 c hc)
  refine gx_newH e13 (by omega) (fun z14 c5_14 n14 f14 => ?_)
  have e14 : z14.2 = some (a + 6) := f14
  have h14 := (n14 a (by omega)).trans h13
  have c1_14 := (n14 (a + 1) (by omega)).trans c1_13
  have c2_14 := (n14 (a + 2) (by omega)).trans c2_13
  have c3_14 := (n14 (a + 3) (by omega)).trans c3_13
  have c4_14 := (n14 (a + 4) (by omega)).trans c4_13
  have K14 : ∀ c, c < a → z14.1 c = z.1 c := fun c hc => (n14 c (by omega)).trans (K13 c hc)
  refine gx_putH h14 (by decide) (Nat.le_of_ble_eq_true rfl) hA (fun z15 h15 n15 f15 => ?_)
  have e15 := f15.trans e14
  have c1_15 := (n15 (a + 1) (by omega)).trans c1_14
  have c2_15 := (n15 (a + 2) (by omega)).trans c2_14
  have c3_15 := (n15 (a + 3) (by omega)).trans c3_14
  have c4_15 := (n15 (a + 4) (by omega)).trans c4_14
  have c5_15 := (n15 (a + 5) (by omega)).trans c5_14
  have K15 : ∀ c, c < a → z15.1 c = z.1 c := fun c hc => (n15 c (by omega)).trans (K14 c hc)
  refine gx_newH e15 (by omega) (fun z16 c6_16 n16 f16 => ?_)
  have e16 : z16.2 = some (a + 7) := f16
  have h16 := (n16 a (by omega)).trans h15
  have c1_16 := (n16 (a + 1) (by omega)).trans c1_15
  have c2_16 := (n16 (a + 2) (by omega)).trans c2_15
  have c3_16 := (n16 (a + 3) (by omega)).trans c3_15
  have c4_16 := (n16 (a + 4) (by omega)).trans c4_15
  have c5_16 := (n16 (a + 5) (by omega)).trans c5_15
  have K16 : ∀ c, c < a → z16.1 c = z.1 c := fun c hc => (n16 c (by omega)).trans (K15 c hc)
  refine gx_putH h16 (by decide) (Nat.le_of_ble_eq_true rfl) hA (fun z17 h17 n17 f17 => ?_)
  have e17 := f17.trans e16
  have c1_17 := (n17 (a + 1) (by omega)).trans c1_16
  have c2_17 := (n17 (a + 2) (by omega)).trans c2_16
  have c3_17 := (n17 (a + 3) (by omega)).trans c3_16
  have c4_17 := (n17 (a + 4) (by omega)).trans c4_16
  have c5_17 := (n17 (a + 5) (by omega)).trans c5_16
  have c6_17 := (n17 (a + 6) (by omega)).trans c6_16
  have K17 : ∀ c, c < a → z17.1 c = z.1 c := fun c hc => (n17 c (by omega)).trans (K16 c hc)
  refine gx_newH e17 (by omega) (fun z18 c7_18 n18 f18 => ?_)
  have e18 : z18.2 = some (a + 8) := f18
  have h18 := (n18 a (by omega)).trans h17
  have c1_18 := (n18 (a + 1) (by omega)).trans c1_17
  have c2_18 := (n18 (a + 2) (by omega)).trans c2_17
  have c3_18 := (n18 (a + 3) (by omega)).trans c3_17
  have c4_18 := (n18 (a + 4) (by omega)).trans c4_17
  have c5_18 := (n18 (a + 5) (by omega)).trans c5_17
  have c6_18 := (n18 (a + 6) (by omega)).trans c6_17
  have K18 : ∀ c, c < a → z18.1 c = z.1 c := fun c hc => (n18 c (by omega)).trans (K17 c hc)
  refine gx_putH h18 (by decide) (Nat.le_of_ble_eq_true rfl) hA (fun z19 h19 n19 f19 => ?_)
  have e19 := f19.trans e18
  have c1_19 := (n19 (a + 1) (by omega)).trans c1_18
  have c2_19 := (n19 (a + 2) (by omega)).trans c2_18
  have c3_19 := (n19 (a + 3) (by omega)).trans c3_18
  have c4_19 := (n19 (a + 4) (by omega)).trans c4_18
  have c5_19 := (n19 (a + 5) (by omega)).trans c5_18
  have c6_19 := (n19 (a + 6) (by omega)).trans c6_18
  have c7_19 := (n19 (a + 7) (by omega)).trans c7_18
  have K19 : ∀ c, c < a → z19.1 c = z.1 c := fun c hc => (n19 c (by omega)).trans (K18 c hc)
  refine gx_newH e19 (by omega) (fun z20 c8_20 n20 f20 => ?_)
  have e20 : z20.2 = some (a + 9) := f20
  have h20 := (n20 a (by omega)).trans h19
  have c1_20 := (n20 (a + 1) (by omega)).trans c1_19
  have c2_20 := (n20 (a + 2) (by omega)).trans c2_19
  have c3_20 := (n20 (a + 3) (by omega)).trans c3_19
  have c4_20 := (n20 (a + 4) (by omega)).trans c4_19
  have c5_20 := (n20 (a + 5) (by omega)).trans c5_19
  have c6_20 := (n20 (a + 6) (by omega)).trans c6_19
  have c7_20 := (n20 (a + 7) (by omega)).trans c7_19
  have K20 : ∀ c, c < a → z20.1 c = z.1 c := fun c hc => (n20 c (by omega)).trans (K19 c hc)
  refine gx_putH h20 (by decide) (Nat.le_of_ble_eq_true rfl) hA (fun z21 h21 n21 f21 => ?_)
  have e21 := f21.trans e20
  have c1_21 := (n21 (a + 1) (by omega)).trans c1_20
  have c2_21 := (n21 (a + 2) (by omega)).trans c2_20
  have c3_21 := (n21 (a + 3) (by omega)).trans c3_20
  have c4_21 := (n21 (a + 4) (by omega)).trans c4_20
  have c5_21 := (n21 (a + 5) (by omega)).trans c5_20
  have c6_21 := (n21 (a + 6) (by omega)).trans c6_20
  have c7_21 := (n21 (a + 7) (by omega)).trans c7_20
  have c8_21 := (n21 (a + 8) (by omega)).trans c8_20
  have K21 : ∀ c, c < a → z21.1 c = z.1 c := fun c hc => (n21 c (by omega)).trans (K20 c hc)
  refine gx_newH e21 (by omega) (fun z22 c9_22 n22 f22 => ?_)
  have e22 : z22.2 = some (a + 10) := f22
  have h22 := (n22 a (by omega)).trans h21
  have c1_22 := (n22 (a + 1) (by omega)).trans c1_21
  have c2_22 := (n22 (a + 2) (by omega)).trans c2_21
  have c3_22 := (n22 (a + 3) (by omega)).trans c3_21
  have c4_22 := (n22 (a + 4) (by omega)).trans c4_21
  have c5_22 := (n22 (a + 5) (by omega)).trans c5_21
  have c6_22 := (n22 (a + 6) (by omega)).trans c6_21
  have c7_22 := (n22 (a + 7) (by omega)).trans c7_21
  have c8_22 := (n22 (a + 8) (by omega)).trans c8_21
  have K22 : ∀ c, c < a → z22.1 c = z.1 c := fun c hc => (n22 c (by omega)).trans (K21 c hc)
  refine gx_putH h22 (by decide) (Nat.le_of_ble_eq_true rfl) hA (fun z23 h23 n23 f23 => ?_)
  have e23 := f23.trans e22
  have c1_23 := (n23 (a + 1) (by omega)).trans c1_22
  have c2_23 := (n23 (a + 2) (by omega)).trans c2_22
  have c3_23 := (n23 (a + 3) (by omega)).trans c3_22
  have c4_23 := (n23 (a + 4) (by omega)).trans c4_22
  have c5_23 := (n23 (a + 5) (by omega)).trans c5_22
  have c6_23 := (n23 (a + 6) (by omega)).trans c6_22
  have c7_23 := (n23 (a + 7) (by omega)).trans c7_22
  have c8_23 := (n23 (a + 8) (by omega)).trans c8_22
  have c9_23 := (n23 (a + 9) (by omega)).trans c9_22
  have K23 : ∀ c, c < a → z23.1 c = z.1 c := fun c hc => (n23 c (by omega)).trans (K22 c hc)
  refine gx_newH e23 (by omega) (fun z24 c10_24 n24 f24 => ?_)
  have e24 : z24.2 = some (a + 11) := f24
  have h24 := (n24 a (by omega)).trans h23
  have c1_24 := (n24 (a + 1) (by omega)).trans c1_23
  have c2_24 := (n24 (a + 2) (by omega)).trans c2_23
  have c3_24 := (n24 (a + 3) (by omega)).trans c3_23
  have c4_24 := (n24 (a + 4) (by omega)).trans c4_23
  have c5_24 := (n24 (a + 5) (by omega)).trans c5_23
  have c6_24 := (n24 (a + 6) (by omega)).trans c6_23
  have c7_24 := (n24 (a + 7) (by omega)).trans c7_23
  have c8_24 := (n24 (a + 8) (by omega)).trans c8_23
  have c9_24 := (n24 (a + 9) (by omega)).trans c9_23
  have K24 : ∀ c, c < a → z24.1 c = z.1 c := fun c hc => (n24 c (by omega)).trans (K23 c hc)
  refine gx_putH h24 (by decide) (Nat.le_of_ble_eq_true rfl) hA (fun z25 h25 n25 f25 => ?_)
  have e25 := f25.trans e24
  have c1_25 := (n25 (a + 1) (by omega)).trans c1_24
  have c2_25 := (n25 (a + 2) (by omega)).trans c2_24
  have c3_25 := (n25 (a + 3) (by omega)).trans c3_24
  have c4_25 := (n25 (a + 4) (by omega)).trans c4_24
  have c5_25 := (n25 (a + 5) (by omega)).trans c5_24
  have c6_25 := (n25 (a + 6) (by omega)).trans c6_24
  have c7_25 := (n25 (a + 7) (by omega)).trans c7_24
  have c8_25 := (n25 (a + 8) (by omega)).trans c8_24
  have c9_25 := (n25 (a + 9) (by omega)).trans c9_24
  have c10_25 := (n25 (a + 10) (by omega)).trans c10_24
  have K25 : ∀ c, c < a → z25.1 c = z.1 c := fun c hc => (n25 c (by omega)).trans (K24 c hc)
  refine gx_newH e25 (by omega) (fun z26 c11_26 n26 f26 => ?_)
  have e26 : z26.2 = some (a + 12) := f26
  have h26 := (n26 a (by omega)).trans h25
  have c1_26 := (n26 (a + 1) (by omega)).trans c1_25
  have c2_26 := (n26 (a + 2) (by omega)).trans c2_25
  have c3_26 := (n26 (a + 3) (by omega)).trans c3_25
  have c4_26 := (n26 (a + 4) (by omega)).trans c4_25
  have c5_26 := (n26 (a + 5) (by omega)).trans c5_25
  have c6_26 := (n26 (a + 6) (by omega)).trans c6_25
  have c7_26 := (n26 (a + 7) (by omega)).trans c7_25
  have c8_26 := (n26 (a + 8) (by omega)).trans c8_25
  have c9_26 := (n26 (a + 9) (by omega)).trans c9_25
  have c10_26 := (n26 (a + 10) (by omega)).trans c10_25
  have K26 : ∀ c, c < a → z26.1 c = z.1 c := fun c hc => (n26 c (by omega)).trans (K25 c hc)
  refine gx_putH h26 (by decide) (Nat.le_of_ble_eq_true rfl) hA (fun z27 h27 n27 f27 => ?_)
  have e27 := f27.trans e26
  have c1_27 := (n27 (a + 1) (by omega)).trans c1_26
  have c2_27 := (n27 (a + 2) (by omega)).trans c2_26
  have c3_27 := (n27 (a + 3) (by omega)).trans c3_26
  have c4_27 := (n27 (a + 4) (by omega)).trans c4_26
  have c5_27 := (n27 (a + 5) (by omega)).trans c5_26
  have c6_27 := (n27 (a + 6) (by omega)).trans c6_26
  have c7_27 := (n27 (a + 7) (by omega)).trans c7_26
  have c8_27 := (n27 (a + 8) (by omega)).trans c8_26
  have c9_27 := (n27 (a + 9) (by omega)).trans c9_26
  have c10_27 := (n27 (a + 10) (by omega)).trans c10_26
  have c11_27 := (n27 (a + 11) (by omega)).trans c11_26
  have K27 : ∀ c, c < a → z27.1 c = z.1 c := fun c hc => (n27 c (by omega)).trans (K26 c hc)
  have hr : rX5 z27 a rw1 := ⟨h27, c1_27, c2_27, c3_27, c4_27, c5_27, c6_27, c7_27, c8_27, c9_27, c10_27, c11_27⟩
  exact gx_recvQ hr.o (by decide) (q_X5_clear hr hA (by omega)) (fun _ z2 ⟨f, r⟩ => gx_ret ⟨f.2.trans e27, fun c hc => (f.1 c (by omega)).trans (K27 c hc), r⟩)
theorem i_X2 {G : osG} {z : osS} {N a : Nat} (h0 : z.1 a = some (.inr (2, [.int 0, .int 0, .int 0, .int 0, .int 0, .int 0, .null, .null, .null, .null, .null, .null, .null, .null, .null, .null]))) (e0 : z.2 = some (a + 1)) (hA : G.2.2.1 ≤ a) (hN : 5000 < N) : gx (qX2_init N a G z) (fun _ z' => z'.2 = some (a + 11) ∧ (∀ c, c < a → z'.1 c = z.1 c) ∧ rX2 z' a rw0) := by
  unfold qX2_init
  have K0 : ∀ c, c < a → z.1 c = z.1 c := fun _ _ => rfl
  refine gx_putH h0 (by decide) (Nat.le_of_ble_eq_true rfl) hA (fun z1 h1 n1 f1 => ?_)
  have e1 := f1.trans e0
  have K1 : ∀ c, c < a → z1.1 c = z.1 c := fun c hc => (n1 c (by omega)).trans (K0 c hc)
  refine gx_putH h1 (by decide) (Nat.le_of_ble_eq_true rfl) hA (fun z2 h2 n2 f2 => ?_)
  have e2 := f2.trans e1
  have K2 : ∀ c, c < a → z2.1 c = z.1 c := fun c hc => (n2 c (by omega)).trans (K1 c hc)
  refine gx_putH h2 (by decide) (Nat.le_of_ble_eq_true rfl) hA (fun z3 h3 n3 f3 => ?_)
  have e3 := f3.trans e2
  have K3 : ∀ c, c < a → z3.1 c = z.1 c := fun c hc => (n3 c (by omega)).trans (K2 c hc)
  refine gx_putH h3 (by decide) (Nat.le_of_ble_eq_true rfl) hA (fun z4 h4 n4 f4 => ?_)
  have e4 := f4.trans e3
  have K4 : ∀ c, c < a → z4.1 c = z.1 c := fun c hc => (n4 c (by omega)).trans (K3 c hc)
  refine gx_putH h4 (by decide) (Nat.le_of_ble_eq_true rfl) hA (fun z5 h5 n5 f5 => ?_)
  have e5 := f5.trans e4
  have K5 : ∀ c, c < a → z5.1 c = z.1 c := fun c hc => (n5 c (by omega)).trans (K4 c hc)
  refine gx_putH h5 (by decide) (Nat.le_of_ble_eq_true rfl) hA (fun z6 h6 n6 f6 => ?_)
  have e6 := f6.trans e5
  have K6 : ∀ c, c < a → z6.1 c = z.1 c := fun c hc => (n6 c (by omega)).trans (K5 c hc)
  refine gx_newH e6 (by omega) (fun z7 c1_7 n7 f7 => ?_)
  have e7 : z7.2 = some (a + 2) := f7
  have h7 := (n7 a (by omega)).trans h6
  have K7 : ∀ c, c < a → z7.1 c = z.1 c := fun c hc => (n7 c (by omega)).trans (K6 c hc)
  refine gx_putH h7 (by decide) (Nat.le_of_ble_eq_true rfl) hA (fun z8 h8 n8 f8 => ?_)
  have e8 := f8.trans e7
  have c1_8 := (n8 (a + 1) (by omega)).trans c1_7
  have K8 : ∀ c, c < a → z8.1 c = z.1 c := fun c hc => (n8 c (by omega)).trans (K7 c hc)
  refine gx_newH e8 (by omega) (fun z9 c2_9 n9 f9 => ?_)
  have e9 : z9.2 = some (a + 3) := f9
  have h9 := (n9 a (by omega)).trans h8
  have c1_9 := (n9 (a + 1) (by omega)).trans c1_8
  have K9 : ∀ c, c < a → z9.1 c = z.1 c := fun c hc => (n9 c (by omega)).trans (K8 c hc)
  refine gx_putH h9 (by decide) (Nat.le_of_ble_eq_true rfl) hA (fun z10 h10 n10 f10 => ?_)
  have e10 := f10.trans e9
  have c1_10 := (n10 (a + 1) (by omega)).trans c1_9
  have c2_10 := (n10 (a + 2) (by omega)).trans c2_9
  have K10 : ∀ c, c < a → z10.1 c = z.1 c := fun c hc => (n10 c (by omega)).trans (K9 c hc)
  refine gx_newH e10 (by omega) (fun z11 c3_11 n11 f11 => ?_)
  have e11 : z11.2 = some (a + 4) := f11
  have h11 := (n11 a (by omega)).trans h10
  have c1_11 := (n11 (a + 1) (by omega)).trans c1_10
  have c2_11 := (n11 (a + 2) (by omega)).trans c2_10
  have K11 : ∀ c, c < a → z11.1 c = z.1 c := fun c hc => (n11 c (by omega)).trans (K10 c hc)
  refine gx_putH h11 (by decide) (Nat.le_of_ble_eq_true rfl) hA (fun z12 h12 n12 f12 => ?_)
  have e12 := f12.trans e11
  have c1_12 := (n12 (a + 1) (by omega)).trans c1_11
  have c2_12 := (n12 (a + 2) (by omega)).trans c2_11
  have c3_12 := (n12 (a + 3) (by omega)).trans c3_11
  have K12 : ∀ c, c < a → z12.1 c = z.1 c := fun c hc => (n12 c (by omega)).trans (K11 c hc)
  refine gx_newH e12 (by omega) (fun z13 c4_13 n13 f13 => ?_)
  have e13 : z13.2 = some (a + 5) := f13
  have h13 := (n13 a (by omega)).trans h12
  have c1_13 := (n13 (a + 1) (by omega)).trans c1_12
  have c2_13 := (n13 (a + 2) (by omega)).trans c2_12
  have c3_13 := (n13 (a + 3) (by omega)).trans c3_12
  have K13 : ∀ c, c < a → z13.1 c = z.1 c := fun c hc => (n13 c (by omega)).trans (K12 c hc)
  refine gx_putH h13 (by decide) (Nat.le_of_ble_eq_true rfl) hA (fun z14 h14 n14 f14 => ?_)
  have e14 := f14.trans e13
  have c1_14 := (n14 (a + 1) (by omega)).trans c1_13
  have c2_14 := (n14 (a + 2) (by omega)).trans c2_13
  have c3_14 := (n14 (a + 3) (by omega)).trans c3_13
  have c4_14 := (n14 (a + 4) (by omega)).trans c4_13
  have K14 : ∀ c, c < a → z14.1 c = z.1 c := fun c hc => (n14 c (by omega)).trans (K13 c hc)
  refine gx_newH e14 (by omega) (fun z15 c5_15 n15 f15 => ?_)
  have e15 : z15.2 = some (a + 6) := f15
  have h15 := (n15 a (by omega)).trans h14
  have c1_15 := (n15 (a + 1) (by omega)).trans c1_14
  have c2_15 := (n15 (a + 2) (by omega)).trans c2_14
  have c3_15 := (n15 (a + 3) (by omega)).trans c3_14
  have c4_15 := (n15 (a + 4) (by omega)).trans c4_14
  have K15 : ∀ c, c < a → z15.1 c = z.1 c := fun c hc => (n15 c (by omega)).trans (K14 c hc)
  refine gx_putH h15 (by decide) (Nat.le_of_ble_eq_true rfl) hA (fun z16 h16 n16 f16 => ?_)
  have e16 := f16.trans e15
  have c1_16 := (n16 (a + 1) (by omega)).trans c1_15
  have c2_16 := (n16 (a + 2) (by omega)).trans c2_15
  have c3_16 := (n16 (a + 3) (by omega)).trans c3_15
  have c4_16 := (n16 (a + 4) (by omega)).trans c4_15
  have c5_16 := (n16 (a + 5) (by omega)).trans c5_15
  have K16 : ∀ c, c < a → z16.1 c = z.1 c := fun c hc => (n16 c (by omega)).trans (K15 c hc)
  refine gx_newH e16 (by omega) (fun z17 c6_17 n17 f17 => ?_)
  have e17 : z17.2 = some (a + 7) := f17
  have h17 := (n17 a (by omega)).trans h16
  have c1_17 := (n17 (a + 1) (by omega)).trans c1_16
  have c2_17 := (n17 (a + 2) (by omega)).trans c2_16
  have c3_17 := (n17 (a + 3) (by omega)).trans c3_16
  have c4_17 := (n17 (a + 4) (by omega)).trans c4_16
  have c5_17 := (n17 (a + 5) (by omega)).trans c5_16
  have K17 : ∀ c, c < a → z17.1 c = z.1 c := fun c hc => (n17 c (by omega)).trans (K16 c hc)
  refine gx_putH h17 (by decide) (Nat.le_of_ble_eq_true rfl) hA (fun z18 h18 n18 f18 => ?_)
  have e18 := f18.trans e17
  have c1_18 := (n18 (a + 1) (by omega)).trans c1_17
  have c2_18 := (n18 (a + 2) (by omega)).trans c2_17
  have c3_18 := (n18 (a + 3) (by omega)).trans c3_17
  have c4_18 := (n18 (a + 4) (by omega)).trans c4_17
  have c5_18 := (n18 (a + 5) (by omega)).trans c5_17
  have c6_18 := (n18 (a + 6) (by omega)).trans c6_17
  have K18 : ∀ c, c < a → z18.1 c = z.1 c := fun c hc => (n18 c (by omega)).trans (K17 c hc)
  refine gx_newH e18 (by omega) (fun z19 c7_19 n19 f19 => ?_)
  have e19 : z19.2 = some (a + 8) := f19
  have h19 := (n19 a (by omega)).trans h18
  have c1_19 := (n19 (a + 1) (by omega)).trans c1_18
  have c2_19 := (n19 (a + 2) (by omega)).trans c2_18
  have c3_19 := (n19 (a + 3) (by omega)).trans c3_18
  have c4_19 := (n19 (a + 4) (by omega)).trans c4_18
  have c5_19 := (n19 (a + 5) (by omega)).trans c5_18
  have c6_19 := (n19 (a + 6) (by omega)).trans c6_18
  have K19 : ∀ c, c < a → z19.1 c = z.1 c := fun c hc => (n19 c (by omega)).trans (K18 c hc)
  refine gx_putH h19 (by decide) (Nat.le_of_ble_eq_true rfl) hA (fun z20 h20 n20 f20 => ?_)
  have e20 := f20.trans e19
  have c1_20 := (n20 (a + 1) (by omega)).trans c1_19
  have c2_20 := (n20 (a + 2) (by omega)).trans c2_19
  have c3_20 := (n20 (a + 3) (by omega)).trans c3_19
  have c4_20 := (n20 (a + 4) (by omega)).trans c4_19
  have c5_20 := (n20 (a + 5) (by omega)).trans c5_19
  have c6_20 := (n20 (a + 6) (by omega)).trans c6_19
  have c7_20 := (n20 (a + 7) (by omega)).trans c7_19
  have K20 : ∀ c, c < a → z20.1 c = z.1 c := fun c hc => (n20 c (by omega)).trans (K19 c hc)
  refine gx_newH e20 (by omega) (fun z21 c8_21 n21 f21 => ?_)
  have e21 : z21.2 = some (a + 9) := f21
  have h21 := (n21 a (by omega)).trans h20
  have c1_21 := (n21 (a + 1) (by omega)).trans c1_20
  have c2_21 := (n21 (a + 2) (by omega)).trans c2_20
  have c3_21 := (n21 (a + 3) (by omega)).trans c3_20
  have c4_21 := (n21 (a + 4) (by omega)).trans c4_20
  have c5_21 := (n21 (a + 5) (by omega)).trans c5_20
  have c6_21 := (n21 (a + 6) (by omega)).trans c6_20
  have c7_21 := (n21 (a + 7) (by omega)).trans c7_20
  have K21 : ∀ c, c < a → z21.1 c = z.1 c := fun c hc => (n21 c (by omega)).trans (K20 c hc)
  refine gx_putH h21 (by decide) (Nat.le_of_ble_eq_true rfl) hA (fun z22 h22 n22 f22 => ?_)
  have e22 := f22.trans e21
  have c1_22 := (n22 (a + 1) (by omega)).trans c1_21
  have c2_22 := (n22 (a + 2) (by omega)).trans c2_21
  have c3_22 := (n22 (a + 3) (by omega)).trans c3_21
  have c4_22 := (n22 (a + 4) (by omega)).trans c4_21
  have c5_22 := (n22 (a + 5) (by omega)).trans c5_21
  have c6_22 := (n22 (a + 6) (by omega)).trans c6_21
  have c7_22 := (n22 (a + 7) (by omega)).trans c7_21
  have c8_22 := (n22 (a + 8) (by omega)).trans c8_21
  have K22 : ∀ c, c < a → z22.1 c = z.1 c := fun c hc => (n22 c (by omega)).trans (K21 c hc)
  refine gx_newH e22 (by omega) (fun z23 c9_23 n23 f23 => ?_)
  have e23 : z23.2 = some (a + 10) := f23
  have h23 := (n23 a (by omega)).trans h22
  have c1_23 := (n23 (a + 1) (by omega)).trans c1_22
  have c2_23 := (n23 (a + 2) (by omega)).trans c2_22
  have c3_23 := (n23 (a + 3) (by omega)).trans c3_22
  have c4_23 := (n23 (a + 4) (by omega)).trans c4_22
  have c5_23 := (n23 (a + 5) (by omega)).trans c5_22
  have c6_23 := (n23 (a + 6) (by omega)).trans c6_22
  have c7_23 := (n23 (a + 7) (by omega)).trans c7_22
  have c8_23 := (n23 (a + 8) (by omega)).trans c8_22
  have K23 : ∀ c, c < a → z23.1 c = z.1 c := fun c hc => (n23 c (by omega)).trans (K22 c hc)
  refine gx_putH h23 (by decide) (Nat.le_of_ble_eq_true rfl) hA (fun z24 h24 n24 f24 => ?_)
  have e24 := f24.trans e23
  have c1_24 := (n24 (a + 1) (by omega)).trans c1_23
  have c2_24 := (n24 (a + 2) (by omega)).trans c2_23
  have c3_24 := (n24 (a + 3) (by omega)).trans c3_23
  have c4_24 := (n24 (a + 4) (by omega)).trans c4_23
  have c5_24 := (n24 (a + 5) (by omega)).trans c5_23
  have c6_24 := (n24 (a + 6) (by omega)).trans c6_23
  have c7_24 := (n24 (a + 7) (by omega)).trans c7_23
  have c8_24 := (n24 (a + 8) (by omega)).trans c8_23
  have c9_24 := (n24 (a + 9) (by omega)).trans c9_23
  have K24 : ∀ c, c < a → z24.1 c = z.1 c := fun c hc => (n24 c (by omega)).trans (K23 c hc)
  refine gx_newH e24 (by omega) (fun z25 c10_25 n25 f25 => ?_)
  have e25 : z25.2 = some (a + 11) := f25
  have h25 := (n25 a (by omega)).trans h24
  have c1_25 := (n25 (a + 1) (by omega)).trans c1_24
  have c2_25 := (n25 (a + 2) (by omega)).trans c2_24
  have c3_25 := (n25 (a + 3) (by omega)).trans c3_24
  have c4_25 := (n25 (a + 4) (by omega)).trans c4_24
  have c5_25 := (n25 (a + 5) (by omega)).trans c5_24
  have c6_25 := (n25 (a + 6) (by omega)).trans c6_24
  have c7_25 := (n25 (a + 7) (by omega)).trans c7_24
  have c8_25 := (n25 (a + 8) (by omega)).trans c8_24
  have c9_25 := (n25 (a + 9) (by omega)).trans c9_24
  have K25 : ∀ c, c < a → z25.1 c = z.1 c := fun c hc => (n25 c (by omega)).trans (K24 c hc)
  refine gx_putH h25 (by decide) (Nat.le_of_ble_eq_true rfl) hA (fun z26 h26 n26 f26 => ?_)
  have e26 := f26.trans e25
  have c1_26 := (n26 (a + 1) (by omega)).trans c1_25
  have c2_26 := (n26 (a + 2) (by omega)).trans c2_25
  have c3_26 := (n26 (a + 3) (by omega)).trans c3_25
  have c4_26 := (n26 (a + 4) (by omega)).trans c4_25
  have c5_26 := (n26 (a + 5) (by omega)).trans c5_25
  have c6_26 := (n26 (a + 6) (by omega)).trans c6_25
  have c7_26 := (n26 (a + 7) (by omega)).trans c7_25
  have c8_26 := (n26 (a + 8) (by omega)).trans c8_25
  have c9_26 := (n26 (a + 9) (by omega)).trans c9_25
  have c10_26 := (n26 (a + 10) (by omega)).trans c10_25
  have K26 : ∀ c, c < a → z26.1 c = z.1 c := fun c hc => (n26 c (by omega)).trans (K25 c hc)
  exact gx_ret ⟨e26, K26, h26, c1_26, c2_26, c3_26, c4_26, c5_26, c6_26, c7_26, c8_26, c9_26, c10_26⟩
theorem i_X4 {G : osG} {z : osS} {N a : Nat} (h0 : z.1 a = some (.inr (4, [.null, .int 0]))) (e0 : z.2 = some (a + 1)) (hA : G.2.2.1 ≤ a) (hN : 5000 < N) : gx (qX4_init N a G z) (fun _ z' => z'.2 = some (a + 2) ∧ (∀ c, c < a → z'.1 c = z.1 c) ∧ rX4 z' a rw0) := by
  unfold qX4_init
  have K0 : ∀ c, c < a → z.1 c = z.1 c := fun _ _ => rfl
  refine gx_newH e0 (by omega) (fun z1 c1_1 n1 f1 => ?_)
  have e1 : z1.2 = some (a + 2) := f1
  have h1 := (n1 a (by omega)).trans h0
  have K1 : ∀ c, c < a → z1.1 c = z.1 c := fun c hc => (n1 c (by omega)).trans (K0 c hc)
  refine gx_putH h1 (by decide) (Nat.le_of_ble_eq_true rfl) hA (fun z2 h2 n2 f2 => ?_)
  have e2 := f2.trans e1
  have c1_2 := (n2 (a + 1) (by omega)).trans c1_1
  have K2 : ∀ c, c < a → z2.1 c = z.1 c := fun c hc => (n2 c (by omega)).trans (K1 c hc)
  refine gx_putH h2 (by decide) (Nat.le_of_ble_eq_true rfl) hA (fun z3 h3 n3 f3 => ?_)
  have e3 := f3.trans e2
  have c1_3 := (n3 (a + 1) (by omega)).trans c1_2
  have K3 : ∀ c, c < a → z3.1 c = z.1 c := fun c hc => (n3 c (by omega)).trans (K2 c hc)
  exact gx_ret ⟨e3, K3, h3, c1_3⟩
