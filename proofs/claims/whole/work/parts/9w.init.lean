/-! constructors (3): the reference's cells (by program) -/
theorem i_X10 {G : osG} {z : osS} {N a : Nat} (h0 : z.1 a = some (.inr (8, [.int 0, .null, .null, .null, .null, .null, .null, .null, .int 0, .null, .int 0, .int 0, .int 0, .int 0, .int 0, .int 0, .int 0, .int 0, .long 0, .int 0, .int 0, .null, .null, .null, .null, .null, .int 0, .int 0, .int 0, .int 0, .int 0, .int 0, .null, .null, .null, .null, .int 0, .int 0, .int 0, .null, .null, .null, .int 0]))) (e0 : z.2 = some (a + 1)) (hA : G.2.2.1 ≤ a) {Q : Unit → osS → Prop} (kk : ∀ z1 : osS, z1.2 = some (a + 21) → (∀ c, c < a → z1.1 c = z.1 c) → rX10 z1 a rw17 dw0 → gx ((osbind (osrecv [8] a (qX10_clears N a)) fun _ => osbind (osrecv [8] a (qX10_settles N a)) fun _ => osret ()) G z1) Q) : gx (qX10_init N a G z) Q := by
  unfold qX10_init
  have K0 : ∀ c, c < a → z.1 c = z.1 c := fun _ _ => rfl
  refine gx_newH e0 (by omega) (fun z1 c1_1 n1 f1 => ?_)
  have e1 : z1.2 = some (a + 2) := f1
  have h1 := (n1 a (by omega)).trans h0
  have K1 : ∀ c, c < a → z1.1 c = z.1 c := fun c hc => (n1 c (by omega)).trans (K0 c hc)
  refine gx_putH h1 (by decide) (Nat.le_of_ble_eq_true rfl) hA (fun z2 g2 n2 f2 => ?_)
  have h2 : z2.1 a = some (.inr (8, [.int 0, .ref (a + 1), .null, .null, .null, .null, .null, .null, .int 0, .null, .int 0, .int 0, .int 0, .int 0, .int 0, .int 0, .int 0, .int 0, .long 0, .int 0, .int 0, .null, .null, .null, .null, .null, .int 0, .int 0, .int 0, .int 0, .int 0, .int 0, .null, .null, .null, .null, .int 0, .int 0, .int 0, .null, .null, .null, .int 0])) := g2
  clear g2
  have e2 := f2.trans e1
  have c1_2 := (n2 (a + 1) (by omega)).trans c1_1
  have K2 : ∀ c, c < a → z2.1 c = z.1 c := fun c hc => (n2 c (by omega)).trans (K1 c hc)
  clear c1_1 K1 n2 f2 h1 e1
  refine gx_newH e2 (by omega) (fun z3 c2_3 n3 f3 => ?_)
  have e3 : z3.2 = some (a + 3) := f3
  have h3 := (n3 a (by omega)).trans h2
  have c1_3 := (n3 (a + 1) (by omega)).trans c1_2
  have K3 : ∀ c, c < a → z3.1 c = z.1 c := fun c hc => (n3 c (by omega)).trans (K2 c hc)
  clear c1_2 K2 n3 f3 h2 e2
  refine gx_putH h3 (by decide) (Nat.le_of_ble_eq_true rfl) hA (fun z4 g4 n4 f4 => ?_)
  have h4 : z4.1 a = some (.inr (8, [.int 0, .ref (a + 1), .ref (a + 2), .null, .null, .null, .null, .null, .int 0, .null, .int 0, .int 0, .int 0, .int 0, .int 0, .int 0, .int 0, .int 0, .long 0, .int 0, .int 0, .null, .null, .null, .null, .null, .int 0, .int 0, .int 0, .int 0, .int 0, .int 0, .null, .null, .null, .null, .int 0, .int 0, .int 0, .null, .null, .null, .int 0])) := g4
  clear g4
  have e4 := f4.trans e3
  have c1_4 := (n4 (a + 1) (by omega)).trans c1_3
  have c2_4 := (n4 (a + 2) (by omega)).trans c2_3
  have K4 : ∀ c, c < a → z4.1 c = z.1 c := fun c hc => (n4 c (by omega)).trans (K3 c hc)
  clear c1_3 c2_3 K3 n4 f4 h3 e3
  refine gx_newH e4 (by omega) (fun z5 c3_5 n5 f5 => ?_)
  have e5 : z5.2 = some (a + 4) := f5
  have h5 := (n5 a (by omega)).trans h4
  have c1_5 := (n5 (a + 1) (by omega)).trans c1_4
  have c2_5 := (n5 (a + 2) (by omega)).trans c2_4
  have K5 : ∀ c, c < a → z5.1 c = z.1 c := fun c hc => (n5 c (by omega)).trans (K4 c hc)
  clear c1_4 c2_4 K4 n5 f5 h4 e4
  refine gx_putH h5 (by decide) (Nat.le_of_ble_eq_true rfl) hA (fun z6 g6 n6 f6 => ?_)
  have h6 : z6.1 a = some (.inr (8, [.int 0, .ref (a + 1), .ref (a + 2), .ref (a + 3), .null, .null, .null, .null, .int 0, .null, .int 0, .int 0, .int 0, .int 0, .int 0, .int 0, .int 0, .int 0, .long 0, .int 0, .int 0, .null, .null, .null, .null, .null, .int 0, .int 0, .int 0, .int 0, .int 0, .int 0, .null, .null, .null, .null, .int 0, .int 0, .int 0, .null, .null, .null, .int 0])) := g6
  clear g6
  have e6 := f6.trans e5
  have c1_6 := (n6 (a + 1) (by omega)).trans c1_5
  have c2_6 := (n6 (a + 2) (by omega)).trans c2_5
  have c3_6 := (n6 (a + 3) (by omega)).trans c3_5
  have K6 : ∀ c, c < a → z6.1 c = z.1 c := fun c hc => (n6 c (by omega)).trans (K5 c hc)
  clear c1_5 c2_5 c3_5 K5 n6 f6 h5 e5
  refine gx_newH e6 (by omega) (fun z7 c4_7 n7 f7 => ?_)
  have e7 : z7.2 = some (a + 5) := f7
  have h7 := (n7 a (by omega)).trans h6
  have c1_7 := (n7 (a + 1) (by omega)).trans c1_6
  have c2_7 := (n7 (a + 2) (by omega)).trans c2_6
  have c3_7 := (n7 (a + 3) (by omega)).trans c3_6
  have K7 : ∀ c, c < a → z7.1 c = z.1 c := fun c hc => (n7 c (by omega)).trans (K6 c hc)
  clear c1_6 c2_6 c3_6 K6 n7 f7 h6 e6
  refine gx_putH h7 (by decide) (Nat.le_of_ble_eq_true rfl) hA (fun z8 g8 n8 f8 => ?_)
  have h8 : z8.1 a = some (.inr (8, [.int 0, .ref (a + 1), .ref (a + 2), .ref (a + 3), .ref (a + 4), .null, .null, .null, .int 0, .null, .int 0, .int 0, .int 0, .int 0, .int 0, .int 0, .int 0, .int 0, .long 0, .int 0, .int 0, .null, .null, .null, .null, .null, .int 0, .int 0, .int 0, .int 0, .int 0, .int 0, .null, .null, .null, .null, .int 0, .int 0, .int 0, .null, .null, .null, .int 0])) := g8
  clear g8
  have e8 := f8.trans e7
  have c1_8 := (n8 (a + 1) (by omega)).trans c1_7
  have c2_8 := (n8 (a + 2) (by omega)).trans c2_7
  have c3_8 := (n8 (a + 3) (by omega)).trans c3_7
  have c4_8 := (n8 (a + 4) (by omega)).trans c4_7
  have K8 : ∀ c, c < a → z8.1 c = z.1 c := fun c hc => (n8 c (by omega)).trans (K7 c hc)
  clear c1_7 c2_7 c3_7 c4_7 K7 n8 f8 h7 e7
  refine gx_newH e8 (by omega) (fun z9 c5_9 n9 f9 => ?_)
  have e9 : z9.2 = some (a + 6) := f9
  have h9 := (n9 a (by omega)).trans h8
  have c1_9 := (n9 (a + 1) (by omega)).trans c1_8
  have c2_9 := (n9 (a + 2) (by omega)).trans c2_8
  have c3_9 := (n9 (a + 3) (by omega)).trans c3_8
  have c4_9 := (n9 (a + 4) (by omega)).trans c4_8
  have K9 : ∀ c, c < a → z9.1 c = z.1 c := fun c hc => (n9 c (by omega)).trans (K8 c hc)
  clear c1_8 c2_8 c3_8 c4_8 K8 n9 f9 h8 e8
  refine gx_putH h9 (by decide) (Nat.le_of_ble_eq_true rfl) hA (fun z10 g10 n10 f10 => ?_)
  have h10 : z10.1 a = some (.inr (8, [.int 0, .ref (a + 1), .ref (a + 2), .ref (a + 3), .ref (a + 4), .ref (a + 5), .null, .null, .int 0, .null, .int 0, .int 0, .int 0, .int 0, .int 0, .int 0, .int 0, .int 0, .long 0, .int 0, .int 0, .null, .null, .null, .null, .null, .int 0, .int 0, .int 0, .int 0, .int 0, .int 0, .null, .null, .null, .null, .int 0, .int 0, .int 0, .null, .null, .null, .int 0])) := g10
  clear g10
  have e10 := f10.trans e9
  have c1_10 := (n10 (a + 1) (by omega)).trans c1_9
  have c2_10 := (n10 (a + 2) (by omega)).trans c2_9
  have c3_10 := (n10 (a + 3) (by omega)).trans c3_9
  have c4_10 := (n10 (a + 4) (by omega)).trans c4_9
  have c5_10 := (n10 (a + 5) (by omega)).trans c5_9
  have K10 : ∀ c, c < a → z10.1 c = z.1 c := fun c hc => (n10 c (by omega)).trans (K9 c hc)
  clear c1_9 c2_9 c3_9 c4_9 c5_9 K9 n10 f10 h9 e9
  refine gx_newH e10 (by omega) (fun z11 c6_11 n11 f11 => ?_)
  have e11 : z11.2 = some (a + 7) := f11
  have h11 := (n11 a (by omega)).trans h10
  have c1_11 := (n11 (a + 1) (by omega)).trans c1_10
  have c2_11 := (n11 (a + 2) (by omega)).trans c2_10
  have c3_11 := (n11 (a + 3) (by omega)).trans c3_10
  have c4_11 := (n11 (a + 4) (by omega)).trans c4_10
  have c5_11 := (n11 (a + 5) (by omega)).trans c5_10
  have K11 : ∀ c, c < a → z11.1 c = z.1 c := fun c hc => (n11 c (by omega)).trans (K10 c hc)
  clear c1_10 c2_10 c3_10 c4_10 c5_10 K10 n11 f11 h10 e10
  refine gx_putH h11 (by decide) (Nat.le_of_ble_eq_true rfl) hA (fun z12 g12 n12 f12 => ?_)
  have h12 : z12.1 a = some (.inr (8, [.int 0, .ref (a + 1), .ref (a + 2), .ref (a + 3), .ref (a + 4), .ref (a + 5), .ref (a + 6), .null, .int 0, .null, .int 0, .int 0, .int 0, .int 0, .int 0, .int 0, .int 0, .int 0, .long 0, .int 0, .int 0, .null, .null, .null, .null, .null, .int 0, .int 0, .int 0, .int 0, .int 0, .int 0, .null, .null, .null, .null, .int 0, .int 0, .int 0, .null, .null, .null, .int 0])) := g12
  clear g12
  have e12 := f12.trans e11
  have c1_12 := (n12 (a + 1) (by omega)).trans c1_11
  have c2_12 := (n12 (a + 2) (by omega)).trans c2_11
  have c3_12 := (n12 (a + 3) (by omega)).trans c3_11
  have c4_12 := (n12 (a + 4) (by omega)).trans c4_11
  have c5_12 := (n12 (a + 5) (by omega)).trans c5_11
  have c6_12 := (n12 (a + 6) (by omega)).trans c6_11
  have K12 : ∀ c, c < a → z12.1 c = z.1 c := fun c hc => (n12 c (by omega)).trans (K11 c hc)
  clear c1_11 c2_11 c3_11 c4_11 c5_11 c6_11 K11 n12 f12 h11 e11
  refine gx_newH e12 (by omega) (fun z13 c7_13 n13 f13 => ?_)
  have e13 : z13.2 = some (a + 8) := f13
  have h13 := (n13 a (by omega)).trans h12
  have c1_13 := (n13 (a + 1) (by omega)).trans c1_12
  have c2_13 := (n13 (a + 2) (by omega)).trans c2_12
  have c3_13 := (n13 (a + 3) (by omega)).trans c3_12
  have c4_13 := (n13 (a + 4) (by omega)).trans c4_12
  have c5_13 := (n13 (a + 5) (by omega)).trans c5_12
  have c6_13 := (n13 (a + 6) (by omega)).trans c6_12
  have K13 : ∀ c, c < a → z13.1 c = z.1 c := fun c hc => (n13 c (by omega)).trans (K12 c hc)
  clear c1_12 c2_12 c3_12 c4_12 c5_12 c6_12 K12 n13 f13 h12 e12
  refine gx_putH h13 (by decide) (Nat.le_of_ble_eq_true rfl) hA (fun z14 g14 n14 f14 => ?_)
  have h14 : z14.1 a = some (.inr (8, [.int 0, .ref (a + 1), .ref (a + 2), .ref (a + 3), .ref (a + 4), .ref (a + 5), .ref (a + 6), .ref (a + 7), .int 0, .null, .int 0, .int 0, .int 0, .int 0, .int 0, .int 0, .int 0, .int 0, .long 0, .int 0, .int 0, .null, .null, .null, .null, .null, .int 0, .int 0, .int 0, .int 0, .int 0, .int 0, .null, .null, .null, .null, .int 0, .int 0, .int 0, .null, .null, .null, .int 0])) := g14
  clear g14
  have e14 := f14.trans e13
  have c1_14 := (n14 (a + 1) (by omega)).trans c1_13
  have c2_14 := (n14 (a + 2) (by omega)).trans c2_13
  have c3_14 := (n14 (a + 3) (by omega)).trans c3_13
  have c4_14 := (n14 (a + 4) (by omega)).trans c4_13
  have c5_14 := (n14 (a + 5) (by omega)).trans c5_13
  have c6_14 := (n14 (a + 6) (by omega)).trans c6_13
  have c7_14 := (n14 (a + 7) (by omega)).trans c7_13
  have K14 : ∀ c, c < a → z14.1 c = z.1 c := fun c hc => (n14 c (by omega)).trans (K13 c hc)
  clear c1_13 c2_13 c3_13 c4_13 c5_13 c6_13 c7_13 K13 n14 f14 h13 e13
  refine gx_newH e14 (by omega) (fun z15 c8_15 n15 f15 => ?_)
  have e15 : z15.2 = some (a + 9) := f15
  have h15 := (n15 a (by omega)).trans h14
  have c1_15 := (n15 (a + 1) (by omega)).trans c1_14
  have c2_15 := (n15 (a + 2) (by omega)).trans c2_14
  have c3_15 := (n15 (a + 3) (by omega)).trans c3_14
  have c4_15 := (n15 (a + 4) (by omega)).trans c4_14
  have c5_15 := (n15 (a + 5) (by omega)).trans c5_14
  have c6_15 := (n15 (a + 6) (by omega)).trans c6_14
  have c7_15 := (n15 (a + 7) (by omega)).trans c7_14
  have K15 : ∀ c, c < a → z15.1 c = z.1 c := fun c hc => (n15 c (by omega)).trans (K14 c hc)
  clear c1_14 c2_14 c3_14 c4_14 c5_14 c6_14 c7_14 K14 n15 f15 h14 e14
  refine gx_putH h15 (by decide) (Nat.le_of_ble_eq_true rfl) hA (fun z16 g16 n16 f16 => ?_)
  have h16 : z16.1 a = some (.inr (8, [.int 0, .ref (a + 1), .ref (a + 2), .ref (a + 3), .ref (a + 4), .ref (a + 5), .ref (a + 6), .ref (a + 7), .int 0, .ref (a + 8), .int 0, .int 0, .int 0, .int 0, .int 0, .int 0, .int 0, .int 0, .long 0, .int 0, .int 0, .null, .null, .null, .null, .null, .int 0, .int 0, .int 0, .int 0, .int 0, .int 0, .null, .null, .null, .null, .int 0, .int 0, .int 0, .null, .null, .null, .int 0])) := g16
  clear g16
  have e16 := f16.trans e15
  have c1_16 := (n16 (a + 1) (by omega)).trans c1_15
  have c2_16 := (n16 (a + 2) (by omega)).trans c2_15
  have c3_16 := (n16 (a + 3) (by omega)).trans c3_15
  have c4_16 := (n16 (a + 4) (by omega)).trans c4_15
  have c5_16 := (n16 (a + 5) (by omega)).trans c5_15
  have c6_16 := (n16 (a + 6) (by omega)).trans c6_15
  have c7_16 := (n16 (a + 7) (by omega)).trans c7_15
  have c8_16 := (n16 (a + 8) (by omega)).trans c8_15
  have K16 : ∀ c, c < a → z16.1 c = z.1 c := fun c hc => (n16 c (by omega)).trans (K15 c hc)
  clear c1_15 c2_15 c3_15 c4_15 c5_15 c6_15 c7_15 c8_15 K15 n16 f16 h15 e15
  refine gx_putH h16 (by decide) (Nat.le_of_ble_eq_true rfl) hA (fun z17 g17 n17 f17 => ?_)
  have h17 : z17.1 a = some (.inr (8, [.int 0, .ref (a + 1), .ref (a + 2), .ref (a + 3), .ref (a + 4), .ref (a + 5), .ref (a + 6), .ref (a + 7), .int 0, .ref (a + 8), .int 0, .int 0, .int 0, .int 0, .int 0, .int 0, .int 0, .int (-1), .long 0, .int 0, .int 0, .null, .null, .null, .null, .null, .int 0, .int 0, .int 0, .int 0, .int 0, .int 0, .null, .null, .null, .null, .int 0, .int 0, .int 0, .null, .null, .null, .int 0])) := g17
  clear g17
  have e17 := f17.trans e16
  have c1_17 := (n17 (a + 1) (by omega)).trans c1_16
  have c2_17 := (n17 (a + 2) (by omega)).trans c2_16
  have c3_17 := (n17 (a + 3) (by omega)).trans c3_16
  have c4_17 := (n17 (a + 4) (by omega)).trans c4_16
  have c5_17 := (n17 (a + 5) (by omega)).trans c5_16
  have c6_17 := (n17 (a + 6) (by omega)).trans c6_16
  have c7_17 := (n17 (a + 7) (by omega)).trans c7_16
  have c8_17 := (n17 (a + 8) (by omega)).trans c8_16
  have K17 : ∀ c, c < a → z17.1 c = z.1 c := fun c hc => (n17 c (by omega)).trans (K16 c hc)
  clear c1_16 c2_16 c3_16 c4_16 c5_16 c6_16 c7_16 c8_16 K16 n17 f17 h16 e16
  refine gx_newH e17 (by omega) (fun z18 c9_18 n18 f18 => ?_)
  have e18 : z18.2 = some (a + 10) := f18
  have h18 := (n18 a (by omega)).trans h17
  have c1_18 := (n18 (a + 1) (by omega)).trans c1_17
  have c2_18 := (n18 (a + 2) (by omega)).trans c2_17
  have c3_18 := (n18 (a + 3) (by omega)).trans c3_17
  have c4_18 := (n18 (a + 4) (by omega)).trans c4_17
  have c5_18 := (n18 (a + 5) (by omega)).trans c5_17
  have c6_18 := (n18 (a + 6) (by omega)).trans c6_17
  have c7_18 := (n18 (a + 7) (by omega)).trans c7_17
  have c8_18 := (n18 (a + 8) (by omega)).trans c8_17
  have K18 : ∀ c, c < a → z18.1 c = z.1 c := fun c hc => (n18 c (by omega)).trans (K17 c hc)
  clear c1_17 c2_17 c3_17 c4_17 c5_17 c6_17 c7_17 c8_17 K17 n18 f18 h17 e17
  refine gx_putH h18 (by decide) (Nat.le_of_ble_eq_true rfl) hA (fun z19 g19 n19 f19 => ?_)
  have h19 : z19.1 a = some (.inr (8, [.int 0, .ref (a + 1), .ref (a + 2), .ref (a + 3), .ref (a + 4), .ref (a + 5), .ref (a + 6), .ref (a + 7), .int 0, .ref (a + 8), .int 0, .int 0, .int 0, .int 0, .int 0, .int 0, .int 0, .int (-1), .long 0, .int 0, .int 0, .ref (a + 9), .null, .null, .null, .null, .int 0, .int 0, .int 0, .int 0, .int 0, .int 0, .null, .null, .null, .null, .int 0, .int 0, .int 0, .null, .null, .null, .int 0])) := g19
  clear g19
  have e19 := f19.trans e18
  have c1_19 := (n19 (a + 1) (by omega)).trans c1_18
  have c2_19 := (n19 (a + 2) (by omega)).trans c2_18
  have c3_19 := (n19 (a + 3) (by omega)).trans c3_18
  have c4_19 := (n19 (a + 4) (by omega)).trans c4_18
  have c5_19 := (n19 (a + 5) (by omega)).trans c5_18
  have c6_19 := (n19 (a + 6) (by omega)).trans c6_18
  have c7_19 := (n19 (a + 7) (by omega)).trans c7_18
  have c8_19 := (n19 (a + 8) (by omega)).trans c8_18
  have c9_19 := (n19 (a + 9) (by omega)).trans c9_18
  have K19 : ∀ c, c < a → z19.1 c = z.1 c := fun c hc => (n19 c (by omega)).trans (K18 c hc)
  clear c1_18 c2_18 c3_18 c4_18 c5_18 c6_18 c7_18 c8_18 c9_18 K18 n19 f19 h18 e18
  refine gx_newH e19 (by omega) (fun z20 c10_20 n20 f20 => ?_)
  have e20 : z20.2 = some (a + 11) := f20
  have h20 := (n20 a (by omega)).trans h19
  have c1_20 := (n20 (a + 1) (by omega)).trans c1_19
  have c2_20 := (n20 (a + 2) (by omega)).trans c2_19
  have c3_20 := (n20 (a + 3) (by omega)).trans c3_19
  have c4_20 := (n20 (a + 4) (by omega)).trans c4_19
  have c5_20 := (n20 (a + 5) (by omega)).trans c5_19
  have c6_20 := (n20 (a + 6) (by omega)).trans c6_19
  have c7_20 := (n20 (a + 7) (by omega)).trans c7_19
  have c8_20 := (n20 (a + 8) (by omega)).trans c8_19
  have c9_20 := (n20 (a + 9) (by omega)).trans c9_19
  have K20 : ∀ c, c < a → z20.1 c = z.1 c := fun c hc => (n20 c (by omega)).trans (K19 c hc)
  clear c1_19 c2_19 c3_19 c4_19 c5_19 c6_19 c7_19 c8_19 c9_19 K19 n20 f20 h19 e19
  refine gx_putH h20 (by decide) (Nat.le_of_ble_eq_true rfl) hA (fun z21 g21 n21 f21 => ?_)
  have h21 : z21.1 a = some (.inr (8, [.int 0, .ref (a + 1), .ref (a + 2), .ref (a + 3), .ref (a + 4), .ref (a + 5), .ref (a + 6), .ref (a + 7), .int 0, .ref (a + 8), .int 0, .int 0, .int 0, .int 0, .int 0, .int 0, .int 0, .int (-1), .long 0, .int 0, .int 0, .ref (a + 9), .ref (a + 10), .null, .null, .null, .int 0, .int 0, .int 0, .int 0, .int 0, .int 0, .null, .null, .null, .null, .int 0, .int 0, .int 0, .null, .null, .null, .int 0])) := g21
  clear g21
  have e21 := f21.trans e20
  have c1_21 := (n21 (a + 1) (by omega)).trans c1_20
  have c2_21 := (n21 (a + 2) (by omega)).trans c2_20
  have c3_21 := (n21 (a + 3) (by omega)).trans c3_20
  have c4_21 := (n21 (a + 4) (by omega)).trans c4_20
  have c5_21 := (n21 (a + 5) (by omega)).trans c5_20
  have c6_21 := (n21 (a + 6) (by omega)).trans c6_20
  have c7_21 := (n21 (a + 7) (by omega)).trans c7_20
  have c8_21 := (n21 (a + 8) (by omega)).trans c8_20
  have c9_21 := (n21 (a + 9) (by omega)).trans c9_20
  have c10_21 := (n21 (a + 10) (by omega)).trans c10_20
  have K21 : ∀ c, c < a → z21.1 c = z.1 c := fun c hc => (n21 c (by omega)).trans (K20 c hc)
  clear c1_20 c2_20 c3_20 c4_20 c5_20 c6_20 c7_20 c8_20 c9_20 c10_20 K20 n21 f21 h20 e20
  refine gx_newH e21 (by omega) (fun z22 c11_22 n22 f22 => ?_)
  have e22 : z22.2 = some (a + 12) := f22
  have h22 := (n22 a (by omega)).trans h21
  have c1_22 := (n22 (a + 1) (by omega)).trans c1_21
  have c2_22 := (n22 (a + 2) (by omega)).trans c2_21
  have c3_22 := (n22 (a + 3) (by omega)).trans c3_21
  have c4_22 := (n22 (a + 4) (by omega)).trans c4_21
  have c5_22 := (n22 (a + 5) (by omega)).trans c5_21
  have c6_22 := (n22 (a + 6) (by omega)).trans c6_21
  have c7_22 := (n22 (a + 7) (by omega)).trans c7_21
  have c8_22 := (n22 (a + 8) (by omega)).trans c8_21
  have c9_22 := (n22 (a + 9) (by omega)).trans c9_21
  have c10_22 := (n22 (a + 10) (by omega)).trans c10_21
  have K22 : ∀ c, c < a → z22.1 c = z.1 c := fun c hc => (n22 c (by omega)).trans (K21 c hc)
  clear c1_21 c2_21 c3_21 c4_21 c5_21 c6_21 c7_21 c8_21 c9_21 c10_21 K21 n22 f22 h21 e21
  refine gx_putH h22 (by decide) (Nat.le_of_ble_eq_true rfl) hA (fun z23 g23 n23 f23 => ?_)
  have h23 : z23.1 a = some (.inr (8, [.int 0, .ref (a + 1), .ref (a + 2), .ref (a + 3), .ref (a + 4), .ref (a + 5), .ref (a + 6), .ref (a + 7), .int 0, .ref (a + 8), .int 0, .int 0, .int 0, .int 0, .int 0, .int 0, .int 0, .int (-1), .long 0, .int 0, .int 0, .ref (a + 9), .ref (a + 10), .ref (a + 11), .null, .null, .int 0, .int 0, .int 0, .int 0, .int 0, .int 0, .null, .null, .null, .null, .int 0, .int 0, .int 0, .null, .null, .null, .int 0])) := g23
  clear g23
  have e23 := f23.trans e22
  have c1_23 := (n23 (a + 1) (by omega)).trans c1_22
  have c2_23 := (n23 (a + 2) (by omega)).trans c2_22
  have c3_23 := (n23 (a + 3) (by omega)).trans c3_22
  have c4_23 := (n23 (a + 4) (by omega)).trans c4_22
  have c5_23 := (n23 (a + 5) (by omega)).trans c5_22
  have c6_23 := (n23 (a + 6) (by omega)).trans c6_22
  have c7_23 := (n23 (a + 7) (by omega)).trans c7_22
  have c8_23 := (n23 (a + 8) (by omega)).trans c8_22
  have c9_23 := (n23 (a + 9) (by omega)).trans c9_22
  have c10_23 := (n23 (a + 10) (by omega)).trans c10_22
  have c11_23 := (n23 (a + 11) (by omega)).trans c11_22
  have K23 : ∀ c, c < a → z23.1 c = z.1 c := fun c hc => (n23 c (by omega)).trans (K22 c hc)
  clear c1_22 c2_22 c3_22 c4_22 c5_22 c6_22 c7_22 c8_22 c9_22 c10_22 c11_22 K22 n23 f23 h22 e22
  refine gx_newH e23 (by omega) (fun z24 c12_24 n24 f24 => ?_)
  have e24 : z24.2 = some (a + 13) := f24
  have h24 := (n24 a (by omega)).trans h23
  have c1_24 := (n24 (a + 1) (by omega)).trans c1_23
  have c2_24 := (n24 (a + 2) (by omega)).trans c2_23
  have c3_24 := (n24 (a + 3) (by omega)).trans c3_23
  have c4_24 := (n24 (a + 4) (by omega)).trans c4_23
  have c5_24 := (n24 (a + 5) (by omega)).trans c5_23
  have c6_24 := (n24 (a + 6) (by omega)).trans c6_23
  have c7_24 := (n24 (a + 7) (by omega)).trans c7_23
  have c8_24 := (n24 (a + 8) (by omega)).trans c8_23
  have c9_24 := (n24 (a + 9) (by omega)).trans c9_23
  have c10_24 := (n24 (a + 10) (by omega)).trans c10_23
  have c11_24 := (n24 (a + 11) (by omega)).trans c11_23
  have K24 : ∀ c, c < a → z24.1 c = z.1 c := fun c hc => (n24 c (by omega)).trans (K23 c hc)
  clear c1_23 c2_23 c3_23 c4_23 c5_23 c6_23 c7_23 c8_23 c9_23 c10_23 c11_23 K23 n24 f24 h23 e23
  refine gx_putH h24 (by decide) (Nat.le_of_ble_eq_true rfl) hA (fun z25 g25 n25 f25 => ?_)
  have h25 : z25.1 a = some (.inr (8, [.int 0, .ref (a + 1), .ref (a + 2), .ref (a + 3), .ref (a + 4), .ref (a + 5), .ref (a + 6), .ref (a + 7), .int 0, .ref (a + 8), .int 0, .int 0, .int 0, .int 0, .int 0, .int 0, .int 0, .int (-1), .long 0, .int 0, .int 0, .ref (a + 9), .ref (a + 10), .ref (a + 11), .ref (a + 12), .null, .int 0, .int 0, .int 0, .int 0, .int 0, .int 0, .null, .null, .null, .null, .int 0, .int 0, .int 0, .null, .null, .null, .int 0])) := g25
  clear g25
  have e25 := f25.trans e24
  have c1_25 := (n25 (a + 1) (by omega)).trans c1_24
  have c2_25 := (n25 (a + 2) (by omega)).trans c2_24
  have c3_25 := (n25 (a + 3) (by omega)).trans c3_24
  have c4_25 := (n25 (a + 4) (by omega)).trans c4_24
  have c5_25 := (n25 (a + 5) (by omega)).trans c5_24
  have c6_25 := (n25 (a + 6) (by omega)).trans c6_24
  have c7_25 := (n25 (a + 7) (by omega)).trans c7_24
  have c8_25 := (n25 (a + 8) (by omega)).trans c8_24
  have c9_25 := (n25 (a + 9) (by omega)).trans c9_24
  have c10_25 := (n25 (a + 10) (by omega)).trans c10_24
  have c11_25 := (n25 (a + 11) (by omega)).trans c11_24
  have c12_25 := (n25 (a + 12) (by omega)).trans c12_24
  have K25 : ∀ c, c < a → z25.1 c = z.1 c := fun c hc => (n25 c (by omega)).trans (K24 c hc)
  clear c1_24 c2_24 c3_24 c4_24 c5_24 c6_24 c7_24 c8_24 c9_24 c10_24 c11_24 c12_24 K24 n25 f25 h24 e24
  refine gx_newH e25 (by omega) (fun z26 c13_26 n26 f26 => ?_)
  have e26 : z26.2 = some (a + 14) := f26
  have h26 := (n26 a (by omega)).trans h25
  have c1_26 := (n26 (a + 1) (by omega)).trans c1_25
  have c2_26 := (n26 (a + 2) (by omega)).trans c2_25
  have c3_26 := (n26 (a + 3) (by omega)).trans c3_25
  have c4_26 := (n26 (a + 4) (by omega)).trans c4_25
  have c5_26 := (n26 (a + 5) (by omega)).trans c5_25
  have c6_26 := (n26 (a + 6) (by omega)).trans c6_25
  have c7_26 := (n26 (a + 7) (by omega)).trans c7_25
  have c8_26 := (n26 (a + 8) (by omega)).trans c8_25
  have c9_26 := (n26 (a + 9) (by omega)).trans c9_25
  have c10_26 := (n26 (a + 10) (by omega)).trans c10_25
  have c11_26 := (n26 (a + 11) (by omega)).trans c11_25
  have c12_26 := (n26 (a + 12) (by omega)).trans c12_25
  have K26 : ∀ c, c < a → z26.1 c = z.1 c := fun c hc => (n26 c (by omega)).trans (K25 c hc)
  clear c1_25 c2_25 c3_25 c4_25 c5_25 c6_25 c7_25 c8_25 c9_25 c10_25 c11_25 c12_25 K25 n26 f26 h25 e25
  refine gx_putH h26 (by decide) (Nat.le_of_ble_eq_true rfl) hA (fun z27 g27 n27 f27 => ?_)
  have h27 : z27.1 a = some (.inr (8, [.int 0, .ref (a + 1), .ref (a + 2), .ref (a + 3), .ref (a + 4), .ref (a + 5), .ref (a + 6), .ref (a + 7), .int 0, .ref (a + 8), .int 0, .int 0, .int 0, .int 0, .int 0, .int 0, .int 0, .int (-1), .long 0, .int 0, .int 0, .ref (a + 9), .ref (a + 10), .ref (a + 11), .ref (a + 12), .ref (a + 13), .int 0, .int 0, .int 0, .int 0, .int 0, .int 0, .null, .null, .null, .null, .int 0, .int 0, .int 0, .null, .null, .null, .int 0])) := g27
  clear g27
  have e27 := f27.trans e26
  have c1_27 := (n27 (a + 1) (by omega)).trans c1_26
  have c2_27 := (n27 (a + 2) (by omega)).trans c2_26
  have c3_27 := (n27 (a + 3) (by omega)).trans c3_26
  have c4_27 := (n27 (a + 4) (by omega)).trans c4_26
  have c5_27 := (n27 (a + 5) (by omega)).trans c5_26
  have c6_27 := (n27 (a + 6) (by omega)).trans c6_26
  have c7_27 := (n27 (a + 7) (by omega)).trans c7_26
  have c8_27 := (n27 (a + 8) (by omega)).trans c8_26
  have c9_27 := (n27 (a + 9) (by omega)).trans c9_26
  have c10_27 := (n27 (a + 10) (by omega)).trans c10_26
  have c11_27 := (n27 (a + 11) (by omega)).trans c11_26
  have c12_27 := (n27 (a + 12) (by omega)).trans c12_26
  have c13_27 := (n27 (a + 13) (by omega)).trans c13_26
  have K27 : ∀ c, c < a → z27.1 c = z.1 c := fun c hc => (n27 c (by omega)).trans (K26 c hc)
  clear c1_26 c2_26 c3_26 c4_26 c5_26 c6_26 c7_26 c8_26 c9_26 c10_26 c11_26 c12_26 c13_26 K26 n27 f27 h26 e26
  refine gx_newH e27 (by omega) (fun z28 c14_28 n28 f28 => ?_)
  have e28 : z28.2 = some (a + 15) := f28
  have h28 := (n28 a (by omega)).trans h27
  have c1_28 := (n28 (a + 1) (by omega)).trans c1_27
  have c2_28 := (n28 (a + 2) (by omega)).trans c2_27
  have c3_28 := (n28 (a + 3) (by omega)).trans c3_27
  have c4_28 := (n28 (a + 4) (by omega)).trans c4_27
  have c5_28 := (n28 (a + 5) (by omega)).trans c5_27
  have c6_28 := (n28 (a + 6) (by omega)).trans c6_27
  have c7_28 := (n28 (a + 7) (by omega)).trans c7_27
  have c8_28 := (n28 (a + 8) (by omega)).trans c8_27
  have c9_28 := (n28 (a + 9) (by omega)).trans c9_27
  have c10_28 := (n28 (a + 10) (by omega)).trans c10_27
  have c11_28 := (n28 (a + 11) (by omega)).trans c11_27
  have c12_28 := (n28 (a + 12) (by omega)).trans c12_27
  have c13_28 := (n28 (a + 13) (by omega)).trans c13_27
  have K28 : ∀ c, c < a → z28.1 c = z.1 c := fun c hc => (n28 c (by omega)).trans (K27 c hc)
  clear c1_27 c2_27 c3_27 c4_27 c5_27 c6_27 c7_27 c8_27 c9_27 c10_27 c11_27 c12_27 c13_27 K27 n28 f28 h27 e27
  refine gx_putH h28 (by decide) (Nat.le_of_ble_eq_true rfl) hA (fun z29 g29 n29 f29 => ?_)
  have h29 : z29.1 a = some (.inr (8, [.int 0, .ref (a + 1), .ref (a + 2), .ref (a + 3), .ref (a + 4), .ref (a + 5), .ref (a + 6), .ref (a + 7), .int 0, .ref (a + 8), .int 0, .int 0, .int 0, .int 0, .int 0, .int 0, .int 0, .int (-1), .long 0, .int 0, .int 0, .ref (a + 9), .ref (a + 10), .ref (a + 11), .ref (a + 12), .ref (a + 13), .int 0, .int 0, .int 0, .int 0, .int 0, .int 0, .ref (a + 14), .null, .null, .null, .int 0, .int 0, .int 0, .null, .null, .null, .int 0])) := g29
  clear g29
  have e29 := f29.trans e28
  have c1_29 := (n29 (a + 1) (by omega)).trans c1_28
  have c2_29 := (n29 (a + 2) (by omega)).trans c2_28
  have c3_29 := (n29 (a + 3) (by omega)).trans c3_28
  have c4_29 := (n29 (a + 4) (by omega)).trans c4_28
  have c5_29 := (n29 (a + 5) (by omega)).trans c5_28
  have c6_29 := (n29 (a + 6) (by omega)).trans c6_28
  have c7_29 := (n29 (a + 7) (by omega)).trans c7_28
  have c8_29 := (n29 (a + 8) (by omega)).trans c8_28
  have c9_29 := (n29 (a + 9) (by omega)).trans c9_28
  have c10_29 := (n29 (a + 10) (by omega)).trans c10_28
  have c11_29 := (n29 (a + 11) (by omega)).trans c11_28
  have c12_29 := (n29 (a + 12) (by omega)).trans c12_28
  have c13_29 := (n29 (a + 13) (by omega)).trans c13_28
  have c14_29 := (n29 (a + 14) (by omega)).trans c14_28
  have K29 : ∀ c, c < a → z29.1 c = z.1 c := fun c hc => (n29 c (by omega)).trans (K28 c hc)
  clear c1_28 c2_28 c3_28 c4_28 c5_28 c6_28 c7_28 c8_28 c9_28 c10_28 c11_28 c12_28 c13_28 c14_28 K28 n29 f29 h28 e28
  refine gx_newH e29 (by omega) (fun z30 c15_30 n30 f30 => ?_)
  have e30 : z30.2 = some (a + 16) := f30
  have h30 := (n30 a (by omega)).trans h29
  have c1_30 := (n30 (a + 1) (by omega)).trans c1_29
  have c2_30 := (n30 (a + 2) (by omega)).trans c2_29
  have c3_30 := (n30 (a + 3) (by omega)).trans c3_29
  have c4_30 := (n30 (a + 4) (by omega)).trans c4_29
  have c5_30 := (n30 (a + 5) (by omega)).trans c5_29
  have c6_30 := (n30 (a + 6) (by omega)).trans c6_29
  have c7_30 := (n30 (a + 7) (by omega)).trans c7_29
  have c8_30 := (n30 (a + 8) (by omega)).trans c8_29
  have c9_30 := (n30 (a + 9) (by omega)).trans c9_29
  have c10_30 := (n30 (a + 10) (by omega)).trans c10_29
  have c11_30 := (n30 (a + 11) (by omega)).trans c11_29
  have c12_30 := (n30 (a + 12) (by omega)).trans c12_29
  have c13_30 := (n30 (a + 13) (by omega)).trans c13_29
  have c14_30 := (n30 (a + 14) (by omega)).trans c14_29
  have K30 : ∀ c, c < a → z30.1 c = z.1 c := fun c hc => (n30 c (by omega)).trans (K29 c hc)
  clear c1_29 c2_29 c3_29 c4_29 c5_29 c6_29 c7_29 c8_29 c9_29 c10_29 c11_29 c12_29 c13_29 c14_29 K29 n30 f30 h29 e29
  refine gx_putH h30 (by decide) (Nat.le_of_ble_eq_true rfl) hA (fun z31 g31 n31 f31 => ?_)
  have h31 : z31.1 a = some (.inr (8, [.int 0, .ref (a + 1), .ref (a + 2), .ref (a + 3), .ref (a + 4), .ref (a + 5), .ref (a + 6), .ref (a + 7), .int 0, .ref (a + 8), .int 0, .int 0, .int 0, .int 0, .int 0, .int 0, .int 0, .int (-1), .long 0, .int 0, .int 0, .ref (a + 9), .ref (a + 10), .ref (a + 11), .ref (a + 12), .ref (a + 13), .int 0, .int 0, .int 0, .int 0, .int 0, .int 0, .ref (a + 14), .ref (a + 15), .null, .null, .int 0, .int 0, .int 0, .null, .null, .null, .int 0])) := g31
  clear g31
  have e31 := f31.trans e30
  have c1_31 := (n31 (a + 1) (by omega)).trans c1_30
  have c2_31 := (n31 (a + 2) (by omega)).trans c2_30
  have c3_31 := (n31 (a + 3) (by omega)).trans c3_30
  have c4_31 := (n31 (a + 4) (by omega)).trans c4_30
  have c5_31 := (n31 (a + 5) (by omega)).trans c5_30
  have c6_31 := (n31 (a + 6) (by omega)).trans c6_30
  have c7_31 := (n31 (a + 7) (by omega)).trans c7_30
  have c8_31 := (n31 (a + 8) (by omega)).trans c8_30
  have c9_31 := (n31 (a + 9) (by omega)).trans c9_30
  have c10_31 := (n31 (a + 10) (by omega)).trans c10_30
  have c11_31 := (n31 (a + 11) (by omega)).trans c11_30
  have c12_31 := (n31 (a + 12) (by omega)).trans c12_30
  have c13_31 := (n31 (a + 13) (by omega)).trans c13_30
  have c14_31 := (n31 (a + 14) (by omega)).trans c14_30
  have c15_31 := (n31 (a + 15) (by omega)).trans c15_30
  have K31 : ∀ c, c < a → z31.1 c = z.1 c := fun c hc => (n31 c (by omega)).trans (K30 c hc)
  clear c1_30 c2_30 c3_30 c4_30 c5_30 c6_30 c7_30 c8_30 c9_30 c10_30 c11_30 c12_30 c13_30 c14_30 c15_30 K30 n31 f31 h30 e30
  refine gx_newH e31 (by omega) (fun z32 c16_32 n32 f32 => ?_)
  have e32 : z32.2 = some (a + 17) := f32
  have h32 := (n32 a (by omega)).trans h31
  have c1_32 := (n32 (a + 1) (by omega)).trans c1_31
  have c2_32 := (n32 (a + 2) (by omega)).trans c2_31
  have c3_32 := (n32 (a + 3) (by omega)).trans c3_31
  have c4_32 := (n32 (a + 4) (by omega)).trans c4_31
  have c5_32 := (n32 (a + 5) (by omega)).trans c5_31
  have c6_32 := (n32 (a + 6) (by omega)).trans c6_31
  have c7_32 := (n32 (a + 7) (by omega)).trans c7_31
  have c8_32 := (n32 (a + 8) (by omega)).trans c8_31
  have c9_32 := (n32 (a + 9) (by omega)).trans c9_31
  have c10_32 := (n32 (a + 10) (by omega)).trans c10_31
  have c11_32 := (n32 (a + 11) (by omega)).trans c11_31
  have c12_32 := (n32 (a + 12) (by omega)).trans c12_31
  have c13_32 := (n32 (a + 13) (by omega)).trans c13_31
  have c14_32 := (n32 (a + 14) (by omega)).trans c14_31
  have c15_32 := (n32 (a + 15) (by omega)).trans c15_31
  have K32 : ∀ c, c < a → z32.1 c = z.1 c := fun c hc => (n32 c (by omega)).trans (K31 c hc)
  clear c1_31 c2_31 c3_31 c4_31 c5_31 c6_31 c7_31 c8_31 c9_31 c10_31 c11_31 c12_31 c13_31 c14_31 c15_31 K31 n32 f32 h31 e31
  refine gx_putH h32 (by decide) (Nat.le_of_ble_eq_true rfl) hA (fun z33 g33 n33 f33 => ?_)
  have h33 : z33.1 a = some (.inr (8, [.int 0, .ref (a + 1), .ref (a + 2), .ref (a + 3), .ref (a + 4), .ref (a + 5), .ref (a + 6), .ref (a + 7), .int 0, .ref (a + 8), .int 0, .int 0, .int 0, .int 0, .int 0, .int 0, .int 0, .int (-1), .long 0, .int 0, .int 0, .ref (a + 9), .ref (a + 10), .ref (a + 11), .ref (a + 12), .ref (a + 13), .int 0, .int 0, .int 0, .int 0, .int 0, .int 0, .ref (a + 14), .ref (a + 15), .ref (a + 16), .null, .int 0, .int 0, .int 0, .null, .null, .null, .int 0])) := g33
  clear g33
  have e33 := f33.trans e32
  have c1_33 := (n33 (a + 1) (by omega)).trans c1_32
  have c2_33 := (n33 (a + 2) (by omega)).trans c2_32
  have c3_33 := (n33 (a + 3) (by omega)).trans c3_32
  have c4_33 := (n33 (a + 4) (by omega)).trans c4_32
  have c5_33 := (n33 (a + 5) (by omega)).trans c5_32
  have c6_33 := (n33 (a + 6) (by omega)).trans c6_32
  have c7_33 := (n33 (a + 7) (by omega)).trans c7_32
  have c8_33 := (n33 (a + 8) (by omega)).trans c8_32
  have c9_33 := (n33 (a + 9) (by omega)).trans c9_32
  have c10_33 := (n33 (a + 10) (by omega)).trans c10_32
  have c11_33 := (n33 (a + 11) (by omega)).trans c11_32
  have c12_33 := (n33 (a + 12) (by omega)).trans c12_32
  have c13_33 := (n33 (a + 13) (by omega)).trans c13_32
  have c14_33 := (n33 (a + 14) (by omega)).trans c14_32
  have c15_33 := (n33 (a + 15) (by omega)).trans c15_32
  have c16_33 := (n33 (a + 16) (by omega)).trans c16_32
  have K33 : ∀ c, c < a → z33.1 c = z.1 c := fun c hc => (n33 c (by omega)).trans (K32 c hc)
  clear c1_32 c2_32 c3_32 c4_32 c5_32 c6_32 c7_32 c8_32 c9_32 c10_32 c11_32 c12_32 c13_32 c14_32 c15_32 c16_32 K32 n33 f33 h32 e32
  refine gx_newH e33 (by omega) (fun z34 c17_34 n34 f34 => ?_)
  have e34 : z34.2 = some (a + 18) := f34
  have h34 := (n34 a (by omega)).trans h33
  have c1_34 := (n34 (a + 1) (by omega)).trans c1_33
  have c2_34 := (n34 (a + 2) (by omega)).trans c2_33
  have c3_34 := (n34 (a + 3) (by omega)).trans c3_33
  have c4_34 := (n34 (a + 4) (by omega)).trans c4_33
  have c5_34 := (n34 (a + 5) (by omega)).trans c5_33
  have c6_34 := (n34 (a + 6) (by omega)).trans c6_33
  have c7_34 := (n34 (a + 7) (by omega)).trans c7_33
  have c8_34 := (n34 (a + 8) (by omega)).trans c8_33
  have c9_34 := (n34 (a + 9) (by omega)).trans c9_33
  have c10_34 := (n34 (a + 10) (by omega)).trans c10_33
  have c11_34 := (n34 (a + 11) (by omega)).trans c11_33
  have c12_34 := (n34 (a + 12) (by omega)).trans c12_33
  have c13_34 := (n34 (a + 13) (by omega)).trans c13_33
  have c14_34 := (n34 (a + 14) (by omega)).trans c14_33
  have c15_34 := (n34 (a + 15) (by omega)).trans c15_33
  have c16_34 := (n34 (a + 16) (by omega)).trans c16_33
  have K34 : ∀ c, c < a → z34.1 c = z.1 c := fun c hc => (n34 c (by omega)).trans (K33 c hc)
  clear c1_33 c2_33 c3_33 c4_33 c5_33 c6_33 c7_33 c8_33 c9_33 c10_33 c11_33 c12_33 c13_33 c14_33 c15_33 c16_33 K33 n34 f34 h33 e33
  refine gx_putH h34 (by decide) (Nat.le_of_ble_eq_true rfl) hA (fun z35 g35 n35 f35 => ?_)
  have h35 : z35.1 a = some (.inr (8, [.int 0, .ref (a + 1), .ref (a + 2), .ref (a + 3), .ref (a + 4), .ref (a + 5), .ref (a + 6), .ref (a + 7), .int 0, .ref (a + 8), .int 0, .int 0, .int 0, .int 0, .int 0, .int 0, .int 0, .int (-1), .long 0, .int 0, .int 0, .ref (a + 9), .ref (a + 10), .ref (a + 11), .ref (a + 12), .ref (a + 13), .int 0, .int 0, .int 0, .int 0, .int 0, .int 0, .ref (a + 14), .ref (a + 15), .ref (a + 16), .ref (a + 17), .int 0, .int 0, .int 0, .null, .null, .null, .int 0])) := g35
  clear g35
  have e35 := f35.trans e34
  have c1_35 := (n35 (a + 1) (by omega)).trans c1_34
  have c2_35 := (n35 (a + 2) (by omega)).trans c2_34
  have c3_35 := (n35 (a + 3) (by omega)).trans c3_34
  have c4_35 := (n35 (a + 4) (by omega)).trans c4_34
  have c5_35 := (n35 (a + 5) (by omega)).trans c5_34
  have c6_35 := (n35 (a + 6) (by omega)).trans c6_34
  have c7_35 := (n35 (a + 7) (by omega)).trans c7_34
  have c8_35 := (n35 (a + 8) (by omega)).trans c8_34
  have c9_35 := (n35 (a + 9) (by omega)).trans c9_34
  have c10_35 := (n35 (a + 10) (by omega)).trans c10_34
  have c11_35 := (n35 (a + 11) (by omega)).trans c11_34
  have c12_35 := (n35 (a + 12) (by omega)).trans c12_34
  have c13_35 := (n35 (a + 13) (by omega)).trans c13_34
  have c14_35 := (n35 (a + 14) (by omega)).trans c14_34
  have c15_35 := (n35 (a + 15) (by omega)).trans c15_34
  have c16_35 := (n35 (a + 16) (by omega)).trans c16_34
  have c17_35 := (n35 (a + 17) (by omega)).trans c17_34
  have K35 : ∀ c, c < a → z35.1 c = z.1 c := fun c hc => (n35 c (by omega)).trans (K34 c hc)
  clear c1_34 c2_34 c3_34 c4_34 c5_34 c6_34 c7_34 c8_34 c9_34 c10_34 c11_34 c12_34 c13_34 c14_34 c15_34 c16_34 c17_34 K34 n35 f35 h34 e34
  refine gx_newH e35 (by omega) (fun z36 c18_36 n36 f36 => ?_)
  have e36 : z36.2 = some (a + 19) := f36
  have h36 := (n36 a (by omega)).trans h35
  have c1_36 := (n36 (a + 1) (by omega)).trans c1_35
  have c2_36 := (n36 (a + 2) (by omega)).trans c2_35
  have c3_36 := (n36 (a + 3) (by omega)).trans c3_35
  have c4_36 := (n36 (a + 4) (by omega)).trans c4_35
  have c5_36 := (n36 (a + 5) (by omega)).trans c5_35
  have c6_36 := (n36 (a + 6) (by omega)).trans c6_35
  have c7_36 := (n36 (a + 7) (by omega)).trans c7_35
  have c8_36 := (n36 (a + 8) (by omega)).trans c8_35
  have c9_36 := (n36 (a + 9) (by omega)).trans c9_35
  have c10_36 := (n36 (a + 10) (by omega)).trans c10_35
  have c11_36 := (n36 (a + 11) (by omega)).trans c11_35
  have c12_36 := (n36 (a + 12) (by omega)).trans c12_35
  have c13_36 := (n36 (a + 13) (by omega)).trans c13_35
  have c14_36 := (n36 (a + 14) (by omega)).trans c14_35
  have c15_36 := (n36 (a + 15) (by omega)).trans c15_35
  have c16_36 := (n36 (a + 16) (by omega)).trans c16_35
  have c17_36 := (n36 (a + 17) (by omega)).trans c17_35
  have K36 : ∀ c, c < a → z36.1 c = z.1 c := fun c hc => (n36 c (by omega)).trans (K35 c hc)
  clear c1_35 c2_35 c3_35 c4_35 c5_35 c6_35 c7_35 c8_35 c9_35 c10_35 c11_35 c12_35 c13_35 c14_35 c15_35 c16_35 c17_35 K35 n36 f36 h35 e35
  refine gx_putH h36 (by decide) (Nat.le_of_ble_eq_true rfl) hA (fun z37 g37 n37 f37 => ?_)
  have h37 : z37.1 a = some (.inr (8, [.int 0, .ref (a + 1), .ref (a + 2), .ref (a + 3), .ref (a + 4), .ref (a + 5), .ref (a + 6), .ref (a + 7), .int 0, .ref (a + 8), .int 0, .int 0, .int 0, .int 0, .int 0, .int 0, .int 0, .int (-1), .long 0, .int 0, .int 0, .ref (a + 9), .ref (a + 10), .ref (a + 11), .ref (a + 12), .ref (a + 13), .int 0, .int 0, .int 0, .int 0, .int 0, .int 0, .ref (a + 14), .ref (a + 15), .ref (a + 16), .ref (a + 17), .int 0, .int 0, .int 0, .ref (a + 18), .null, .null, .int 0])) := g37
  clear g37
  have e37 := f37.trans e36
  have c1_37 := (n37 (a + 1) (by omega)).trans c1_36
  have c2_37 := (n37 (a + 2) (by omega)).trans c2_36
  have c3_37 := (n37 (a + 3) (by omega)).trans c3_36
  have c4_37 := (n37 (a + 4) (by omega)).trans c4_36
  have c5_37 := (n37 (a + 5) (by omega)).trans c5_36
  have c6_37 := (n37 (a + 6) (by omega)).trans c6_36
  have c7_37 := (n37 (a + 7) (by omega)).trans c7_36
  have c8_37 := (n37 (a + 8) (by omega)).trans c8_36
  have c9_37 := (n37 (a + 9) (by omega)).trans c9_36
  have c10_37 := (n37 (a + 10) (by omega)).trans c10_36
  have c11_37 := (n37 (a + 11) (by omega)).trans c11_36
  have c12_37 := (n37 (a + 12) (by omega)).trans c12_36
  have c13_37 := (n37 (a + 13) (by omega)).trans c13_36
  have c14_37 := (n37 (a + 14) (by omega)).trans c14_36
  have c15_37 := (n37 (a + 15) (by omega)).trans c15_36
  have c16_37 := (n37 (a + 16) (by omega)).trans c16_36
  have c17_37 := (n37 (a + 17) (by omega)).trans c17_36
  have c18_37 := (n37 (a + 18) (by omega)).trans c18_36
  have K37 : ∀ c, c < a → z37.1 c = z.1 c := fun c hc => (n37 c (by omega)).trans (K36 c hc)
  clear c1_36 c2_36 c3_36 c4_36 c5_36 c6_36 c7_36 c8_36 c9_36 c10_36 c11_36 c12_36 c13_36 c14_36 c15_36 c16_36 c17_36 c18_36 K36 n37 f37 h36 e36
  refine gx_newH e37 (by omega) (fun z38 c19_38 n38 f38 => ?_)
  have e38 : z38.2 = some (a + 20) := f38
  have h38 := (n38 a (by omega)).trans h37
  have c1_38 := (n38 (a + 1) (by omega)).trans c1_37
  have c2_38 := (n38 (a + 2) (by omega)).trans c2_37
  have c3_38 := (n38 (a + 3) (by omega)).trans c3_37
  have c4_38 := (n38 (a + 4) (by omega)).trans c4_37
  have c5_38 := (n38 (a + 5) (by omega)).trans c5_37
  have c6_38 := (n38 (a + 6) (by omega)).trans c6_37
  have c7_38 := (n38 (a + 7) (by omega)).trans c7_37
  have c8_38 := (n38 (a + 8) (by omega)).trans c8_37
  have c9_38 := (n38 (a + 9) (by omega)).trans c9_37
  have c10_38 := (n38 (a + 10) (by omega)).trans c10_37
  have c11_38 := (n38 (a + 11) (by omega)).trans c11_37
  have c12_38 := (n38 (a + 12) (by omega)).trans c12_37
  have c13_38 := (n38 (a + 13) (by omega)).trans c13_37
  have c14_38 := (n38 (a + 14) (by omega)).trans c14_37
  have c15_38 := (n38 (a + 15) (by omega)).trans c15_37
  have c16_38 := (n38 (a + 16) (by omega)).trans c16_37
  have c17_38 := (n38 (a + 17) (by omega)).trans c17_37
  have c18_38 := (n38 (a + 18) (by omega)).trans c18_37
  have K38 : ∀ c, c < a → z38.1 c = z.1 c := fun c hc => (n38 c (by omega)).trans (K37 c hc)
  clear c1_37 c2_37 c3_37 c4_37 c5_37 c6_37 c7_37 c8_37 c9_37 c10_37 c11_37 c12_37 c13_37 c14_37 c15_37 c16_37 c17_37 c18_37 K37 n38 f38 h37 e37
  refine gx_putH h38 (by decide) (Nat.le_of_ble_eq_true rfl) hA (fun z39 g39 n39 f39 => ?_)
  have h39 : z39.1 a = some (.inr (8, [.int 0, .ref (a + 1), .ref (a + 2), .ref (a + 3), .ref (a + 4), .ref (a + 5), .ref (a + 6), .ref (a + 7), .int 0, .ref (a + 8), .int 0, .int 0, .int 0, .int 0, .int 0, .int 0, .int 0, .int (-1), .long 0, .int 0, .int 0, .ref (a + 9), .ref (a + 10), .ref (a + 11), .ref (a + 12), .ref (a + 13), .int 0, .int 0, .int 0, .int 0, .int 0, .int 0, .ref (a + 14), .ref (a + 15), .ref (a + 16), .ref (a + 17), .int 0, .int 0, .int 0, .ref (a + 18), .ref (a + 19), .null, .int 0])) := g39
  clear g39
  have e39 := f39.trans e38
  have c1_39 := (n39 (a + 1) (by omega)).trans c1_38
  have c2_39 := (n39 (a + 2) (by omega)).trans c2_38
  have c3_39 := (n39 (a + 3) (by omega)).trans c3_38
  have c4_39 := (n39 (a + 4) (by omega)).trans c4_38
  have c5_39 := (n39 (a + 5) (by omega)).trans c5_38
  have c6_39 := (n39 (a + 6) (by omega)).trans c6_38
  have c7_39 := (n39 (a + 7) (by omega)).trans c7_38
  have c8_39 := (n39 (a + 8) (by omega)).trans c8_38
  have c9_39 := (n39 (a + 9) (by omega)).trans c9_38
  have c10_39 := (n39 (a + 10) (by omega)).trans c10_38
  have c11_39 := (n39 (a + 11) (by omega)).trans c11_38
  have c12_39 := (n39 (a + 12) (by omega)).trans c12_38
  have c13_39 := (n39 (a + 13) (by omega)).trans c13_38
  have c14_39 := (n39 (a + 14) (by omega)).trans c14_38
  have c15_39 := (n39 (a + 15) (by omega)).trans c15_38
  have c16_39 := (n39 (a + 16) (by omega)).trans c16_38
  have c17_39 := (n39 (a + 17) (by omega)).trans c17_38
  have c18_39 := (n39 (a + 18) (by omega)).trans c18_38
  have c19_39 := (n39 (a + 19) (by omega)).trans c19_38
  have K39 : ∀ c, c < a → z39.1 c = z.1 c := fun c hc => (n39 c (by omega)).trans (K38 c hc)
  clear c1_38 c2_38 c3_38 c4_38 c5_38 c6_38 c7_38 c8_38 c9_38 c10_38 c11_38 c12_38 c13_38 c14_38 c15_38 c16_38 c17_38 c18_38 c19_38 K38 n39 f39 h38 e38
  refine gx_newH e39 (by omega) (fun z40 c20_40 n40 f40 => ?_)
  have e40 : z40.2 = some (a + 21) := f40
  have h40 := (n40 a (by omega)).trans h39
  have c1_40 := (n40 (a + 1) (by omega)).trans c1_39
  have c2_40 := (n40 (a + 2) (by omega)).trans c2_39
  have c3_40 := (n40 (a + 3) (by omega)).trans c3_39
  have c4_40 := (n40 (a + 4) (by omega)).trans c4_39
  have c5_40 := (n40 (a + 5) (by omega)).trans c5_39
  have c6_40 := (n40 (a + 6) (by omega)).trans c6_39
  have c7_40 := (n40 (a + 7) (by omega)).trans c7_39
  have c8_40 := (n40 (a + 8) (by omega)).trans c8_39
  have c9_40 := (n40 (a + 9) (by omega)).trans c9_39
  have c10_40 := (n40 (a + 10) (by omega)).trans c10_39
  have c11_40 := (n40 (a + 11) (by omega)).trans c11_39
  have c12_40 := (n40 (a + 12) (by omega)).trans c12_39
  have c13_40 := (n40 (a + 13) (by omega)).trans c13_39
  have c14_40 := (n40 (a + 14) (by omega)).trans c14_39
  have c15_40 := (n40 (a + 15) (by omega)).trans c15_39
  have c16_40 := (n40 (a + 16) (by omega)).trans c16_39
  have c17_40 := (n40 (a + 17) (by omega)).trans c17_39
  have c18_40 := (n40 (a + 18) (by omega)).trans c18_39
  have c19_40 := (n40 (a + 19) (by omega)).trans c19_39
  have K40 : ∀ c, c < a → z40.1 c = z.1 c := fun c hc => (n40 c (by omega)).trans (K39 c hc)
  clear c1_39 c2_39 c3_39 c4_39 c5_39 c6_39 c7_39 c8_39 c9_39 c10_39 c11_39 c12_39 c13_39 c14_39 c15_39 c16_39 c17_39 c18_39 c19_39 K39 n40 f40 h39 e39
  refine gx_putH h40 (by decide) (Nat.le_of_ble_eq_true rfl) hA (fun z41 g41 n41 f41 => ?_)
  have h41 : z41.1 a = some (.inr (8, [.int 0, .ref (a + 1), .ref (a + 2), .ref (a + 3), .ref (a + 4), .ref (a + 5), .ref (a + 6), .ref (a + 7), .int 0, .ref (a + 8), .int 0, .int 0, .int 0, .int 0, .int 0, .int 0, .int 0, .int (-1), .long 0, .int 0, .int 0, .ref (a + 9), .ref (a + 10), .ref (a + 11), .ref (a + 12), .ref (a + 13), .int 0, .int 0, .int 0, .int 0, .int 0, .int 0, .ref (a + 14), .ref (a + 15), .ref (a + 16), .ref (a + 17), .int 0, .int 0, .int 0, .ref (a + 18), .ref (a + 19), .ref (a + 20), .int 0])) := g41
  clear g41
  have e41 := f41.trans e40
  have c1_41 := (n41 (a + 1) (by omega)).trans c1_40
  have c2_41 := (n41 (a + 2) (by omega)).trans c2_40
  have c3_41 := (n41 (a + 3) (by omega)).trans c3_40
  have c4_41 := (n41 (a + 4) (by omega)).trans c4_40
  have c5_41 := (n41 (a + 5) (by omega)).trans c5_40
  have c6_41 := (n41 (a + 6) (by omega)).trans c6_40
  have c7_41 := (n41 (a + 7) (by omega)).trans c7_40
  have c8_41 := (n41 (a + 8) (by omega)).trans c8_40
  have c9_41 := (n41 (a + 9) (by omega)).trans c9_40
  have c10_41 := (n41 (a + 10) (by omega)).trans c10_40
  have c11_41 := (n41 (a + 11) (by omega)).trans c11_40
  have c12_41 := (n41 (a + 12) (by omega)).trans c12_40
  have c13_41 := (n41 (a + 13) (by omega)).trans c13_40
  have c14_41 := (n41 (a + 14) (by omega)).trans c14_40
  have c15_41 := (n41 (a + 15) (by omega)).trans c15_40
  have c16_41 := (n41 (a + 16) (by omega)).trans c16_40
  have c17_41 := (n41 (a + 17) (by omega)).trans c17_40
  have c18_41 := (n41 (a + 18) (by omega)).trans c18_40
  have c19_41 := (n41 (a + 19) (by omega)).trans c19_40
  have c20_41 := (n41 (a + 20) (by omega)).trans c20_40
  have K41 : ∀ c, c < a → z41.1 c = z.1 c := fun c hc => (n41 c (by omega)).trans (K40 c hc)
  clear c1_40 c2_40 c3_40 c4_40 c5_40 c6_40 c7_40 c8_40 c9_40 c10_40 c11_40 c12_40 c13_40 c14_40 c15_40 c16_40 c17_40 c18_40 c19_40 c20_40 K40 n41 f41 h40 e40
  have hr : rX10 z41 a rw17 dw0 := ⟨h41, c1_41, c2_41, c3_41, c4_41, c5_41, c6_41, c7_41, c8_41, c9_41, c10_41, c11_41, c12_41, c13_41, c14_41, c15_41, c16_41, c17_41, c18_41, c19_41, c20_41⟩
  exact kk z41 e41 K41 hr
