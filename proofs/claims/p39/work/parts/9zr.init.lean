/-! constructors (5): the class (by program) -/
section
variable {z z1 : osS} {a b : Nat} {C : Nat → Nat → Int32} {D : Nat → Nat → Int64}
end
def rw4m : Nat → Nat → Int32 := fun k _ => if k = 4 then -1 else 0
theorem i_X9 {G : osG} {z : osS} {N a : Nat} (h0 : z.1 a = some (.inr (7, [.null, .int 0, .null, .int 0, .int 0, .null, .null, .null, .null, .int 0, .null, .null, .null, .null]))) (e0 : z.2 = some (a + 1)) (hA : G.2.2.1 ≤ a) (hN : 5000 < N) : gx (qX9_init N a G z) (fun _ z' => z'.2 = some (a + 129) ∧ (∀ c, c < a → z'.1 c = z.1 c) ∧ rX9 z' a (a + 21) (a + 27) (a + 33) (a + 45) rw4m ∧ rX4 z' (a + 2) rw0 ∧ (∃ tb A D, rX3 z' (a + 4) tb A D) ∧ (∃ tb A D, rX7 z' (a + 6) tb A D) ∧ rX1 z' (a + 8) rw1 ∧ rX2 z' (a + 9) rw0 ∧ (∃ f : Nat → Option Nat, z'.1 (a + 20) = some (.inl (5, (6, .inr (.inr (.inr (.inr f)))))) ∧ ∀ i, i < 6 → f i = some (a + 57 + 12 * i)) ∧ rX0 z' (a + 21) (bclr rw0) ∧ rX0 z' (a + 27) (bclr rw0) ∧ rX5 z' (a + 33) (sclr rw1) ∧ rX5 z' (a + 45) (sclr rw1) ∧ ∀ i, i < 6 → rX5 z' (a + 57 + 12 * i) (sclr rw1)) := by
  unfold qX9_init
  refine gx_newH e0 (by omega) (fun z1 d1 n1 f1 => ?_)
  have e1 : z1.2 = some (a + 2) := f1
  have h1 := (n1 a (by omega)).trans h0
  have s1 : ∀ c, c < a + 1 → ¬ c = a → ¬ c = a + 20 → z1.1 c = z.1 c := fun c q _ _ => n1 c (by omega)
  refine gx_putH h1 (by decide) (Nat.le_of_ble_eq_true rfl) hA (fun z2 g2 n2 f2 => ?_)
  have h2 : z2.1 a = some (.inr (7, [.ref (a + 1), .int 0, .null, .int 0, .int 0, .null, .null, .null, .null, .int 0, .null, .null, .null, .null])) := g2
  have e2 := f2.trans e1
  have s2 : ∀ c, c < a + 2 → ¬ c = a → ¬ c = a + 20 → z2.1 c = z1.1 c := fun c _ q _ => n2 c q
  refine gx_putH h2 (by decide) (Nat.le_of_ble_eq_true rfl) hA (fun z3 g3 n3 f3 => ?_)
  have h3 : z3.1 a = some (.inr (7, [.ref (a + 1), .int 0, .null, .int 0, .int 0, .null, .null, .null, .null, .int 0, .null, .null, .null, .null])) := g3
  have e3 := f3.trans e2
  have s3 : ∀ c, c < a + 2 → ¬ c = a → ¬ c = a + 20 → z3.1 c = z2.1 c := fun c _ q _ => n3 c q
  refine gx_newH e3 (by omega) (fun z4 d4 n4 f4 => ?_)
  have e4 : z4.2 = some (a + 3) := f4
  have h4 := (n4 a (by omega)).trans h3
  have s4 : ∀ c, c < a + 2 → ¬ c = a → ¬ c = a + 20 → z4.1 c = z3.1 c := fun c q _ _ => n4 c (by omega)
  refine gx_call (i_X4 (a := a + 2) d4 e4 (by omega) hN) ?_
  rintro _ z5 ⟨e5, K5, o4⟩
  have h5 := (K5 a (by omega)).trans h4
  have s5 : ∀ c, c < a + 2 → ¬ c = a → ¬ c = a + 20 → z5.1 c = z4.1 c := fun c q _ _ => K5 c (by omega)
  replace e5 : z5.2 = some (a + 4) := e5.trans (congrArg some (by omega))
  refine gx_putH h5 (by decide) (Nat.le_of_ble_eq_true rfl) hA (fun z6 g6 n6 f6 => ?_)
  have h6 : z6.1 a = some (.inr (7, [.ref (a + 1), .int 0, .ref (a + 2), .int 0, .int 0, .null, .null, .null, .null, .int 0, .null, .null, .null, .null])) := g6
  have e6 := f6.trans e5
  have s6 : ∀ c, c < a + 4 → ¬ c = a → ¬ c = a + 20 → z6.1 c = z5.1 c := fun c _ q _ => n6 c q
  refine gx_putH h6 (by decide) (Nat.le_of_ble_eq_true rfl) hA (fun z7 g7 n7 f7 => ?_)
  have h7 : z7.1 a = some (.inr (7, [.ref (a + 1), .int 0, .ref (a + 2), .int 0, .int 0, .null, .null, .null, .null, .int 0, .null, .null, .null, .null])) := g7
  have e7 := f7.trans e6
  have s7 : ∀ c, c < a + 4 → ¬ c = a → ¬ c = a + 20 → z7.1 c = z6.1 c := fun c _ q _ => n7 c q
  refine gx_putH h7 (by decide) (Nat.le_of_ble_eq_true rfl) hA (fun z8 g8 n8 f8 => ?_)
  have h8 : z8.1 a = some (.inr (7, [.ref (a + 1), .int 0, .ref (a + 2), .int 0, .int (-1), .null, .null, .null, .null, .int 0, .null, .null, .null, .null])) := g8
  have e8 := f8.trans e7
  have s8 : ∀ c, c < a + 4 → ¬ c = a → ¬ c = a + 20 → z8.1 c = z7.1 c := fun c _ q _ => n8 c q
  refine gx_newH e8 (by omega) (fun z9 d9 n9 f9 => ?_)
  have e9 : z9.2 = some (a + 5) := f9
  have h9 := (n9 a (by omega)).trans h8
  have s9 : ∀ c, c < a + 4 → ¬ c = a → ¬ c = a + 20 → z9.1 c = z8.1 c := fun c q _ _ => n9 c (by omega)
  refine gx_call (i_X3 (a := a + 4) d9 e9 (by omega) hN) ?_
  rintro _ z10 ⟨e10, K10, tb3, A3, D3, o3⟩
  have h10 := (K10 a (by omega)).trans h9
  have s10 : ∀ c, c < a + 4 → ¬ c = a → ¬ c = a + 20 → z10.1 c = z9.1 c := fun c q _ _ => K10 c (by omega)
  replace e10 : z10.2 = some (a + 6) := e10.trans (congrArg some (by omega))
  refine gx_putH h10 (by decide) (Nat.le_of_ble_eq_true rfl) hA (fun z11 g11 n11 f11 => ?_)
  have h11 : z11.1 a = some (.inr (7, [.ref (a + 1), .int 0, .ref (a + 2), .int 0, .int (-1), .ref (a + 4), .null, .null, .null, .int 0, .null, .null, .null, .null])) := g11
  have e11 := f11.trans e10
  have s11 : ∀ c, c < a + 6 → ¬ c = a → ¬ c = a + 20 → z11.1 c = z10.1 c := fun c _ q _ => n11 c q
  refine gx_newH e11 (by omega) (fun z12 d12 n12 f12 => ?_)
  have e12 : z12.2 = some (a + 7) := f12
  have h12 := (n12 a (by omega)).trans h11
  have s12 : ∀ c, c < a + 6 → ¬ c = a → ¬ c = a + 20 → z12.1 c = z11.1 c := fun c q _ _ => n12 c (by omega)
  refine gx_call (i_X7 (a := a + 6) d12 e12 (by omega) hN) ?_
  rintro _ z13 ⟨e13, K13, tb7, A7, D7, o7⟩
  have h13 := (K13 a (by omega)).trans h12
  have s13 : ∀ c, c < a + 6 → ¬ c = a → ¬ c = a + 20 → z13.1 c = z12.1 c := fun c q _ _ => K13 c (by omega)
  replace e13 : z13.2 = some (a + 8) := e13.trans (congrArg some (by omega))
  refine gx_putH h13 (by decide) (Nat.le_of_ble_eq_true rfl) hA (fun z14 g14 n14 f14 => ?_)
  have h14 : z14.1 a = some (.inr (7, [.ref (a + 1), .int 0, .ref (a + 2), .int 0, .int (-1), .ref (a + 4), .ref (a + 6), .null, .null, .int 0, .null, .null, .null, .null])) := g14
  have e14 := f14.trans e13
  have s14 : ∀ c, c < a + 8 → ¬ c = a → ¬ c = a + 20 → z14.1 c = z13.1 c := fun c _ q _ => n14 c q
  refine gx_newH e14 (by omega) (fun z15 d15 n15 f15 => ?_)
  have e15 : z15.2 = some (a + 9) := f15
  have h15 := (n15 a (by omega)).trans h14
  have s15 : ∀ c, c < a + 8 → ¬ c = a → ¬ c = a + 20 → z15.1 c = z14.1 c := fun c q _ _ => n15 c (by omega)
  refine gx_call (i_X1 (a := a + 8) d15 e15 (by omega) hN) ?_
  rintro _ z16 ⟨e16, K16, o1, o2⟩
  have h16 := (K16 a (by omega)).trans h15
  have s16 : ∀ c, c < a + 8 → ¬ c = a → ¬ c = a + 20 → z16.1 c = z15.1 c := fun c q _ _ => K16 c (by omega)
  replace e16 : z16.2 = some (a + 20) := e16.trans (congrArg some (by omega))
  refine gx_putH h16 (by decide) (Nat.le_of_ble_eq_true rfl) hA (fun z17 g17 n17 f17 => ?_)
  have h17 : z17.1 a = some (.inr (7, [.ref (a + 1), .int 0, .ref (a + 2), .int 0, .int (-1), .ref (a + 4), .ref (a + 6), .ref (a + 8), .null, .int 0, .null, .null, .null, .null])) := g17
  have e17 := f17.trans e16
  have s17 : ∀ c, c < a + 20 → ¬ c = a → ¬ c = a + 20 → z17.1 c = z16.1 c := fun c _ q _ => n17 c q
  refine gx_newH e17 (by omega) (fun z18 d18 n18 f18 => ?_)
  have e18 : z18.2 = some (a + 21) := f18
  have h18 := (n18 a (by omega)).trans h17
  have s18 : ∀ c, c < a + 20 → ¬ c = a → ¬ c = a + 20 → z18.1 c = z17.1 c := fun c q _ _ => n18 c (by omega)
  have c18 := d18
  refine gx_putH h18 (by decide) (Nat.le_of_ble_eq_true rfl) hA (fun z19 g19 n19 f19 => ?_)
  have h19 : z19.1 a = some (.inr (7, [.ref (a + 1), .int 0, .ref (a + 2), .int 0, .int (-1), .ref (a + 4), .ref (a + 6), .ref (a + 8), .ref (a + 20), .int 0, .null, .null, .null, .null])) := g19
  have e19 := f19.trans e18
  have s19 : ∀ c, c < a + 21 → ¬ c = a → ¬ c = a + 20 → z19.1 c = z18.1 c := fun c _ q _ => n19 c q
  have c19 := (n19 (a + 20) (by omega)).trans c18
  refine gx_putH h19 (by decide) (Nat.le_of_ble_eq_true rfl) hA (fun z20 g20 n20 f20 => ?_)
  have h20 : z20.1 a = some (.inr (7, [.ref (a + 1), .int 0, .ref (a + 2), .int 0, .int (-1), .ref (a + 4), .ref (a + 6), .ref (a + 8), .ref (a + 20), .int 0, .null, .null, .null, .null])) := g20
  have e20 := f20.trans e19
  have s20 : ∀ c, c < a + 21 → ¬ c = a → ¬ c = a + 20 → z20.1 c = z19.1 c := fun c _ q _ => n20 c q
  have c20 := (n20 (a + 20) (by omega)).trans c19
  refine gx_newH e20 (by omega) (fun z21 d21 n21 f21 => ?_)
  have e21 : z21.2 = some (a + 22) := f21
  have h21 := (n21 a (by omega)).trans h20
  have s21 : ∀ c, c < a + 21 → ¬ c = a → ¬ c = a + 20 → z21.1 c = z20.1 c := fun c q _ _ => n21 c (by omega)
  have c21 := (n21 (a + 20) (by omega)).trans c20
  refine gx_call (i_X0 (a := a + 21) d21 e21 (by omega) hN) ?_
  rintro _ z22 ⟨e22, K22, ob⟩
  have h22 := (K22 a (by omega)).trans h21
  have s22 : ∀ c, c < a + 21 → ¬ c = a → ¬ c = a + 20 → z22.1 c = z21.1 c := fun c q _ _ => K22 c (by omega)
  have c22 := (K22 (a + 20) (by omega)).trans c21
  replace e22 : z22.2 = some (a + 27) := e22.trans (congrArg some (by omega))
  refine gx_putH h22 (by decide) (Nat.le_of_ble_eq_true rfl) hA (fun z23 g23 n23 f23 => ?_)
  have h23 : z23.1 a = some (.inr (7, [.ref (a + 1), .int 0, .ref (a + 2), .int 0, .int (-1), .ref (a + 4), .ref (a + 6), .ref (a + 8), .ref (a + 20), .int 0, .ref (a + 21), .null, .null, .null])) := g23
  have e23 := f23.trans e22
  have s23 : ∀ c, c < a + 27 → ¬ c = a → ¬ c = a + 20 → z23.1 c = z22.1 c := fun c _ q _ => n23 c q
  have c23 := (n23 (a + 20) (by omega)).trans c22
  refine gx_newH e23 (by omega) (fun z24 d24 n24 f24 => ?_)
  have e24 : z24.2 = some (a + 28) := f24
  have h24 := (n24 a (by omega)).trans h23
  have s24 : ∀ c, c < a + 27 → ¬ c = a → ¬ c = a + 20 → z24.1 c = z23.1 c := fun c q _ _ => n24 c (by omega)
  have c24 := (n24 (a + 20) (by omega)).trans c23
  refine gx_call (i_X0 (a := a + 27) d24 e24 (by omega) hN) ?_
  rintro _ z25 ⟨e25, K25, os⟩
  have h25 := (K25 a (by omega)).trans h24
  have s25 : ∀ c, c < a + 27 → ¬ c = a → ¬ c = a + 20 → z25.1 c = z24.1 c := fun c q _ _ => K25 c (by omega)
  have c25 := (K25 (a + 20) (by omega)).trans c24
  replace e25 : z25.2 = some (a + 33) := e25.trans (congrArg some (by omega))
  refine gx_putH h25 (by decide) (Nat.le_of_ble_eq_true rfl) hA (fun z26 g26 n26 f26 => ?_)
  have h26 : z26.1 a = some (.inr (7, [.ref (a + 1), .int 0, .ref (a + 2), .int 0, .int (-1), .ref (a + 4), .ref (a + 6), .ref (a + 8), .ref (a + 20), .int 0, .ref (a + 21), .ref (a + 27), .null, .null])) := g26
  have e26 := f26.trans e25
  have s26 : ∀ c, c < a + 33 → ¬ c = a → ¬ c = a + 20 → z26.1 c = z25.1 c := fun c _ q _ => n26 c q
  have c26 := (n26 (a + 20) (by omega)).trans c25
  refine gx_newH e26 (by omega) (fun z27 d27 n27 f27 => ?_)
  have e27 : z27.2 = some (a + 34) := f27
  have h27 := (n27 a (by omega)).trans h26
  have s27 : ∀ c, c < a + 33 → ¬ c = a → ¬ c = a + 20 → z27.1 c = z26.1 c := fun c q _ _ => n27 c (by omega)
  have c27 := (n27 (a + 20) (by omega)).trans c26
  refine gx_call (i_X5 (a := a + 33) d27 e27 (by omega) hN) ?_
  rintro _ z28 ⟨e28, K28, on⟩
  have h28 := (K28 a (by omega)).trans h27
  have s28 : ∀ c, c < a + 33 → ¬ c = a → ¬ c = a + 20 → z28.1 c = z27.1 c := fun c q _ _ => K28 c (by omega)
  have c28 := (K28 (a + 20) (by omega)).trans c27
  replace e28 : z28.2 = some (a + 45) := e28.trans (congrArg some (by omega))
  refine gx_putH h28 (by decide) (Nat.le_of_ble_eq_true rfl) hA (fun z29 g29 n29 f29 => ?_)
  have h29 : z29.1 a = some (.inr (7, [.ref (a + 1), .int 0, .ref (a + 2), .int 0, .int (-1), .ref (a + 4), .ref (a + 6), .ref (a + 8), .ref (a + 20), .int 0, .ref (a + 21), .ref (a + 27), .ref (a + 33), .null])) := g29
  have e29 := f29.trans e28
  have s29 : ∀ c, c < a + 45 → ¬ c = a → ¬ c = a + 20 → z29.1 c = z28.1 c := fun c _ q _ => n29 c q
  have c29 := (n29 (a + 20) (by omega)).trans c28
  refine gx_newH e29 (by omega) (fun z30 d30 n30 f30 => ?_)
  have e30 : z30.2 = some (a + 46) := f30
  have h30 := (n30 a (by omega)).trans h29
  have s30 : ∀ c, c < a + 45 → ¬ c = a → ¬ c = a + 20 → z30.1 c = z29.1 c := fun c q _ _ => n30 c (by omega)
  have c30 := (n30 (a + 20) (by omega)).trans c29
  refine gx_call (i_X5 (a := a + 45) d30 e30 (by omega) hN) ?_
  rintro _ z31 ⟨e31, K31, od⟩
  have h31 := (K31 a (by omega)).trans h30
  have s31 : ∀ c, c < a + 45 → ¬ c = a → ¬ c = a + 20 → z31.1 c = z30.1 c := fun c q _ _ => K31 c (by omega)
  have c31 := (K31 (a + 20) (by omega)).trans c30
  replace e31 : z31.2 = some (a + 57) := e31.trans (congrArg some (by omega))
  refine gx_putH h31 (by decide) (Nat.le_of_ble_eq_true rfl) hA (fun z32 g32 n32 f32 => ?_)
  have h32 : z32.1 a = some (.inr (7, [.ref (a + 1), .int 0, .ref (a + 2), .int 0, .int (-1), .ref (a + 4), .ref (a + 6), .ref (a + 8), .ref (a + 20), .int 0, .ref (a + 21), .ref (a + 27), .ref (a + 33), .ref (a + 45)])) := g32
  have e32 := f32.trans e31
  have s32 : ∀ c, c < a + 57 → ¬ c = a → ¬ c = a + 20 → z32.1 c = z31.1 c := fun c _ q _ => n32 c q
  have c32 := (n32 (a + 20) (by omega)).trans c31
  refine gx_itef (by decide) (gx_gR h32 (by decide) rfl ?_)
  refine gx_newH e32 (by omega) (fun z33 d33 n33 f33 => ?_)
  have e33 : z33.2 = some (a + 58) := f33
  have h33 := (n33 a (by omega)).trans h32
  have s33 : ∀ c, c < a + 57 → ¬ c = a → ¬ c = a + 20 → z33.1 c = z32.1 c := fun c q _ _ => n33 c (by omega)
  have c33 := (n33 (a + 20) (by omega)).trans c32
  refine gx_call (i_X5 (a := a + 57) d33 e33 (by omega) hN) ?_
  rintro _ z34 ⟨e34, K34, p0⟩
  have h34 := (K34 a (by omega)).trans h33
  have s34 : ∀ c, c < a + 57 → ¬ c = a → ¬ c = a + 20 → z34.1 c = z33.1 c := fun c q _ _ => K34 c (by omega)
  have c34 := (K34 (a + 20) (by omega)).trans c33
  replace e34 : z34.2 = some (a + 69) := e34.trans (congrArg some (by omega))
  refine gx_sNQ (i := 0) c34 p0.o (by omega) (by omega) (by omega) ?_
  generalize hz35 : osup z34 (a + 20) _ = z35
  have n35 : ∀ c, ¬ c = a + 20 → z35.1 c = z34.1 c := fun c hc => by rw [← hz35]; exact if_neg hc
  have c35 : z35.1 (a + 20) = some (.inl (5, (6, .inr (.inr (.inr (.inr (va_up (fun _ => none) 0 (some (a + 57))))))))) := by rw [← hz35]; exact osup_eq
  have e35 : z35.2 = some (a + 69) := by rw [← hz35]; exact e34
  have h35 := (n35 a (by omega)).trans h34
  have s35 : ∀ c, c < a + 69 → ¬ c = a → ¬ c = a + 20 → z35.1 c = z34.1 c := fun c _ _ q => n35 c q
  refine gx_itef (by decide) (gx_gR h35 (by decide) rfl ?_)
  refine gx_newH e35 (by omega) (fun z36 d36 n36 f36 => ?_)
  have e36 : z36.2 = some (a + 70) := f36
  have h36 := (n36 a (by omega)).trans h35
  have s36 : ∀ c, c < a + 69 → ¬ c = a → ¬ c = a + 20 → z36.1 c = z35.1 c := fun c q _ _ => n36 c (by omega)
  have c36 := (n36 (a + 20) (by omega)).trans c35
  refine gx_call (i_X5 (a := a + 69) d36 e36 (by omega) hN) ?_
  rintro _ z37 ⟨e37, K37, p1⟩
  have h37 := (K37 a (by omega)).trans h36
  have s37 : ∀ c, c < a + 69 → ¬ c = a → ¬ c = a + 20 → z37.1 c = z36.1 c := fun c q _ _ => K37 c (by omega)
  have c37 := (K37 (a + 20) (by omega)).trans c36
  replace e37 : z37.2 = some (a + 81) := e37.trans (congrArg some (by omega))
  rw [show (0 : Int32) + (1 : Int32) = nI 1 from by decide]
  refine gx_sNQ (i := 1) c37 p1.o (by omega) (by omega) (by omega) ?_
  generalize hz38 : osup z37 (a + 20) _ = z38
  have n38 : ∀ c, ¬ c = a + 20 → z38.1 c = z37.1 c := fun c hc => by rw [← hz38]; exact if_neg hc
  have c38 : z38.1 (a + 20) = some (.inl (5, (6, .inr (.inr (.inr (.inr (va_up (va_up (fun _ => none) 0 (some (a + 57))) 1 (some (a + 69))))))))) := by rw [← hz38]; exact osup_eq
  have e38 : z38.2 = some (a + 81) := by rw [← hz38]; exact e37
  have h38 := (n38 a (by omega)).trans h37
  have s38 : ∀ c, c < a + 81 → ¬ c = a → ¬ c = a + 20 → z38.1 c = z37.1 c := fun c _ _ q => n38 c q
  refine gx_itef (by decide) (gx_gR h38 (by decide) rfl ?_)
  refine gx_newH e38 (by omega) (fun z39 d39 n39 f39 => ?_)
  have e39 : z39.2 = some (a + 82) := f39
  have h39 := (n39 a (by omega)).trans h38
  have s39 : ∀ c, c < a + 81 → ¬ c = a → ¬ c = a + 20 → z39.1 c = z38.1 c := fun c q _ _ => n39 c (by omega)
  have c39 := (n39 (a + 20) (by omega)).trans c38
  refine gx_call (i_X5 (a := a + 81) d39 e39 (by omega) hN) ?_
  rintro _ z40 ⟨e40, K40, p2⟩
  have h40 := (K40 a (by omega)).trans h39
  have s40 : ∀ c, c < a + 81 → ¬ c = a → ¬ c = a + 20 → z40.1 c = z39.1 c := fun c q _ _ => K40 c (by omega)
  have c40 := (K40 (a + 20) (by omega)).trans c39
  replace e40 : z40.2 = some (a + 93) := e40.trans (congrArg some (by omega))
  rw [show nI 1 + (1 : Int32) = nI 2 from by decide]
  refine gx_sNQ (i := 2) c40 p2.o (by omega) (by omega) (by omega) ?_
  generalize hz41 : osup z40 (a + 20) _ = z41
  have n41 : ∀ c, ¬ c = a + 20 → z41.1 c = z40.1 c := fun c hc => by rw [← hz41]; exact if_neg hc
  have c41 : z41.1 (a + 20) = some (.inl (5, (6, .inr (.inr (.inr (.inr (va_up (va_up (va_up (fun _ => none) 0 (some (a + 57))) 1 (some (a + 69))) 2 (some (a + 81))))))))) := by rw [← hz41]; exact osup_eq
  have e41 : z41.2 = some (a + 93) := by rw [← hz41]; exact e40
  have h41 := (n41 a (by omega)).trans h40
  have s41 : ∀ c, c < a + 93 → ¬ c = a → ¬ c = a + 20 → z41.1 c = z40.1 c := fun c _ _ q => n41 c q
  refine gx_itef (by decide) (gx_gR h41 (by decide) rfl ?_)
  refine gx_newH e41 (by omega) (fun z42 d42 n42 f42 => ?_)
  have e42 : z42.2 = some (a + 94) := f42
  have h42 := (n42 a (by omega)).trans h41
  have s42 : ∀ c, c < a + 93 → ¬ c = a → ¬ c = a + 20 → z42.1 c = z41.1 c := fun c q _ _ => n42 c (by omega)
  have c42 := (n42 (a + 20) (by omega)).trans c41
  refine gx_call (i_X5 (a := a + 93) d42 e42 (by omega) hN) ?_
  rintro _ z43 ⟨e43, K43, p3⟩
  have h43 := (K43 a (by omega)).trans h42
  have s43 : ∀ c, c < a + 93 → ¬ c = a → ¬ c = a + 20 → z43.1 c = z42.1 c := fun c q _ _ => K43 c (by omega)
  have c43 := (K43 (a + 20) (by omega)).trans c42
  replace e43 : z43.2 = some (a + 105) := e43.trans (congrArg some (by omega))
  rw [show nI 2 + (1 : Int32) = nI 3 from by decide]
  refine gx_sNQ (i := 3) c43 p3.o (by omega) (by omega) (by omega) ?_
  generalize hz44 : osup z43 (a + 20) _ = z44
  have n44 : ∀ c, ¬ c = a + 20 → z44.1 c = z43.1 c := fun c hc => by rw [← hz44]; exact if_neg hc
  have c44 : z44.1 (a + 20) = some (.inl (5, (6, .inr (.inr (.inr (.inr (va_up (va_up (va_up (va_up (fun _ => none) 0 (some (a + 57))) 1 (some (a + 69))) 2 (some (a + 81))) 3 (some (a + 93))))))))) := by rw [← hz44]; exact osup_eq
  have e44 : z44.2 = some (a + 105) := by rw [← hz44]; exact e43
  have h44 := (n44 a (by omega)).trans h43
  have s44 : ∀ c, c < a + 105 → ¬ c = a → ¬ c = a + 20 → z44.1 c = z43.1 c := fun c _ _ q => n44 c q
  refine gx_itef (by decide) (gx_gR h44 (by decide) rfl ?_)
  refine gx_newH e44 (by omega) (fun z45 d45 n45 f45 => ?_)
  have e45 : z45.2 = some (a + 106) := f45
  have h45 := (n45 a (by omega)).trans h44
  have s45 : ∀ c, c < a + 105 → ¬ c = a → ¬ c = a + 20 → z45.1 c = z44.1 c := fun c q _ _ => n45 c (by omega)
  have c45 := (n45 (a + 20) (by omega)).trans c44
  refine gx_call (i_X5 (a := a + 105) d45 e45 (by omega) hN) ?_
  rintro _ z46 ⟨e46, K46, p4⟩
  have h46 := (K46 a (by omega)).trans h45
  have s46 : ∀ c, c < a + 105 → ¬ c = a → ¬ c = a + 20 → z46.1 c = z45.1 c := fun c q _ _ => K46 c (by omega)
  have c46 := (K46 (a + 20) (by omega)).trans c45
  replace e46 : z46.2 = some (a + 117) := e46.trans (congrArg some (by omega))
  rw [show nI 3 + (1 : Int32) = nI 4 from by decide]
  refine gx_sNQ (i := 4) c46 p4.o (by omega) (by omega) (by omega) ?_
  generalize hz47 : osup z46 (a + 20) _ = z47
  have n47 : ∀ c, ¬ c = a + 20 → z47.1 c = z46.1 c := fun c hc => by rw [← hz47]; exact if_neg hc
  have c47 : z47.1 (a + 20) = some (.inl (5, (6, .inr (.inr (.inr (.inr (va_up (va_up (va_up (va_up (va_up (fun _ => none) 0 (some (a + 57))) 1 (some (a + 69))) 2 (some (a + 81))) 3 (some (a + 93))) 4 (some (a + 105))))))))) := by rw [← hz47]; exact osup_eq
  have e47 : z47.2 = some (a + 117) := by rw [← hz47]; exact e46
  have h47 := (n47 a (by omega)).trans h46
  have s47 : ∀ c, c < a + 117 → ¬ c = a → ¬ c = a + 20 → z47.1 c = z46.1 c := fun c _ _ q => n47 c q
  refine gx_itef (by decide) (gx_gR h47 (by decide) rfl ?_)
  refine gx_newH e47 (by omega) (fun z48 d48 n48 f48 => ?_)
  have e48 : z48.2 = some (a + 118) := f48
  have h48 := (n48 a (by omega)).trans h47
  have s48 : ∀ c, c < a + 117 → ¬ c = a → ¬ c = a + 20 → z48.1 c = z47.1 c := fun c q _ _ => n48 c (by omega)
  have c48 := (n48 (a + 20) (by omega)).trans c47
  refine gx_call (i_X5 (a := a + 117) d48 e48 (by omega) hN) ?_
  rintro _ z49 ⟨e49, K49, p5⟩
  have h49 := (K49 a (by omega)).trans h48
  have s49 : ∀ c, c < a + 117 → ¬ c = a → ¬ c = a + 20 → z49.1 c = z48.1 c := fun c q _ _ => K49 c (by omega)
  have c49 := (K49 (a + 20) (by omega)).trans c48
  replace e49 : z49.2 = some (a + 129) := e49.trans (congrArg some (by omega))
  rw [show nI 4 + (1 : Int32) = nI 5 from by decide]
  refine gx_sNQ (i := 5) c49 p5.o (by omega) (by omega) (by omega) ?_
  generalize hz50 : osup z49 (a + 20) _ = z50
  have n50 : ∀ c, ¬ c = a + 20 → z50.1 c = z49.1 c := fun c hc => by rw [← hz50]; exact if_neg hc
  have c50 : z50.1 (a + 20) = some (.inl (5, (6, .inr (.inr (.inr (.inr (va_up (va_up (va_up (va_up (va_up (va_up (fun _ => none) 0 (some (a + 57))) 1 (some (a + 69))) 2 (some (a + 81))) 3 (some (a + 93))) 4 (some (a + 105))) 5 (some (a + 117))))))))) := by rw [← hz50]; exact osup_eq
  have e50 : z50.2 = some (a + 129) := by rw [← hz50]; exact e49
  have h50 := (n50 a (by omega)).trans h49
  have s50 : ∀ c, c < a + 129 → ¬ c = a → ¬ c = a + 20 → z50.1 c = z49.1 c := fun c _ _ q => n50 c q
  refine gx_itet (by decide) (gx_ret ?_)
  have q50 : ∀ c, c < a + 129 → ¬ c = a → ¬ c = a + 20 → z50.1 c = z50.1 c := fun _ _ _ _ => rfl
  have q49 : ∀ c, c < a + 129 → ¬ c = a → ¬ c = a + 20 → z50.1 c = z49.1 c := fun c x y w => (q50 c (by omega) y w).trans (s50 c (by omega) y w)
  have q48 : ∀ c, c < a + 117 → ¬ c = a → ¬ c = a + 20 → z50.1 c = z48.1 c := fun c x y w => (q49 c (by omega) y w).trans (s49 c (by omega) y w)
  have q47 : ∀ c, c < a + 117 → ¬ c = a → ¬ c = a + 20 → z50.1 c = z47.1 c := fun c x y w => (q48 c (by omega) y w).trans (s48 c (by omega) y w)
  have q46 : ∀ c, c < a + 117 → ¬ c = a → ¬ c = a + 20 → z50.1 c = z46.1 c := fun c x y w => (q47 c (by omega) y w).trans (s47 c (by omega) y w)
  have q45 : ∀ c, c < a + 105 → ¬ c = a → ¬ c = a + 20 → z50.1 c = z45.1 c := fun c x y w => (q46 c (by omega) y w).trans (s46 c (by omega) y w)
  have q44 : ∀ c, c < a + 105 → ¬ c = a → ¬ c = a + 20 → z50.1 c = z44.1 c := fun c x y w => (q45 c (by omega) y w).trans (s45 c (by omega) y w)
  have q43 : ∀ c, c < a + 105 → ¬ c = a → ¬ c = a + 20 → z50.1 c = z43.1 c := fun c x y w => (q44 c (by omega) y w).trans (s44 c (by omega) y w)
  have q42 : ∀ c, c < a + 93 → ¬ c = a → ¬ c = a + 20 → z50.1 c = z42.1 c := fun c x y w => (q43 c (by omega) y w).trans (s43 c (by omega) y w)
  have q41 : ∀ c, c < a + 93 → ¬ c = a → ¬ c = a + 20 → z50.1 c = z41.1 c := fun c x y w => (q42 c (by omega) y w).trans (s42 c (by omega) y w)
  have q40 : ∀ c, c < a + 93 → ¬ c = a → ¬ c = a + 20 → z50.1 c = z40.1 c := fun c x y w => (q41 c (by omega) y w).trans (s41 c (by omega) y w)
  have q39 : ∀ c, c < a + 81 → ¬ c = a → ¬ c = a + 20 → z50.1 c = z39.1 c := fun c x y w => (q40 c (by omega) y w).trans (s40 c (by omega) y w)
  have q38 : ∀ c, c < a + 81 → ¬ c = a → ¬ c = a + 20 → z50.1 c = z38.1 c := fun c x y w => (q39 c (by omega) y w).trans (s39 c (by omega) y w)
  have q37 : ∀ c, c < a + 81 → ¬ c = a → ¬ c = a + 20 → z50.1 c = z37.1 c := fun c x y w => (q38 c (by omega) y w).trans (s38 c (by omega) y w)
  have q36 : ∀ c, c < a + 69 → ¬ c = a → ¬ c = a + 20 → z50.1 c = z36.1 c := fun c x y w => (q37 c (by omega) y w).trans (s37 c (by omega) y w)
  have q35 : ∀ c, c < a + 69 → ¬ c = a → ¬ c = a + 20 → z50.1 c = z35.1 c := fun c x y w => (q36 c (by omega) y w).trans (s36 c (by omega) y w)
  have q34 : ∀ c, c < a + 69 → ¬ c = a → ¬ c = a + 20 → z50.1 c = z34.1 c := fun c x y w => (q35 c (by omega) y w).trans (s35 c (by omega) y w)
  have q33 : ∀ c, c < a + 57 → ¬ c = a → ¬ c = a + 20 → z50.1 c = z33.1 c := fun c x y w => (q34 c (by omega) y w).trans (s34 c (by omega) y w)
  have q32 : ∀ c, c < a + 57 → ¬ c = a → ¬ c = a + 20 → z50.1 c = z32.1 c := fun c x y w => (q33 c (by omega) y w).trans (s33 c (by omega) y w)
  have q31 : ∀ c, c < a + 57 → ¬ c = a → ¬ c = a + 20 → z50.1 c = z31.1 c := fun c x y w => (q32 c (by omega) y w).trans (s32 c (by omega) y w)
  have q30 : ∀ c, c < a + 45 → ¬ c = a → ¬ c = a + 20 → z50.1 c = z30.1 c := fun c x y w => (q31 c (by omega) y w).trans (s31 c (by omega) y w)
  have q29 : ∀ c, c < a + 45 → ¬ c = a → ¬ c = a + 20 → z50.1 c = z29.1 c := fun c x y w => (q30 c (by omega) y w).trans (s30 c (by omega) y w)
  have q28 : ∀ c, c < a + 45 → ¬ c = a → ¬ c = a + 20 → z50.1 c = z28.1 c := fun c x y w => (q29 c (by omega) y w).trans (s29 c (by omega) y w)
  have q27 : ∀ c, c < a + 33 → ¬ c = a → ¬ c = a + 20 → z50.1 c = z27.1 c := fun c x y w => (q28 c (by omega) y w).trans (s28 c (by omega) y w)
  have q26 : ∀ c, c < a + 33 → ¬ c = a → ¬ c = a + 20 → z50.1 c = z26.1 c := fun c x y w => (q27 c (by omega) y w).trans (s27 c (by omega) y w)
  have q25 : ∀ c, c < a + 33 → ¬ c = a → ¬ c = a + 20 → z50.1 c = z25.1 c := fun c x y w => (q26 c (by omega) y w).trans (s26 c (by omega) y w)
  have q24 : ∀ c, c < a + 27 → ¬ c = a → ¬ c = a + 20 → z50.1 c = z24.1 c := fun c x y w => (q25 c (by omega) y w).trans (s25 c (by omega) y w)
  have q23 : ∀ c, c < a + 27 → ¬ c = a → ¬ c = a + 20 → z50.1 c = z23.1 c := fun c x y w => (q24 c (by omega) y w).trans (s24 c (by omega) y w)
  have q22 : ∀ c, c < a + 27 → ¬ c = a → ¬ c = a + 20 → z50.1 c = z22.1 c := fun c x y w => (q23 c (by omega) y w).trans (s23 c (by omega) y w)
  have q21 : ∀ c, c < a + 21 → ¬ c = a → ¬ c = a + 20 → z50.1 c = z21.1 c := fun c x y w => (q22 c (by omega) y w).trans (s22 c (by omega) y w)
  have q20 : ∀ c, c < a + 21 → ¬ c = a → ¬ c = a + 20 → z50.1 c = z20.1 c := fun c x y w => (q21 c (by omega) y w).trans (s21 c (by omega) y w)
  have q19 : ∀ c, c < a + 21 → ¬ c = a → ¬ c = a + 20 → z50.1 c = z19.1 c := fun c x y w => (q20 c (by omega) y w).trans (s20 c (by omega) y w)
  have q18 : ∀ c, c < a + 21 → ¬ c = a → ¬ c = a + 20 → z50.1 c = z18.1 c := fun c x y w => (q19 c (by omega) y w).trans (s19 c (by omega) y w)
  have q17 : ∀ c, c < a + 20 → ¬ c = a → ¬ c = a + 20 → z50.1 c = z17.1 c := fun c x y w => (q18 c (by omega) y w).trans (s18 c (by omega) y w)
  have q16 : ∀ c, c < a + 20 → ¬ c = a → ¬ c = a + 20 → z50.1 c = z16.1 c := fun c x y w => (q17 c (by omega) y w).trans (s17 c (by omega) y w)
  have q15 : ∀ c, c < a + 8 → ¬ c = a → ¬ c = a + 20 → z50.1 c = z15.1 c := fun c x y w => (q16 c (by omega) y w).trans (s16 c (by omega) y w)
  have q14 : ∀ c, c < a + 8 → ¬ c = a → ¬ c = a + 20 → z50.1 c = z14.1 c := fun c x y w => (q15 c (by omega) y w).trans (s15 c (by omega) y w)
  have q13 : ∀ c, c < a + 8 → ¬ c = a → ¬ c = a + 20 → z50.1 c = z13.1 c := fun c x y w => (q14 c (by omega) y w).trans (s14 c (by omega) y w)
  have q12 : ∀ c, c < a + 6 → ¬ c = a → ¬ c = a + 20 → z50.1 c = z12.1 c := fun c x y w => (q13 c (by omega) y w).trans (s13 c (by omega) y w)
  have q11 : ∀ c, c < a + 6 → ¬ c = a → ¬ c = a + 20 → z50.1 c = z11.1 c := fun c x y w => (q12 c (by omega) y w).trans (s12 c (by omega) y w)
  have q10 : ∀ c, c < a + 6 → ¬ c = a → ¬ c = a + 20 → z50.1 c = z10.1 c := fun c x y w => (q11 c (by omega) y w).trans (s11 c (by omega) y w)
  have q9 : ∀ c, c < a + 4 → ¬ c = a → ¬ c = a + 20 → z50.1 c = z9.1 c := fun c x y w => (q10 c (by omega) y w).trans (s10 c (by omega) y w)
  have q8 : ∀ c, c < a + 4 → ¬ c = a → ¬ c = a + 20 → z50.1 c = z8.1 c := fun c x y w => (q9 c (by omega) y w).trans (s9 c (by omega) y w)
  have q7 : ∀ c, c < a + 4 → ¬ c = a → ¬ c = a + 20 → z50.1 c = z7.1 c := fun c x y w => (q8 c (by omega) y w).trans (s8 c (by omega) y w)
  have q6 : ∀ c, c < a + 4 → ¬ c = a → ¬ c = a + 20 → z50.1 c = z6.1 c := fun c x y w => (q7 c (by omega) y w).trans (s7 c (by omega) y w)
  have q5 : ∀ c, c < a + 4 → ¬ c = a → ¬ c = a + 20 → z50.1 c = z5.1 c := fun c x y w => (q6 c (by omega) y w).trans (s6 c (by omega) y w)
  have q4 : ∀ c, c < a + 2 → ¬ c = a → ¬ c = a + 20 → z50.1 c = z4.1 c := fun c x y w => (q5 c (by omega) y w).trans (s5 c (by omega) y w)
  have q3 : ∀ c, c < a + 2 → ¬ c = a → ¬ c = a + 20 → z50.1 c = z3.1 c := fun c x y w => (q4 c (by omega) y w).trans (s4 c (by omega) y w)
  have q2 : ∀ c, c < a + 2 → ¬ c = a → ¬ c = a + 20 → z50.1 c = z2.1 c := fun c x y w => (q3 c (by omega) y w).trans (s3 c (by omega) y w)
  have q1 : ∀ c, c < a + 2 → ¬ c = a → ¬ c = a + 20 → z50.1 c = z1.1 c := fun c x y w => (q2 c (by omega) y w).trans (s2 c (by omega) y w)
  have q0 : ∀ c, c < a + 1 → ¬ c = a → ¬ c = a + 20 → z50.1 c = z.1 c := fun c x y w => (q1 c (by omega) y w).trans (s1 c (by omega) y w)
  refine ⟨e50, fun c hc => q0 c (by omega) (by omega) (by omega), ⟨h50, (q1 (a + 1) (by omega) (by omega) (by omega)).trans d1⟩, o4.kp (fun c _ _ => q5 c (by omega) (by omega) (by omega)), ⟨tb3, A3, D3, o3.kp (fun c _ _ => q10 c (by omega) (by omega) (by omega))⟩, ⟨tb7, A7, D7, o7.kp (fun c _ _ => q13 c (by omega) (by omega) (by omega))⟩, o1.kp (fun c _ _ => q16 c (by omega) (by omega) (by omega)), o2.kp (fun c _ _ => q16 c (by omega) (by omega) (by omega)), ⟨_, c50, fun i hi => ?_⟩, ob.kp (fun c _ _ => q22 c (by omega) (by omega) (by omega)), os.kp (fun c _ _ => q25 c (by omega) (by omega) (by omega)), on.kp (fun c _ _ => q28 c (by omega) (by omega) (by omega)), od.kp (fun c _ _ => q31 c (by omega) (by omega) (by omega)), fun i hi => ?_⟩
  · rcases (show i = 0 ∨ i = 1 ∨ i = 2 ∨ i = 3 ∨ i = 4 ∨ i = 5 by omega) with e | e | e | e | e | e <;> subst e <;> rfl
  · rcases (show i = 0 ∨ i = 1 ∨ i = 2 ∨ i = 3 ∨ i = 4 ∨ i = 5 by omega) with e | e | e | e | e | e <;> subst e
    · exact p0.kp (fun c _ _ => q34 c (by omega) (by omega) (by omega))
    · exact p1.kp (fun c _ _ => q37 c (by omega) (by omega) (by omega))
    · exact p2.kp (fun c _ _ => q40 c (by omega) (by omega) (by omega))
    · exact p3.kp (fun c _ _ => q43 c (by omega) (by omega) (by omega))
    · exact p4.kp (fun c _ _ => q46 c (by omega) (by omega) (by omega))
    · exact p5.kp (fun c _ _ => q49 c (by omega) (by omega) (by omega))
