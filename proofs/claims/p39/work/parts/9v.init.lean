/-! constructors (2) (by program) -/
theorem fr0 {lo hi : Nat} {z z1 : osS} (n : ∀ c, c < lo ∨ hi ≤ c → z1.1 c = z.1 c) : osFr lo hi (z.1, none) (z1.1, none) := ⟨n, rfl⟩
def rw17 : Nat → Nat → Int32 := fun k _ => if k = 17 then -1 else 0
def dw0 : Nat → Nat → Int64 := fun _ _ => 0
theorem i_X6_3 {G : osG} {z : osS} {N a : Nat} (h0 : z.1 a = some (.inr (3, [.null, .int 0, .int 0, .int 0, .int 0, .long 0, .int 0, .int 0, .int 0, .int 0]))) (e0 : z.2 = some (a + 1)) (hA : G.2.2.1 ≤ a) (hN : 5000 < N) : gx (qX6_init N a G z) (fun _ z' => z'.2 = some (a + 2) ∧ (∀ c, c < a → z'.1 c = z.1 c) ∧ ∃ tb A D, rX3 z' a tb A D) := by
  unfold qX6_init
  have K0 : ∀ c, c < a → z.1 c = z.1 c := fun _ _ => rfl
  refine gx_newH e0 (by omega) (fun z1 c1_1 n1 f1 => ?_)
  have e1 : z1.2 = some (a + 2) := f1
  have h1 := (n1 a (by omega)).trans h0
  have K1 : ∀ c, c < a → z1.1 c = z.1 c := fun c hc => (n1 c (by omega)).trans (K0 c hc)
  refine gx_putH h1 (by decide) (Nat.le_of_ble_eq_true rfl) hA (fun z2 h2 n2 f2 => ?_)
  have e2 := f2.trans e1
  have c1_2 := (n2 (a + 1) (by omega)).trans c1_1
  have K2 : ∀ c, c < a → z2.1 c = z.1 c := fun c hc => (n2 c (by omega)).trans (K1 c hc)
  refine gx_putH h2 (by decide) (Nat.le_of_ble_eq_true rfl) hA (fun z3 h3 n3 f3 => ?_)
  have e3 := f3.trans e2
  have c1_3 := (n3 (a + 1) (by omega)).trans c1_2
  have K3 : ∀ c, c < a → z3.1 c = z.1 c := fun c hc => (n3 c (by omega)).trans (K2 c hc)
  refine gx_putH h3 (by decide) (Nat.le_of_ble_eq_true rfl) hA (fun z4 h4 n4 f4 => ?_)
  have e4 := f4.trans e3
  have c1_4 := (n4 (a + 1) (by omega)).trans c1_3
  have K4 : ∀ c, c < a → z4.1 c = z.1 c := fun c hc => (n4 c (by omega)).trans (K3 c hc)
  refine gx_putH h4 (by decide) (Nat.le_of_ble_eq_true rfl) hA (fun z5 h5 n5 f5 => ?_)
  have e5 := f5.trans e4
  have c1_5 := (n5 (a + 1) (by omega)).trans c1_4
  have K5 : ∀ c, c < a → z5.1 c = z.1 c := fun c hc => (n5 c (by omega)).trans (K4 c hc)
  refine gx_putH h5 (by decide) (Nat.le_of_ble_eq_true rfl) hA (fun z6 h6 n6 f6 => ?_)
  have e6 := f6.trans e5
  have c1_6 := (n6 (a + 1) (by omega)).trans c1_5
  have K6 : ∀ c, c < a → z6.1 c = z.1 c := fun c hc => (n6 c (by omega)).trans (K5 c hc)
  refine gx_putH h6 (by decide) (Nat.le_of_ble_eq_true rfl) hA (fun z7 h7 n7 f7 => ?_)
  have e7 := f7.trans e6
  have c1_7 := (n7 (a + 1) (by omega)).trans c1_6
  have K7 : ∀ c, c < a → z7.1 c = z.1 c := fun c hc => (n7 c (by omega)).trans (K6 c hc)
  refine gx_putH h7 (by decide) (Nat.le_of_ble_eq_true rfl) hA (fun z8 h8 n8 f8 => ?_)
  have e8 := f8.trans e7
  have c1_8 := (n8 (a + 1) (by omega)).trans c1_7
  have K8 : ∀ c, c < a → z8.1 c = z.1 c := fun c hc => (n8 c (by omega)).trans (K7 c hc)
  refine gx_putH h8 (by decide) (Nat.le_of_ble_eq_true rfl) hA (fun z9 h9 n9 f9 => ?_)
  have e9 := f9.trans e8
  have c1_9 := (n9 (a + 1) (by omega)).trans c1_8
  have K9 : ∀ c, c < a → z9.1 c = z.1 c := fun c hc => (n9 c (by omega)).trans (K8 c hc)
  refine gx_putH h9 (by decide) (Nat.le_of_ble_eq_true rfl) hA (fun z10 h10 n10 f10 => ?_)
  have e10 := f10.trans e9
  have c1_10 := (n10 (a + 1) (by omega)).trans c1_9
  have K10 : ∀ c, c < a → z10.1 c = z.1 c := fun c hc => (n10 c (by omega)).trans (K9 c hc)
  refine gx_putH h10 (by decide) (Nat.le_of_ble_eq_true rfl) hA (fun z11 h11 n11 f11 => ?_)
  have e11 := f11.trans e10
  have c1_11 := (n11 (a + 1) (by omega)).trans c1_10
  have K11 : ∀ c, c < a → z11.1 c = z.1 c := fun c hc => (n11 c (by omega)).trans (K10 c hc)
  exact gx_ret ⟨e11, K11, a + 1, (fun k _ => if k = 9 then -1 else 0), (fun _ _ => 0), h11⟩
theorem i_X6_6 {G : osG} {z : osS} {N a : Nat} (h0 : z.1 a = some (.inr (6, [.null, .int 0, .int 0, .int 0, .int 0, .long 0, .int 0, .int 0, .int 0, .int 0]))) (e0 : z.2 = some (a + 1)) (hA : G.2.2.1 ≤ a) (hN : 5000 < N) : gx (qX6_init N a G z) (fun _ z' => z'.2 = some (a + 2) ∧ (∀ c, c < a → z'.1 c = z.1 c) ∧ ∃ tb A D, rX7 z' a tb A D) := by
  unfold qX6_init
  have K0 : ∀ c, c < a → z.1 c = z.1 c := fun _ _ => rfl
  refine gx_newH e0 (by omega) (fun z1 c1_1 n1 f1 => ?_)
  have e1 : z1.2 = some (a + 2) := f1
  have h1 := (n1 a (by omega)).trans h0
  have K1 : ∀ c, c < a → z1.1 c = z.1 c := fun c hc => (n1 c (by omega)).trans (K0 c hc)
  refine gx_putH h1 (by decide) (Nat.le_of_ble_eq_true rfl) hA (fun z2 h2 n2 f2 => ?_)
  have e2 := f2.trans e1
  have c1_2 := (n2 (a + 1) (by omega)).trans c1_1
  have K2 : ∀ c, c < a → z2.1 c = z.1 c := fun c hc => (n2 c (by omega)).trans (K1 c hc)
  refine gx_putH h2 (by decide) (Nat.le_of_ble_eq_true rfl) hA (fun z3 h3 n3 f3 => ?_)
  have e3 := f3.trans e2
  have c1_3 := (n3 (a + 1) (by omega)).trans c1_2
  have K3 : ∀ c, c < a → z3.1 c = z.1 c := fun c hc => (n3 c (by omega)).trans (K2 c hc)
  refine gx_putH h3 (by decide) (Nat.le_of_ble_eq_true rfl) hA (fun z4 h4 n4 f4 => ?_)
  have e4 := f4.trans e3
  have c1_4 := (n4 (a + 1) (by omega)).trans c1_3
  have K4 : ∀ c, c < a → z4.1 c = z.1 c := fun c hc => (n4 c (by omega)).trans (K3 c hc)
  refine gx_putH h4 (by decide) (Nat.le_of_ble_eq_true rfl) hA (fun z5 h5 n5 f5 => ?_)
  have e5 := f5.trans e4
  have c1_5 := (n5 (a + 1) (by omega)).trans c1_4
  have K5 : ∀ c, c < a → z5.1 c = z.1 c := fun c hc => (n5 c (by omega)).trans (K4 c hc)
  refine gx_putH h5 (by decide) (Nat.le_of_ble_eq_true rfl) hA (fun z6 h6 n6 f6 => ?_)
  have e6 := f6.trans e5
  have c1_6 := (n6 (a + 1) (by omega)).trans c1_5
  have K6 : ∀ c, c < a → z6.1 c = z.1 c := fun c hc => (n6 c (by omega)).trans (K5 c hc)
  refine gx_putH h6 (by decide) (Nat.le_of_ble_eq_true rfl) hA (fun z7 h7 n7 f7 => ?_)
  have e7 := f7.trans e6
  have c1_7 := (n7 (a + 1) (by omega)).trans c1_6
  have K7 : ∀ c, c < a → z7.1 c = z.1 c := fun c hc => (n7 c (by omega)).trans (K6 c hc)
  refine gx_putH h7 (by decide) (Nat.le_of_ble_eq_true rfl) hA (fun z8 h8 n8 f8 => ?_)
  have e8 := f8.trans e7
  have c1_8 := (n8 (a + 1) (by omega)).trans c1_7
  have K8 : ∀ c, c < a → z8.1 c = z.1 c := fun c hc => (n8 c (by omega)).trans (K7 c hc)
  refine gx_putH h8 (by decide) (Nat.le_of_ble_eq_true rfl) hA (fun z9 h9 n9 f9 => ?_)
  have e9 := f9.trans e8
  have c1_9 := (n9 (a + 1) (by omega)).trans c1_8
  have K9 : ∀ c, c < a → z9.1 c = z.1 c := fun c hc => (n9 c (by omega)).trans (K8 c hc)
  refine gx_putH h9 (by decide) (Nat.le_of_ble_eq_true rfl) hA (fun z10 h10 n10 f10 => ?_)
  have e10 := f10.trans e9
  have c1_10 := (n10 (a + 1) (by omega)).trans c1_9
  have K10 : ∀ c, c < a → z10.1 c = z.1 c := fun c hc => (n10 c (by omega)).trans (K9 c hc)
  refine gx_putH h10 (by decide) (Nat.le_of_ble_eq_true rfl) hA (fun z11 h11 n11 f11 => ?_)
  have e11 := f11.trans e10
  have c1_11 := (n11 (a + 1) (by omega)).trans c1_10
  have K11 : ∀ c, c < a → z11.1 c = z.1 c := fun c hc => (n11 c (by omega)).trans (K10 c hc)
  exact gx_ret ⟨e11, K11, a + 1, (fun k _ => if k = 9 then -1 else 0), (fun _ _ => 0), h11⟩
theorem i_X3 {G : osG} {z : osS} {N a : Nat} (h0 : z.1 a = some (.inr (3, [.null, .int 0, .int 0, .int 0, .int 0, .long 0, .int 0, .int 0, .int 0, .int 0]))) (e0 : z.2 = some (a + 1)) (hA : G.2.2.1 ≤ a) (hN : 5000 < N) : gx (qX3_init N a G z) (fun _ z' => z'.2 = some (a + 2) ∧ (∀ c, c < a → z'.1 c = z.1 c) ∧ ∃ tb A D, rX3 z' a tb A D) := by
  unfold qX3_init
  exact gx_call (i_X6_3 h0 e0 hA hN) (fun _ z1 h => gx_ret h)
theorem i_X7 {G : osG} {z : osS} {N a : Nat} (h0 : z.1 a = some (.inr (6, [.null, .int 0, .int 0, .int 0, .int 0, .long 0, .int 0, .int 0, .int 0, .int 0]))) (e0 : z.2 = some (a + 1)) (hA : G.2.2.1 ≤ a) (hN : 5000 < N) : gx (qX7_init N a G z) (fun _ z' => z'.2 = some (a + 2) ∧ (∀ c, c < a → z'.1 c = z.1 c) ∧ ∃ tb A D, rX7 z' a tb A D) := by
  unfold qX7_init
  exact gx_call (i_X6_6 h0 e0 hA hN) (fun _ z1 h => gx_ret h)
theorem i_X1 {G : osG} {z : osS} {N a : Nat} (h0 : z.1 a = some (.inr (1, [.null, .int 0, .int 0, .int 0, .int 0, .int 0, .int 0, .int 0]))) (e0 : z.2 = some (a + 1)) (hA : G.2.2.1 ≤ a) (hN : 5000 < N) : gx (qX1_init N a G z) (fun _ z' => z'.2 = some (a + 12) ∧ (∀ c, c < a → z'.1 c = z.1 c) ∧ rX1 z' a rw1 ∧ rX2 z' (a + 1) rw0) := by
  unfold qX1_init
  refine gx_newH e0 (by omega) (fun z1 c1 n1 f1 => ?_)
  have k1 : z1.1 a = _ := (n1 a (by omega)).trans h0
  refine gx_call (i_X2 (a := a + 1) c1 f1 (by omega) hN) (fun _ z2 ⟨e2, K2, r2⟩ => ?_)
  have h2 : z2.1 a = _ := (K2 a (by omega)).trans k1
  refine gx_putH h2 (by decide) (Nat.le_of_ble_eq_true rfl) hA (fun z3 h3 n3 f3 => gx_guard (by decide) ?_)
  refine gx_putH h3 (by decide) (Nat.le_of_ble_eq_true rfl) hA (fun z4 h4 n4 f4 => ?_)
  refine gx_putH h4 (by decide) (Nat.le_of_ble_eq_true rfl) hA (fun z5 h5 n5 f5 => ?_)
  refine gx_putH h5 (by decide) (Nat.le_of_ble_eq_true rfl) hA (fun z6 h6 n6 f6 => ?_)
  refine gx_putH h6 (by decide) (Nat.le_of_ble_eq_true rfl) hA (fun z7 h7 n7 f7 => ?_)
  refine gx_putH h7 (by decide) (Nat.le_of_ble_eq_true rfl) hA (fun z8 h8 n8 f8 => ?_)
  refine gx_putH h8 (by decide) (Nat.le_of_ble_eq_true rfl) hA (fun z9 h9 n9 f9 => ?_)
  refine gx_putH h9 (by decide) (Nat.le_of_ble_eq_true rfl) hA (fun z10 h10 n10 f10 => ?_)
  have nn : ∀ c, ¬ c = a → z10.1 c = z2.1 c := fun c hc => (n10 c hc).trans ((n9 c hc).trans ((n8 c hc).trans ((n7 c hc).trans ((n6 c hc).trans ((n5 c hc).trans ((n4 c hc).trans (n3 c hc)))))))
  refine gx_ret ⟨f10.trans (f9.trans (f8.trans (f7.trans (f6.trans (f5.trans (f4.trans (f3.trans e2))))))), fun c hc => (nn c (by omega)).trans ((K2 c (by omega)).trans (n1 c (by omega))), h10, ?_⟩
  exact rX2.keep (z := (z2.1, none)) (z1 := (z10.1, none)) (fr0 (lo := a) (hi := a + 1) (fun c hc => nn c (by omega))) (by omega) r2
