/-! the number of ones, of numbers below 65536 (tried one by one) -/
def pcI (x : Int32) : Int32 :=
  let x1 := x - ((osushr x (1 : Int32)) &&& (1431655765 : Int32))
  let x2 := (x1 &&& (858993459 : Int32)) + ((osushr x1 (2 : Int32)) &&& (858993459 : Int32))
  let x3 := (x2 + (osushr x2 (4 : Int32))) &&& (252645135 : Int32)
  let x4 := x3 + (osushr x3 (8 : Int32))
  let x5 := x4 + (osushr x4 (16 : Int32))
  x5 &&& (63 : Int32)
def pcN : Nat → Nat → Nat
  | 0, _ => 0
  | n + 1, k => k % 2 + pcN n (k / 2)
theorem pc_0 : ∀ h, h < 64 → ∀ k, k < 256 → pcI (nI (256 * h + k)) = nI (pcN 16 (256 * h + k)) := by decide +kernel
theorem pc_1 : ∀ h, h < 64 → ∀ k, k < 256 → pcI (nI (256 * (64 + h) + k)) = nI (pcN 16 (256 * (64 + h) + k)) := by decide +kernel
theorem pc_2 : ∀ h, h < 64 → ∀ k, k < 256 → pcI (nI (256 * (128 + h) + k)) = nI (pcN 16 (256 * (128 + h) + k)) := by decide +kernel
theorem pc_3 : ∀ h, h < 64 → ∀ k, k < 256 → pcI (nI (256 * (192 + h) + k)) = nI (pcN 16 (256 * (192 + h) + k)) := by decide +kernel
theorem pc_all {k : Nat} (h : k < 65536) : pcI (nI k) = nI (pcN 16 k) := by
  have e : k = 256 * (k / 256) + k % 256 := by omega
  have h2 : k % 256 < 256 := by omega
  by_cases c0 : k / 256 < 64
  · rw [e]; exact pc_0 _ c0 _ h2
  · by_cases c1 : k / 256 < 128
    · have := pc_1 (k / 256 - 64) (by omega) _ h2
      rw [show 64 + (k / 256 - 64) = k / 256 by omega] at this
      rw [e]; exact this
    · by_cases c2 : k / 256 < 192
      · have := pc_2 (k / 256 - 128) (by omega) _ h2
        rw [show 128 + (k / 256 - 128) = k / 256 by omega] at this
        rw [e]; exact this
      · have := pc_3 (k / 256 - 192) (by omega) _ h2
        rw [show 192 + (k / 256 - 192) = k / 256 by omega] at this
        rw [e]; exact this
