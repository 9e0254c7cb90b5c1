/-! the law's loop (by program) -/
theorem an63 (v : Int32) : ∃ q, q < 64 ∧ v &&& (63 : Int32) = nI q := by
  have e : v = nI v.toBitVec.toNat := Int32.toBitVec_inj.mp (by show _ = BitVec.ofNat 32 _; simp)
  refine ⟨v.toBitVec.toNat %64, Nat.mod_lt _ (by decide), ?_⟩
  have := nx_and v.toBitVec.toNat 63
  rw [show v.toBitVec.toNat &&& 63 = v.toBitVec.toNat %64 from Nat.and_two_pow_sub_one_eq_mod _ 6, ← e] at this
  exact this
section
variable {G : osG} {N L x b : Nat} {xs : Nat → Int32}
def loadOK (G : osG) (N x : Nat) : Prop := ∀ (z : osS) (ad : Nat → Nat) (W : Nat → Nat → Nat → Int32) (D : Nat → Nat → Int64) (n np T : Nat) (v : Int32), T < 5001 → WD z x ad W D → IVn W D n np T → callT G z x T [(1, (1 : Int32)), (0, (2 : Int32))] (qX9_load N x v) (qX10_load N (x + 129) v)
def tellOK (G : osG) (N x : Nat) : Prop := ∀ (z : osS) (ad : Nat → Nat) (W : Nat → Nat → Nat → Int32) (D : Nat → Nat → Int64) (n np T : Nat) (v : Int32), T < 5001 → WD z x ad W D → IVn W D n np T → callT G z x T [(1, (1 : Int32)), (0, (2 : Int32))] (qX9_tell N x v) (qX10_tell N (x + 129) v)
theorem law_round {z : osS} {i n np T : Nat} {ih : Nat × Nat × Nat × Nat × Nat × Int32 → osM Int32} {ad : Nat → Nat} {W : Nat → Nat → Nat → Int32} {D : Nat → Nat → Int64} {Q : Int32 → osS → Prop} (hload : loadOK G N x) (htell : tellOK G N x) (hw : WD z x ad W D) (hi : IVn W D n np T) (hI : osInj G) (hA : G.2.2.1 ≤ x) (hN : 5000 < N) (hT : T < 5000) (hl : i + 6 ≤ L) (hL : L ≤ 3072) (hk : ∀ z2 ad W D, WD z2 x ad W D → IV W D (T + 1) → gx (qL_law_2037 N L xs ih b x (x + 129) (x + 150) (x + 151) (nI i) G z2) Q) : gx (bL_law_28 N L xs ih b x (x + 129) (x + 150) (x + 151) (nI i) G z) Q := by
  have hL31 : L < 2 ^ 31 := by omega
  have hi1 := IV_T hi (Nat.le_succ T)
  unfold bL_law_28
  refine gx_callE (b := nI L) (z1 := z) (by unfold osslen2; rw [if_pos (by omega)]; rfl) (gx_itef ?_ (gx_callE (b := xs i) (z1 := z) ?_ ?_))
  · rw [show nI L - (6 : Int32) = nI (L - 6) from nI_sub (a := L) (b := 6) (by omega)]
    exact fun q => by have := (nI_ltI (by omega) (by omega)).mp q; omega
  · unfold ossld; rw [if_pos (nI_in (by omega) hL31), nI_clamp (by omega)]
  obtain ⟨q, hq, e⟩ := an63 (xs i)
  rw [e]
  by_cases h36 : 36 ≤ q
  · exact gx_swD (Nat.le_trans (Nat.le_of_ble_eq_true rfl) h36) (by omega) (hk z ad W D hw ⟨n, np, hi1⟩)
  clear e
  rcases (show q = 0 ∨ q = 1 ∨ q = 2 ∨ q = 3 ∨ q = 4 ∨ q = 5 ∨ q = 6 ∨ q = 7 ∨ q = 8 ∨ q = 9 ∨ q = 10 ∨ q = 11 ∨ q = 12 ∨ q = 13 ∨ q = 14 ∨ q = 15 ∨ q = 16 ∨ q = 17 ∨ q = 18 ∨ q = 19 ∨ q = 20 ∨ q = 21 ∨ q = 22 ∨ q = 23 ∨ q = 24 ∨ q = 25 ∨ q = 26 ∨ q = 27 ∨ q = 28 ∨ q = 29 ∨ q = 30 ∨ q = 31 ∨ q = 32 ∨ q = 33 ∨ q = 34 ∨ q = 35 by omega) with e | e | e | e | e | e | e | e | e | e | e | e | e | e | e | e | e | e | e | e | e | e | e | e | e | e | e | e | e | e | e | e | e | e | e | e <;> subst e
  · exact gx_swN (c := 0) (Nat.le_of_ble_eq_true rfl) (by omega) (law_0 hw hi hI hA hN hT hl hL31 hk)
  · exact gx_swN (c := 1) (Nat.le_of_ble_eq_true rfl) (by omega) (law_1 hw hi hI hA hN hT hl hL31 (hload _ _ _ _ _ _ _ _ (by omega) hw hi1) hk)
  · exact gx_swN (c := 2) (Nat.le_of_ble_eq_true rfl) (by omega) (law_2 hw hi hI hA hN hT hl hL31 (htell _ _ _ _ _ _ _ _ (by omega) hw hi1) hk)
  · exact gx_swN (c := 3) (Nat.le_of_ble_eq_true rfl) (by omega) (law_3 hw hi hI hA hN hT hl hL31 hk)
  · exact gx_swN (c := 4) (Nat.le_of_ble_eq_true rfl) (by omega) (law_4 hw hi hI hA hN hT hl hL31 hk)
  · exact gx_swN (c := 5) (Nat.le_of_ble_eq_true rfl) (by omega) (law_5 hw hi hI hA hN hT hl hL31 hk)
  · exact gx_swN (c := 6) (Nat.le_of_ble_eq_true rfl) (by omega) (law_6 hw hi hI hA hN hT hl hL31 hk)
  · exact gx_swN (c := 7) (Nat.le_of_ble_eq_true rfl) (by omega) (law_7 hw hi hI hA hN hT hl hL31 hk)
  · exact gx_swN (c := 8) (Nat.le_of_ble_eq_true rfl) (by omega) (law_8 hw hi hI hA hN hT hl hL31 hk)
  · exact gx_swN (c := 9) (Nat.le_of_ble_eq_true rfl) (by omega) (law_9 hw hi hI hA hN hT hl hL31 hk)
  · exact gx_swN (c := 10) (Nat.le_of_ble_eq_true rfl) (by omega) (law_10 hw hi hI hA hN hT hl hL31 hk)
  · exact gx_swN (c := 11) (Nat.le_of_ble_eq_true rfl) (by omega) (law_11 hw hi hI hA hN hT hl hL31 hk)
  · exact gx_swN (c := 12) (Nat.le_of_ble_eq_true rfl) (by omega) (law_12 hw hi hI hA hN hT hl hL31 hk)
  · exact gx_swN (c := 13) (Nat.le_of_ble_eq_true rfl) (by omega) (law_13 hw hi hI hA hN hT hl hL31 hk)
  · exact gx_swN (c := 14) (Nat.le_of_ble_eq_true rfl) (by omega) (law_14 hw hi hI hA hN hT hl hL31 hk)
  · exact gx_swN (c := 15) (Nat.le_of_ble_eq_true rfl) (by omega) (law_15 hw hi hI hA hN hT hl hL31 hk)
  · exact gx_swN (c := 16) (Nat.le_of_ble_eq_true rfl) (by omega) (law_16 hw hi hI hA hN hT hl hL31 hk)
  · exact gx_swN (c := 17) (Nat.le_of_ble_eq_true rfl) (by omega) (law_17 hw hi hI hA hN hT hl hL31 hk)
  · exact gx_swN (c := 18) (Nat.le_of_ble_eq_true rfl) (by omega) (law_18 hw hi hI hA hN hT hl hL31 hk)
  · exact gx_swN (c := 19) (Nat.le_of_ble_eq_true rfl) (by omega) (law_19 hw hi hI hA hN hT hl hL31 hk)
  · exact gx_swN (c := 20) (Nat.le_of_ble_eq_true rfl) (by omega) (law_20 hw hi hI hA hN hT hl hL31 hk)
  · exact gx_swN (c := 21) (Nat.le_of_ble_eq_true rfl) (by omega) (law_21 hw hi hI hA hN hT hl hL31 hk)
  · exact gx_swN (c := 22) (Nat.le_of_ble_eq_true rfl) (by omega) (law_22 hw hi hI hA hN hT hl hL31 hk)
  · exact gx_swN (c := 23) (Nat.le_of_ble_eq_true rfl) (by omega) (law_23 hw hi hI hA hN hT hl hL31 hk)
  · exact gx_swN (c := 24) (Nat.le_of_ble_eq_true rfl) (by omega) (law_24 hw hi hI hA hN hT hl hL31 hk)
  · exact gx_swN (c := 25) (Nat.le_of_ble_eq_true rfl) (by omega) (law_25 hw hi hI hA hN hT hl hL31 hk)
  · exact gx_swN (c := 26) (Nat.le_of_ble_eq_true rfl) (by omega) (law_26 hw hi hI hA hN hT hl hL31 hk)
  · exact gx_swN (c := 27) (Nat.le_of_ble_eq_true rfl) (by omega) (law_27 hw hi hI hA hN hT hl hL31 hk)
  · exact gx_swN (c := 28) (Nat.le_of_ble_eq_true rfl) (by omega) (law_28 hw hi hI hA hN hT hl hL31 hk)
  · exact gx_swN (c := 29) (Nat.le_of_ble_eq_true rfl) (by omega) (law_29 hw hi hI hA hN hT hl hL31 hk)
  · exact gx_swN (c := 30) (Nat.le_of_ble_eq_true rfl) (by omega) (law_30 hw hi hI hA hN hT hl hL31 hk)
  · exact gx_swN (c := 31) (Nat.le_of_ble_eq_true rfl) (by omega) (law_31 hw hi hI hA hN hT hl hL31 hk)
  · exact gx_swN (c := 32) (Nat.le_of_ble_eq_true rfl) (by omega) (law_32 hw hi hI hA hN hT hl hL31 hk)
  · exact gx_swN (c := 33) (Nat.le_of_ble_eq_true rfl) (by omega) (law_33 hw hi hI hA hN hT hl hL31 hk)
  · exact gx_swN (c := 34) (Nat.le_of_ble_eq_true rfl) (by omega) (law_34 hw hi hI hA hN hT hl hL31 hk)
  · exact gx_swN (c := 35) (Nat.le_of_ble_eq_true rfl) (by omega) (law_35 hw hi hI hA hN hT hl hL31 hk)
theorem law_loop {z : osS} {ad : Nat → Nat} {W : Nat → Nat → Nat → Int32} {D : Nat → Nat → Int64} (hload : loadOK G N x) (htell : tellOK G N x) (hw : WD z x ad W D) (hi : IV W D 1) (hI : osInj G) (hA : G.2.2.1 ≤ x) (hN : 5000 < N) (hL : L ≤ 3072) : gx (qL_law_28 N L xs 600 (b, x, x + 129, x + 150, x + 151, (0 : Int32)) G z) (fun r _ => r = 1) := by
  refine gx_loop (L / 6) (fun k p z' => p = (b, x, x + 129, x + 150, x + 151, nI (6 * k)) ∧ ∃ ad W D, WD z' x ad W D ∧ IV W D (k + 1)) ?_ ?_ 600 0 _ z (Nat.zero_le _) (by omega) ⟨rfl, ad, W, D, hw, hi⟩
  · rintro ih k p z' hk2 ⟨rfl, ad1, W1, D1, w1, n, np, i1⟩ kk
    show gx (bL_law_28 N L xs ih b x (x + 129) (x + 150) (x + 151) (nI (6 * k)) G z') _
    refine law_round hload htell w1 i1 hI hA hN (by omega) (by omega) hL (fun z2 ad2 W2 D2 w2 i2 => ?_)
    unfold qL_law_2037
    refine kk _ _ ⟨?_, ad2, W2, D2, w2, i2⟩
    rw [show nI (6 * k) + (6 : Int32) = nI (6 * (k + 1)) from nI_sum (a := 6 * k) (b := 6) rfl rfl]
  · rintro ih p z' ⟨rfl, ad1, W1, D1, w1, _⟩
    show gx (bL_law_28 N L xs ih b x (x + 129) (x + 150) (x + 151) (nI (6 * (L / 6))) G z') _
    unfold bL_law_28
    refine gx_callE (b := nI L) (z1 := z') (by unfold osslen2; rw [if_pos (by omega)]; rfl) (gx_itet ?_ (gx_ret rfl))
    by_cases h6 : 6 ≤ L
    · rw [show nI L - (6 : Int32) = nI (L - 6) from nI_sub (a := L) (b := 6) (by omega)]
      exact (nI_ltI (by omega) (by omega)).mpr (by omega)
    · rcases (show L = 0 ∨ L = 1 ∨ L = 2 ∨ L = 3 ∨ L = 4 ∨ L = 5 by omega) with e | e | e | e | e | e <;> subst e <;> decide
end
