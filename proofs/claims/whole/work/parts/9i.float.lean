/-! the shares' numbers, as plain numbers (by program) -/
def pfFin (plus : Bool) (x : UInt32) (e : Int32) : Option Int32 := if osn32 (FP.fsub x (1065353216 : UInt32)) then (if osn32 (FP.fmul (FP.fsub x (1065353216 : UInt32)) (1258291200 : UInt32)) then some (if plus = true then (osshl e (23 : Int32)) + (FP.f2i (FP.fmul (FP.fsub x (1065353216 : UInt32)) (1258291200 : UInt32))) else (osshl e (23 : Int32)) ||| (FP.f2i (FP.fmul (FP.fsub x (1065353216 : UInt32)) (1258291200 : UInt32)))) else none) else none
def pfC : Nat → UInt32 → Int32 → Int32 → Option Int32
  | 0, _, _, _ => none
  | N + 1, x, e, k => if (126 : Int32) ≤ k then pfFin true x e else if 0 ≤ (Op.cmpValue (FP.fcmp x (1065353216 : UInt32)) .g) then pfFin true x e else if osn32 (FP.fmul x (1073741824 : UInt32)) then pfC N (FP.fmul x (1073741824 : UInt32)) (e + (-1 : Int32)) (k + (1 : Int32)) else none
def pfR : Nat → UInt32 → Int32 → Option Int32
  | 0, _, _ => none
  | N + 1, x, e => if 0 ≤ (Op.cmpValue (FP.fcmp x (1065353216 : UInt32)) .g) then pfFin false x e else if osn32 (FP.fmul x (1073741824 : UInt32)) then pfR N (FP.fmul x (1073741824 : UInt32)) (e - (1 : Int32)) else none
def pfCB (N : Nat) (x : UInt32) : Option Int32 := if 0 < (Op.cmpValue (FP.fcmp x (0 : UInt32)) .l) then pfC N x (127 : Int32) (0 : Int32) else some 0
def pfRB (N : Nat) (x : UInt32) : Option Int32 := if (Op.cmpValue (FP.fcmp x (0 : UInt32)) .l) = 0 then some 0 else pfR N x (127 : Int32)
theorem pfC_mono : ∀ (k N : Nat) (x : UInt32) (e : Int32) (i : Int32) (v : Int32), k ≤ N → pfC k x e i = some v → pfC N x e i = some v
  | 0, _, _, _, _, _, _, h => by cases h
  | k + 1, 0, _, _, _, _, hl, _ => by omega
  | k + 1, N + 1, x, e, i, v, hl, h => by
    unfold pfC at h ⊢
    split at h
    · rename_i c; rw [if_pos c]; exact h
    · rename_i c; rw [if_neg c]
      split at h
      · rename_i c2; rw [if_pos c2]; exact h
      · rename_i c2; rw [if_neg c2]
        split at h
        · rename_i c3; rw [if_pos c3]; exact pfC_mono k N _ _ _ v (by omega) h
        · cases h
theorem pfR_mono : ∀ (k N : Nat) (x : UInt32) (e : Int32) (v : Int32), k ≤ N → pfR k x e = some v → pfR N x e = some v
  | 0, _, _, _, _, _, h => by cases h
  | k + 1, 0, _, _, _, hl, _ => by omega
  | k + 1, N + 1, x, e, v, hl, h => by
    unfold pfR at h ⊢
    split at h
    · rename_i c; rw [if_pos c]; exact h
    · rename_i c; rw [if_neg c]
      split at h
      · rename_i c3; rw [if_pos c3]; exact pfR_mono k N _ _ v (by omega) h
      · cases h
section
variable {G : osG} {z : osS}
theorem pfC_run (N0 : Nat) : ∀ (N : Nat) (x : UInt32) (e : Int32) (i : Int32), osloop (fun ih p => bX9_floatBits_15 N0 ih p.1 p.2.1 p.2.2) N (x, e, i) G z = (pfC N x e i).map (fun v => (v, z))
  | 0, _, _, _ => rfl
  | N + 1, x, e, i => by
    show bX9_floatBits_15 N0 (osloop (fun ih p => bX9_floatBits_15 N0 ih p.1 p.2.1 p.2.2) N) x e i G z = _
    unfold bX9_floatBits_15 qX9_floatBits_40 pfC pfFin osite osguard
    by_cases c : (126 : Int32) ≤ i
    · rw [if_pos c, if_pos c]
      by_cases d1 : osn32 (FP.fsub x (1065353216 : UInt32))
      · rw [if_pos d1, if_pos d1]
        by_cases d2 : osn32 (FP.fmul (FP.fsub x (1065353216 : UInt32)) (1258291200 : UInt32))
        · rw [if_pos d2, if_pos d2]; rfl
        · rw [if_neg d2, if_neg d2]; rfl
      · rw [if_neg d1, if_neg d1]; rfl
    · rw [if_neg c, if_neg c]
      by_cases c2 : 0 ≤ (Op.cmpValue (FP.fcmp x (1065353216 : UInt32)) .g)
      · rw [if_pos c2, if_pos c2]
        by_cases d1 : osn32 (FP.fsub x (1065353216 : UInt32))
        · rw [if_pos d1, if_pos d1]
          by_cases d2 : osn32 (FP.fmul (FP.fsub x (1065353216 : UInt32)) (1258291200 : UInt32))
          · rw [if_pos d2, if_pos d2]; rfl
          · rw [if_neg d2, if_neg d2]; rfl
        · rw [if_neg d1, if_neg d1]; rfl
      · rw [if_neg c2, if_neg c2]
        by_cases c3 : osn32 (FP.fmul x (1073741824 : UInt32))
        · rw [if_pos c3, if_pos c3]
          exact pfC_run N0 N _ _ _
        · rw [if_neg c3, if_neg c3]; rfl
theorem pfR_run (N0 : Nat) : ∀ (N : Nat) (x : UInt32) (e : Int32), osloop (fun ih p => bX10_shareBits_39 N0 ih p.1 p.2) N (x, e) G z = (pfR N x e).map (fun v => (v, z))
  | 0, _, _ => rfl
  | N + 1, x, e => by
    show bX10_shareBits_39 N0 (osloop (fun ih p => bX10_shareBits_39 N0 ih p.1 p.2) N) x e G z = _
    unfold bX10_shareBits_39 pfR pfFin osite osguard
    by_cases c2 : 0 ≤ (Op.cmpValue (FP.fcmp x (1065353216 : UInt32)) .g)
    · rw [if_pos c2, if_pos c2]
      by_cases d1 : osn32 (FP.fsub x (1065353216 : UInt32))
      · rw [if_pos d1, if_pos d1]
        by_cases d2 : osn32 (FP.fmul (FP.fsub x (1065353216 : UInt32)) (1258291200 : UInt32))
        · rw [if_pos d2, if_pos d2]; rfl
        · rw [if_neg d2, if_neg d2]; rfl
      · rw [if_neg d1, if_neg d1]; rfl
    · rw [if_neg c2, if_neg c2]
      by_cases c3 : osn32 (FP.fmul x (1073741824 : UInt32))
      · rw [if_pos c3, if_pos c3]
        exact pfR_run N0 N _ _
      · rw [if_neg c3, if_neg c3]; rfl
theorem pfCB_run {N : Nat} {x : UInt32} {v : Int32} (hN : 40 < N) (h : pfCB 40 x = some v) : qX9_floatBits N x G z = some (v, z) := by
  unfold qX9_floatBits osite
  unfold pfCB at h
  by_cases c : 0 < (Op.cmpValue (FP.fcmp x (0 : UInt32)) .l)
  · rw [if_pos c] at h ⊢
    unfold qX9_floatBits_15
    rw [pfC_run, pfC_mono 40 N x _ _ v (by omega) h]; rfl
  · rw [if_neg c] at h ⊢
    cases h; rfl
end
def pdFin (plus : Bool) (x : UInt64) (e : Int64) : Option Int64 := if osn64 (FP.dsub x (4607182418800017408 : UInt64)) then (if osn64 (FP.dmul (FP.dsub x (4607182418800017408 : UInt64)) (4841369599423283200 : UInt64)) then some (if plus = true then (oslshl e (52 : Int32)) + (FP.d2l (FP.dmul (FP.dsub x (4607182418800017408 : UInt64)) (4841369599423283200 : UInt64))) else (oslshl e (52 : Int32)) ||| (FP.d2l (FP.dmul (FP.dsub x (4607182418800017408 : UInt64)) (4841369599423283200 : UInt64)))) else none) else none
def pdC : Nat → UInt64 → Int64 → Int32 → Option Int64
  | 0, _, _, _ => none
  | N + 1, x, e, k => if (1022 : Int32) ≤ k then pdFin true x e else if 0 ≤ (Op.cmpValue (FP.dcmp x (4607182418800017408 : UInt64)) .g) then pdFin true x e else if osn64 (FP.dmul x (4611686018427387904 : UInt64)) then pdC N (FP.dmul x (4611686018427387904 : UInt64)) (e - (1 : Int64)) (k + (1 : Int32)) else none
def pdR : Nat → UInt64 → Int64 → Option Int64
  | 0, _, _ => none
  | N + 1, x, e => if 0 ≤ (Op.cmpValue (FP.dcmp x (4607182418800017408 : UInt64)) .g) then pdFin false x e else if osn64 (FP.dmul x (4611686018427387904 : UInt64)) then pdR N (FP.dmul x (4611686018427387904 : UInt64)) (e - (1 : Int64)) else none
def pdCB (N : Nat) (x : UInt64) : Option Int64 := if 0 < (Op.cmpValue (FP.dcmp x (0 : UInt64)) .l) then pdC N x (1023 : Int64) (0 : Int32) else some 0
def pdRB (N : Nat) (x : UInt64) : Option Int64 := if (Op.cmpValue (FP.dcmp x (0 : UInt64)) .l) = 0 then some 0 else pdR N x (1023 : Int64)
theorem pdC_mono : ∀ (k N : Nat) (x : UInt64) (e : Int64) (i : Int32) (v : Int64), k ≤ N → pdC k x e i = some v → pdC N x e i = some v
  | 0, _, _, _, _, _, _, h => by cases h
  | k + 1, 0, _, _, _, _, hl, _ => by omega
  | k + 1, N + 1, x, e, i, v, hl, h => by
    unfold pdC at h ⊢
    split at h
    · rename_i c; rw [if_pos c]; exact h
    · rename_i c; rw [if_neg c]
      split at h
      · rename_i c2; rw [if_pos c2]; exact h
      · rename_i c2; rw [if_neg c2]
        split at h
        · rename_i c3; rw [if_pos c3]; exact pdC_mono k N _ _ _ v (by omega) h
        · cases h
theorem pdR_mono : ∀ (k N : Nat) (x : UInt64) (e : Int64) (v : Int64), k ≤ N → pdR k x e = some v → pdR N x e = some v
  | 0, _, _, _, _, _, h => by cases h
  | k + 1, 0, _, _, _, hl, _ => by omega
  | k + 1, N + 1, x, e, v, hl, h => by
    unfold pdR at h ⊢
    split at h
    · rename_i c; rw [if_pos c]; exact h
    · rename_i c; rw [if_neg c]
      split at h
      · rename_i c3; rw [if_pos c3]; exact pdR_mono k N _ _ v (by omega) h
      · cases h
section
variable {G : osG} {z : osS}
theorem pdC_run (N0 : Nat) : ∀ (N : Nat) (x : UInt64) (e : Int64) (i : Int32), osloop (fun ih p => bX9_doubleBits_18 N0 ih p.1 p.2.1 p.2.2) N (x, e, i) G z = (pdC N x e i).map (fun v => (v, z))
  | 0, _, _, _ => rfl
  | N + 1, x, e, i => by
    show bX9_doubleBits_18 N0 (osloop (fun ih p => bX9_doubleBits_18 N0 ih p.1 p.2.1 p.2.2) N) x e i G z = _
    unfold bX9_doubleBits_18 qX9_doubleBits_50 pdC pdFin osite osguard
    by_cases c : (1022 : Int32) ≤ i
    · rw [if_pos c, if_pos c]
      by_cases d1 : osn64 (FP.dsub x (4607182418800017408 : UInt64))
      · rw [if_pos d1, if_pos d1]
        by_cases d2 : osn64 (FP.dmul (FP.dsub x (4607182418800017408 : UInt64)) (4841369599423283200 : UInt64))
        · rw [if_pos d2, if_pos d2]; rfl
        · rw [if_neg d2, if_neg d2]; rfl
      · rw [if_neg d1, if_neg d1]; rfl
    · rw [if_neg c, if_neg c]
      by_cases c2 : 0 ≤ (Op.cmpValue (FP.dcmp x (4607182418800017408 : UInt64)) .g)
      · rw [if_pos c2, if_pos c2]
        by_cases d1 : osn64 (FP.dsub x (4607182418800017408 : UInt64))
        · rw [if_pos d1, if_pos d1]
          by_cases d2 : osn64 (FP.dmul (FP.dsub x (4607182418800017408 : UInt64)) (4841369599423283200 : UInt64))
          · rw [if_pos d2, if_pos d2]; rfl
          · rw [if_neg d2, if_neg d2]; rfl
        · rw [if_neg d1, if_neg d1]; rfl
      · rw [if_neg c2, if_neg c2]
        by_cases c3 : osn64 (FP.dmul x (4611686018427387904 : UInt64))
        · rw [if_pos c3, if_pos c3]
          exact pdC_run N0 N _ _ _
        · rw [if_neg c3, if_neg c3]; rfl
theorem pdR_run (N0 : Nat) : ∀ (N : Nat) (x : UInt64) (e : Int64), osloop (fun ih p => bX10_unevennessBits_22 N0 ih p.1 p.2) N (x, e) G z = (pdR N x e).map (fun v => (v, z))
  | 0, _, _ => rfl
  | N + 1, x, e => by
    show bX10_unevennessBits_22 N0 (osloop (fun ih p => bX10_unevennessBits_22 N0 ih p.1 p.2) N) x e G z = _
    unfold bX10_unevennessBits_22 pdR pdFin osite osguard
    by_cases c2 : 0 ≤ (Op.cmpValue (FP.dcmp x (4607182418800017408 : UInt64)) .g)
    · rw [if_pos c2, if_pos c2]
      by_cases d1 : osn64 (FP.dsub x (4607182418800017408 : UInt64))
      · rw [if_pos d1, if_pos d1]
        by_cases d2 : osn64 (FP.dmul (FP.dsub x (4607182418800017408 : UInt64)) (4841369599423283200 : UInt64))
        · rw [if_pos d2, if_pos d2]; rfl
        · rw [if_neg d2, if_neg d2]; rfl
      · rw [if_neg d1, if_neg d1]; rfl
    · rw [if_neg c2, if_neg c2]
      by_cases c3 : osn64 (FP.dmul x (4611686018427387904 : UInt64))
      · rw [if_pos c3, if_pos c3]
        exact pdR_run N0 N _ _
      · rw [if_neg c3, if_neg c3]; rfl
theorem pdCB_run {N : Nat} {x : UInt64} {v : Int64} (hN : 40 < N) (h : pdCB 40 x = some v) : qX9_doubleBits N x G z = some (v, z) := by
  unfold qX9_doubleBits osite
  unfold pdCB at h
  by_cases c : 0 < (Op.cmpValue (FP.dcmp x (0 : UInt64)) .l)
  · rw [if_pos c] at h ⊢
    unfold qX9_doubleBits_18
    rw [pdC_run, pdC_mono 40 N x _ _ v (by omega) h]; rfl
  · rw [if_neg c] at h ⊢
    cases h; rfl
end
def fsh (c t : Nat) : UInt32 := FP.fdiv (FP.i2f (nI c)) (FP.i2f (nI t))
def fOK (x : UInt32) : Bool := decide (osn32 x) && (decide (osn64 (FP.f2d x)) && (decide ((Op.cmpValue (FP.dcmp (FP.f2d x) (FP.f2d x)) .l) = 0) && ((pfCB 40 x).isSome && decide (pfCB 40 x = pfRB 40 x))))
theorem fsh_ok : ∀ t, t < 17 → ∀ c, c < 17 → c ≤ t → 0 < t → fOK (fsh c t) = true := by decide +kernel
theorem fsh_0 : fOK 0 = true := by decide +kernel
