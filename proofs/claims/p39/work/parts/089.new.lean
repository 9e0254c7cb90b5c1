/-! what strings made while it runs want: computed lengths, copies of bytes, clones, super calls, calls that surely don't throw -/
def osRV {α : Type} (m : osM (Nat ⊕ α)) : osM α := fun G z => match m G z with
  | some (.inr v, z') => some (v, z')
  | _ => none
theorem osRV_some {α : Type} {m : osM (Nat ⊕ α)} {G : osG} {z z' : osS} {v : α} (h : osRV m G z = some (v, z')) : m G z = some (.inr v, z') := by
  unfold osRV at h
  cases hm : m G z with
  | none => rw [hm] at h; cases h
  | some q =>
    obtain ⟨a, z1⟩ := q
    rw [hm] at h
    cases a with
    | inl j => cases h
    | inr a => cases h; rfl
theorem osMetT.sure {α : Type} {y : MethodName} {cc : ByteArray} {nL : Nat} {ret : Option FieldType} {fr lo mc ms : Nat} {rv : α → Option Value} {As : List Value} {f : osM (Nat ⊕ α)} (h : osMetT y cc nL ret fr lo mc ms rv As f) : osMet y cc nL ret fr lo mc ms rv As (osRV f) := by
  intro l hl G z r z' hf
  refine MetFree.mono (h l hl G z (.inr r) z' (osRV_some hf)) (fun _ _ q => q) (fun _ _ _ _ _ q => q) (fun a st o t hp hq => ?_)
  rcases hq with ⟨⟨v, hv, ho, hR, hF⟩, L, hL⟩ | ⟨q, -, E, ce, L, ⟨j, hj, -⟩, -⟩
  · cases hv; exact ⟨⟨ho, hR, hF⟩, L, hL⟩
  · cases hj
/-- new byte[i], at most B -/
def osnewB (B : Nat) (i : Int32) : osM Nat := fun G z => if ¬ i < 0 ∧ i.toNatClampNeg ≤ B ∧ i.toNatClampNeg ≤ 65536 then osnew (.inl (1, (i.toNatClampNeg, .inl fun _ => 0))) G z else none
/-- .. int[i] -/
def osnewI (B : Nat) (i : Int32) : osM Nat := fun G z => if ¬ i < 0 ∧ i.toNatClampNeg ≤ B ∧ i.toNatClampNeg ≤ 65536 then osnew (.inl (0, (i.toNatClampNeg, .inl fun _ => 0))) G z else none
/-- the bytes that a copy takes: a constant text's, or those of an array that is known -/
def osbsrc (G : osG) (z : osS) (a0 : Nat) : Option (Nat × (Nat → Int32)) := match osfind G 100 a0 with
  | some j => some ((osTs.getD j []).length, fun i => (osTs.getD j []).getD i 0)
  | none => match osga 1 a0 z with
    | some (n0, .inl f) => some (n0, f)
    | _ => none
def osbcopy (a0 : Nat) (sp : Int32) (a : Nat) (dp n : Int32) : osM Unit := fun G z => match osbsrc G z a0, osga 1 a z with
  | some (n0, f), some (n1, .inl g) => if (¬ sp < 0 ∧ ¬ dp < 0 ∧ ¬ n < 0 ∧ sp.toNatClampNeg + n.toNatClampNeg ≤ n0 ∧ dp.toNatClampNeg + n.toNatClampNeg ≤ n1 ∧ G.2.2.1 ≤ a) ∧ ∀ i, i < n.toNatClampNeg → fits .byte (.int (f (sp.toNatClampNeg + i))) = true then some ((), osup z a (.inl (1, (n1, .inl (va_cpy f g sp.toNatClampNeg dp.toNatClampNeg n.toNatClampNeg))))) else none
  | _, _ => none
theorem osbcopy_some {a0 a : Nat} {sp dp n : Int32} {G : osG} {z z1 : osS} {u : Unit} (h : osbcopy a0 sp a dp n G z = some (u, z1)) : ∃ n0 f n1 g, osbsrc G z a0 = some (n0, f) ∧ z.1 a = some (.inl (1, (n1, .inl g))) ∧ ¬ sp < 0 ∧ ¬ dp < 0 ∧ ¬ n < 0 ∧ sp.toNatClampNeg + n.toNatClampNeg ≤ n0 ∧ dp.toNatClampNeg + n.toNatClampNeg ≤ n1 ∧ osA G a ∧ (∀ i, i < n.toNatClampNeg → fits .byte (.int (f (sp.toNatClampNeg + i))) = true) ∧ z1 = osup z a (.inl (1, (n1, .inl (va_cpy f g sp.toNatClampNeg dp.toNatClampNeg n.toNatClampNeg)))) := by
  unfold osbcopy at h
  cases h0 : osbsrc G z a0 with
  | none => rw [h0] at h; cases h
  | some q0 =>
    obtain ⟨n0, f⟩ := q0
    cases h1 : osga 1 a z with
    | none => rw [h0, h1] at h; cases h
    | some q1 =>
      rw [h0, h1] at h
      obtain ⟨n1, g | g | g | g | g⟩ := q1 <;> first | cases h | skip
      replace h : (if (¬ sp < 0 ∧ ¬ dp < 0 ∧ ¬ n < 0 ∧ sp.toNatClampNeg + n.toNatClampNeg ≤ n0 ∧ dp.toNatClampNeg + n.toNatClampNeg ≤ n1 ∧ G.2.2.1 ≤ a) ∧ ∀ i, i < n.toNatClampNeg → fits .byte (.int (f (sp.toNatClampNeg + i))) = true then some ((), osup z a (.inl (1, (n1, .inl (va_cpy f g sp.toNatClampNeg dp.toNatClampNeg n.toNatClampNeg))))) else none) = some (u, z1) := h
      split at h
      · rename_i hc
        cases h
        exact ⟨n0, f, n1, g, rfl, osga_some h1, hc.1.1, hc.1.2.1, hc.1.2.2.1, hc.1.2.2.2.1, hc.1.2.2.2.2.1, hc.1.2.2.2.2.2, hc.2, rfl⟩
      · cases h
/-- a clone of an array of bytes, at most B -/
def osbclone (B : Nat) (a : Nat) : osM Nat := fun G z => match osga 1 a z with
  | some (n, .inl f) => if n ≤ B ∧ ∀ i, i < n → fits .byte (.int (f i)) = true then osnew (.inl (1, (n, .inl f))) G z else none
  | _ => none
theorem osbclone_some {B a q : Nat} {G : osG} {z z1 : osS} (h : osbclone B a G z = some (q, z1)) : ∃ n f, z.1 a = some (.inl (1, (n, .inl f))) ∧ n ≤ B ∧ (∀ i, i < n → fits .byte (.int (f i)) = true) ∧ osnew (.inl (1, (n, .inl f))) G z = some (q, z1) := by
  unfold osbclone at h
  cases h1 : osga 1 a z with
  | none => rw [h1] at h; cases h
  | some q1 =>
    rw [h1] at h
    obtain ⟨n, f | f | f | f | f⟩ := q1 <;> first | cases h | skip
    replace h : (if n ≤ B ∧ ∀ i, i < n → fits .byte (.int (f i)) = true then osnew (.inl (1, (n, .inl f))) G z else none) = some (q, z1) := h
    split at h
    · rename_i hc
      exact ⟨n, f, osga_some h1, hc.1, hc.2, h⟩
    · cases h
/-- a cast to byte[] -/
def osbcast (a : Nat) : osM Unit := fun _ z => match osga 1 a z with
  | some (_, .inl _) => some ((), z)
  | _ => none
theorem osbcast_some {a : Nat} {G : osG} {z z1 : osS} {u : Unit} (h : osbcast a G z = some (u, z1)) : z1 = z ∧ ∃ n f, z.1 a = some (.inl (1, (n, .inl f))) := by
  unfold osbcast at h
  cases h1 : osga 1 a z with
  | none => rw [h1] at h; cases h
  | some q1 =>
    rw [h1] at h
    obtain ⟨n, f | f | f | f | f⟩ := q1 <;> cases h
    exact ⟨rfl, n, f, osga_some h1⟩
section R
variable {ρ : Type} {Fi : osF ρ} {y : MethodName} {cc : ByteArray} {nL : Nat} {ret : Option FieldType} {hh : List (Nat × Nat × Nat × Nat)} {R : Room} {k n k' n' : Nat} {pc pc' : Nat} {lv : List (Nat × Value)} {st : List Value} {F : osM ρ}
theorem os_dup_x1 {va vb : Value} (ha : va.category = 1) (hb9 : vb.category = 1) (hd : osD cc pc 1 pc' .dup_x1) (kk : osW Fi y cc nL ret hh R k n pc' lv (va :: vb :: va :: st) F) : osW Fi y cc nL ret hh R k n pc lv (va :: vb :: st) F := by
  intro p l e s m args below meth c B G z r z' hV hZ hF H locs ls hM hS hl
  obtain ⟨hx, hb, hml, hown, hr, hlk, htab, hst, hnm⟩ := id B
  obtain ⟨hd, rfl⟩ := hd
  exact lv_dup_x1 hx hb hd ha hb9 (kk p l e s m args below meth c B G z r z' hV hZ hF H locs ls hM hS hl)
theorem os_ineg {x : Int32} (hd : osD cc pc 1 pc' .ineg) (kk : osW Fi y cc nL ret hh R k n pc' lv (.int (-x) :: st) F) : osW Fi y cc nL ret hh R k n pc lv (.int x :: st) F := by
  intro p l e s m args below meth c B G z r z' hV hZ hF H locs ls hM hS hl
  obtain ⟨hx, hb, hml, hown, hr, hlk, htab, hst, hnm⟩ := id B
  obtain ⟨hd, rfl⟩ := hd
  exact lv_ineg hx hb hd (kk p l e s m args below meth c B G z r z' hV hZ hF H locs ls hM hS hl)
theorem os_null (hd : osD cc pc 1 pc' .aconst_null) (kk : osW Fi y cc nL ret hh R k n pc' lv (.null :: st) F) : osW Fi y cc nL ret hh R k n pc lv st F := by
  intro p l e s m args below meth c B G z r z' hV hZ hF H locs ls hM hS hl
  obtain ⟨hx, hb, hml, hown, hr, hlk, htab, hst, hnm⟩ := id B
  obtain ⟨hd, rfl⟩ := hd
  exact lv_null hx hb hd (kk p l e s m args below meth c B G z r z' hV hZ hF H locs ls hM hS hl)
theorem os_nonnull {v : Nat} {off : Int} {tgt : Nat} (ht : (pc : Int) + off = (tgt : Int)) (hd : osD cc pc 3 pc' (.ifnonnull off)) (kk : osW Fi y cc nL ret hh R k n tgt lv st F) : osW Fi y cc nL ret hh R k n pc lv (.ref v :: st) F := by
  intro p l e s m args below meth c B G z r z' hV hZ hF H locs ls hM hS hl
  obtain ⟨hx, hb, hml, hown, hr, hlk, htab, hst, hnm⟩ := id B
  obtain ⟨hd, rfl⟩ := hd
  exact lv_ifnonnull hx hb hd ht (kk p l e s m args below meth c B G z r z' hV hZ hF H locs ls hM hS hl)
theorem os_newB {B9 : Nat} {i : Int32} {f : Nat → osM ρ} (hw : Cond.arrayClass .byte ∈ osX) (hk : k + 1 ≤ R.cells) (hn : n + B9 ≤ R.slots) (hd : osD cc pc 2 pc' (.newarray .byte)) (kk : ∀ q, osW Fi y cc nL ret hh R (k + 1) (n + B9) pc' lv (.ref q :: st) (f q)) : osW Fi y cc nL ret hh R k n pc lv (.int i :: st) (osbind (osnewB B9 i) f) := by
  intro p l e s m args below meth c B G z r z' hV hZ hF H locs ls hM hS hl
  obtain ⟨q, z1, g1, g2⟩ := osbind_some hF
  unfold osnewB at g1
  split at g1
  · rename_i hc
    have h5 : i.toNatClampNeg ≤ B9 := hc.2.1
    exact os_newarray (at9 := .byte) (ty := .byte) (t := 1) (N := i.toNatClampNeg) rfl rfl rfl hw (fun _ => rfl) hc.1 rfl (by show _ * 1 ≤ _; omega) hk (by omega) hd (fun q9 => osW.widen (Nat.le_refl _) (by omega) (kk q9)) p l e s m args below meth c B G z r z' hV hZ (show osbind _ f G z = _ by unfold osbind; rw [g1]; exact g2) H locs ls hM hS hl
  · cases g1
theorem os_newI {B9 : Nat} {i : Int32} {f : Nat → osM ρ} (hw : Cond.arrayClass .int ∈ osX) (hk : k + 1 ≤ R.cells) (hn : n + B9 ≤ R.slots) (hd : osD cc pc 2 pc' (.newarray .int)) (kk : ∀ q, osW Fi y cc nL ret hh R (k + 1) (n + B9) pc' lv (.ref q :: st) (f q)) : osW Fi y cc nL ret hh R k n pc lv (.int i :: st) (osbind (osnewI B9 i) f) := by
  intro p l e s m args below meth c B G z r z' hV hZ hF H locs ls hM hS hl
  obtain ⟨q, z1, g1, g2⟩ := osbind_some hF
  unfold osnewI at g1
  split at g1
  · rename_i hc
    have h5 : i.toNatClampNeg ≤ B9 := hc.2.1
    exact os_newarray (at9 := .int) (ty := .int) (t := 0) (N := i.toNatClampNeg) rfl rfl rfl hw (fun _ => rfl) hc.1 rfl (by show _ * 4 ≤ _; omega) hk (by omega) hd (fun q9 => osW.widen (Nat.le_refl _) (by omega) (kk q9)) p l e s m args below meth c B G z r z' hV hZ (show osbind _ f G z = _ by unfold osbind; rw [g1]; exact g2) H locs ls hM hS hl
  · cases g1
theorem os_bcopy {a0 a idx : Nat} {sp dp i : Int32} (hw1 : Cond.methodLink y.cls idx arraycopyName ∈ osX) (hw2 : Cond.native arraycopyName ∈ osX) (hw3 : Cond.static arraycopyName ∈ osX) (hw4 : Cond.initialized "java/lang/System" ∈ osX) (hcat : (st.map fun v => v.category).sum ≤ 8) (hfr : 1 ≤ R.frames) (hlo : 8 + (nativeFrameWords "java/lang/System" "arraycopy" 5 + 11) ≤ R.locals) (hd : osD cc pc 3 pc' (.invokestatic idx)) (kk : osW Fi y cc nL ret hh R k n pc' lv st F) : osW Fi y cc nL ret hh R k n pc lv (.int i :: .int dp :: .ref a :: .int sp :: .ref a0 :: st) (osbind (osbcopy a0 sp a dp i) fun _ => F) := by
  intro p l e s m args below meth c B G z r z' hV hZ hF H locs ls hM hS hl
  obtain ⟨hx, hb, hml, hown, hr, hlk, htab, hst, hnm⟩ := id B
  obtain ⟨u, z1, g1, g2⟩ := osbind_some hF
  obtain ⟨n0, f, n1, g, hz0, hz1, h1, h2, h3, h4, h5, hA, hft, rfl⟩ := osbcopy_some g1
  obtain ⟨hd, rfl⟩ := hd
  have hts := hV.word (args := args)
  have nn : ∀ z : Int32, ¬ z < 0 → z.toInt = (z.toNatClampNeg : Int) := by
    intro z hz
    have hz0 : (0 : Int) ≤ z.toInt := by
      have := Int32.not_lt.mp hz
      simpa using Int32.le_iff_toInt_le.mp this
    show z.toInt = ((z.toInt.toNat : Nat) : Int)
    omega
  have hc1 : H[a]? = some (vp_cell (G.2.1 1) (n1, .inl g)) := (hM.1 a _ hz1).1
  have ht0 : (osTys G)[1]? = some (G.2.1 1, .byte) := rfl
  obtain ⟨-, k1, hk1, cm1, hkk1⟩ := (hV.2.1.2 1 _ ht0).1 n1 (fun j => .int (g j))
  obtain ⟨scr, hc0, hs6, hs3, k0, hk0, cm0, hkk0, hs4, hs5⟩ : ∃ scr : Cell, H[a0]? = some scr ∧ (∀ k, scr.vm = .statics k → False) ∧ scr.vm ≠ .unknown ∧ ∃ k0, s.vm.classes[scr.cls]? = some k0 ∧ ∃ cm0, k0.kind = .array cm0 .byte ∧ n0 ≤ scr.slots.size ∧ ∀ j : Nat, j < n0 → scr.slots[j]? = some (.int (f j)) := by
    unfold osbsrc at hz0
    rcases osfind_cs hz0 with ⟨j, hj, hja, g3⟩ | g3
    · cases g3
      obtain ⟨scr, hs1, ⟨hs6, k0, hk0, cm0, hkk0⟩, hs3, hs4, -, hs5, hs7⟩ := (hZ.2.2.2.2.2.2.1 j _ (osTs_at hj)).2.2.2
      rw [hja] at hs1 hs7
      exact ⟨scr, by rw [hS.2.1 a0 (Array.getElem?_eq_some_iff.mp hs1).1 hs7]; exact hs1, hs6, hs3, k0, hk0, cm0, hkk0, hs4, hs5⟩
    · cases h7 : osga 1 a0 z with
      | none => rw [h7] at g3; cases g3
      | some w =>
        rw [h7] at g3
        obtain ⟨n9, f9 | f9 | f9 | f9 | f9⟩ := w <;> first | cases g3 | skip
        obtain ⟨-, k0, hk0, cm0, hkk0⟩ := (hV.2.1.2 1 _ ht0).1 n0 (fun j => .int (f j))
        exact ⟨vp_cell (G.2.1 1) (n0, .inl f), (hM.1 a0 _ (osga_some h7)).1, (fun _ h => by cases h), (fun h => by cases h), k0, hk0, cm0, hkk0, by show n0 ≤ (arrV _ _ _).slots.size; rw [arrV_size]; exact Nat.le_refl _, fun j hj => by show (arrV _ _ _).slots[j]? = _; rw [arrV_read _ _ hj]⟩
  intro T hT X
  obtain ⟨vm', X', step⟩ := X.arraycopy hx hown (hts _ hw1) (hts _ hw2) (hts _ hw3) (hts _ hw4) (src := a0) (dst := a) (cs := scr) (cd := vp_cell (G.2.1 1) (n1, .inl g)) (srcPos := sp) (destPos := dp) (n := i) (by rw [hT]; exact hc0) (by rw [hT]; exact hc1)
    hs6 (fun _ h => by cases h) hs3 (fun h => by cases h) hk0 hk1 hkk0 hkk1 (by simp [refKind]) h1 h2 h3
    (by rw [nn sp h1, nn i h3]; omega)
    (by rw [nn dp h2, nn i h3]; show ¬ _ > ((arrV (G.2.1 1) n1 (fun j => .int (g j))).slots.size : Int); rw [arrV_size]; omega)
    (fun vm₁ _ i9 hi => by
      have e : scr.slots.getD (sp.toNatClampNeg + i9) .null = .int (f (sp.toNatClampNeg + i9)) := by
        rw [Array.getD_eq_getD_getElem?, hs5 _ (by omega)]
        rfl
      refine ⟨?_, ?_⟩
      · rw [e]
        exact hft i9 hi
      · rw [e]
        exact trivial)
    (g := F0 m pc ls (.int i :: .int dp :: .ref a :: .int sp :: .ref a0 :: st)) rfl (by rw [hml]; exact hl.1) (rest := st) rfl (by rw [hb]; exact hd) hfr (by show 2 * 0 + _ + _ ≤ _; omega)
  have e1 : copied scr (vp_cell (G.2.1 1) (n1, .inl g)) sp dp i = vp_cell (G.2.1 1) (n1, .inl (va_cpy f g sp.toNatClampNeg dp.toNatClampNeg i.toNatClampNeg)) := va_copiedX (fun z => .int z) scr (G.2.1 1) f g hs5 h4
  rw [e1] at X' step
  have hlt : a < H.size := (Array.getElem?_eq_some_iff.mp hc1).1
  have hheap : ((T.setVm vm').setCell a (vp_cell (G.2.1 1) (n1, .inl (va_cpy f g sp.toNatClampNeg dp.toNatClampNeg i.toNatClampNeg)))).heap = H.setIfInBounds a (vp_cell (G.2.1 1) (n1, .inl (va_cpy f g sp.toNatClampNeg dp.toNatClampNeg i.toNatClampNeg))) := by rw [← hT]; rfl
  have oq : ∀ q : Nat, q ≠ a → (H.setIfInBounds a (vp_cell (G.2.1 1) (n1, .inl (va_cpy f g sp.toNatClampNeg dp.toNatClampNeg i.toNatClampNeg))))[q]? = H[q]? := fun q hq => by simp [Array.getElem?_setIfInBounds, Ne.symm hq]
  have hat1 : osAt G a (.inl (1, (n1, .inl (va_cpy f g sp.toNatClampNeg dp.toNatClampNeg i.toNatClampNeg)))) (H.setIfInBounds a (vp_cell (G.2.1 1) (n1, .inl (va_cpy f g sp.toNatClampNeg dp.toNatClampNeg i.toNatClampNeg)))) := ⟨by simp [Array.getElem?_setIfInBounds, hlt], (hM.1 a _ hz1).2⟩
  obtain ⟨t, a1, b1⟩ := kk p l e s m args below meth c B G _ r z' hV hZ g2 _ _ ls (hM.up (by simp) oq hat1) ⟨by simp; exact hS.1, fun q g1 g2 => by
      rw [oq q (fun e => g2 (by rw [e]; exact hA))]
      exact hS.2.1 q g1 g2, fun q hq => by
      rcases List.mem_append.mp hq with h | h
      · exact hS.2.2 q h
      · obtain ⟨z, -, hz⟩ := List.mem_map.mp h
        rw [← hz]
        exact hA⟩ hl _ hheap X'
  exact ⟨t, step t a1, b1⟩
theorem os_bclone {B9 a idx : Nat} {f : Nat → osM ρ} (hw1 : Cond.methodLink y.cls idx ⟨"[B", "clone", "()Ljava/lang/Object;"⟩ ∈ osX) (hw2 : Cond.sameMethod "[B" "java/lang/Object" "clone" "()Ljava/lang/Object;" ∈ osX) (hw3 : Cond.native ⟨"java/lang/Object", "clone", "()Ljava/lang/Object;"⟩ ∈ osX) (hw4 : Cond.instanceMethod ⟨"java/lang/Object", "clone", "()Ljava/lang/Object;"⟩ ∈ osX) (hw5 : Cond.selects "[B" ⟨"[B", "clone", "()Ljava/lang/Object;"⟩ ⟨"java/lang/Object", "clone", "()Ljava/lang/Object;"⟩ ∈ osX) (hw6 : Cond.castable "[B" "java/lang/Cloneable" ∈ osX)
    (hcat : (st.map fun v => v.category).sum ≤ 8) (hfr : 1 ≤ R.frames) (hlo : 22 ≤ R.locals) (hk : k + 1 ≤ R.cells) (hn : n + B9 ≤ R.slots) (hd : osD cc pc 3 pc' (.invokevirtual idx)) (kk : ∀ q, osW Fi y cc nL ret hh R (k + 1) (n + B9) pc' lv (.ref q :: st) (f q)) : osW Fi y cc nL ret hh R k n pc lv (.ref a :: st) (osbind (osbclone B9 a) f) := by
  intro p l e s m args below meth c B G z r z' hV hZ hF H locs ls hM hS hl
  obtain ⟨hx, hb, hml, hown, hr, hlk, htab, hst, hnm⟩ := id B
  obtain ⟨q, z1, g1, g2⟩ := osbind_some hF
  obtain ⟨n1, f1, hz, hn1, hft, g3⟩ := osbclone_some g1
  obtain ⟨hz2, hA, rfl⟩ := osnew_some g3
  obtain ⟨hd, rfl⟩ := hd
  have hts := hV.word (args := args)
  have hsz := hM.2 q hz2
  have hc0 : H[a]? = some (vp_cell (G.2.1 1) (n1, .inl f1)) := (hM.1 a _ hz).1
  have ht0 : (osTys G)[1]? = some (G.2.1 1, .byte) := rfl
  obtain ⟨hAr, hra⟩ := hV.2.1.2 1 _ ht0
  have hnmB : s.vm.findClass "[B" = some (G.2.1 1) := hra
  obtain ⟨c0, t0', f0, f2, f3⟩ := Cond.castable_spec (hts _ hw6)
  cases hnmB.symm.trans f0
  intro T hT X
  have hcellT : T.heap[a]? = some (vp_cell (G.2.1 1) (n1, .inl f1)) := by rw [hT]; exact hc0
  obtain ⟨-, kA, hkA, comp, hkind⟩ := State.isArrayOf_alike X.warmed.alike (hAr 0 (fun _ => .null))
  obtain ⟨-, kS, hkS, compS, hkindS⟩ := hAr 0 (fun _ => .null)
  have hss : (vp_cell (G.2.1 1) (n1, .inl f1)).slots.size = n1 := arrV_size _ _ _
  obtain ⟨vm', X', st9⟩ := X.cloneArray hx hown (hts _ hw1) (hts _ hw2) (hts _ hw3) (hts _ hw4) (hts _ hw5) (a := a) (cell := vp_cell (G.2.1 1) (n1, .inl f1)) hcellT (fun k h => by cases h) (fun h => by cases h) hnmB f2 f3
    (fun i v hv => by
      have hk' : T.vm.classes[G.2.1 1]? = some kA := hkA
      have hv2 : (arrV (G.2.1 1) n1 (fun j => .int (f1 j))).slots[i]? = some v := hv
      have hi : i < n1 := by
        have := (Array.getElem?_eq_some_iff.mp hv2).1
        rwa [arrV_size] at this
      rw [arrV_read _ _ hi] at hv2
      cases hv2
      have := hft i hi
      simpa [State.fitsSlot, State.slotType?, hk', hkind, vp_cell, arrV] using this)
    (g := F0 m pc ls (.ref a :: st)) rfl (by rw [hml]; exact hl.1) rfl (by rw [hb]; exact hd) hfr (by show 2 * 0 + _ + 14 ≤ _; omega) hk (by rw [hss]; omega) (hloader := Vm.clonesLoader_of_array hkS hkindS)
  have hcellE : ({ cls := (vp_cell (G.2.1 1) (n1, .inl f1)).cls, slots := (vp_cell (G.2.1 1) (n1, .inl f1)).slots } : Cell) = vp_cell (G.2.1 1) (n1, .inl f1) := rfl
  rw [hcellE, hss] at X'
  generalize hH1 : H.push (vp_cell (G.2.1 1) (n1, .inl f1)) = H1
  have z1 : H1.size = q + 1 := by rw [← hH1, Array.size_push, hsz]
  have e1 : H1[q]? = some (vp_cell (G.2.1 1) (n1, .inl f1)) := by rw [← hH1, ← hsz, Array.getElem?_push_size]
  have o1 : ∀ b : Nat, b < q → H1[b]? = H[b]? := fun b hb => by rw [← hH1, Array.getElem?_push, if_neg (by omega)]
  have hat1 : osAt G q (.inl (1, (n1, .inl f1))) H1 := ⟨e1, (hM.1 a _ hz).2⟩
  obtain ⟨t, b1, b2⟩ := osW.widen (k' := k + 1) (n' := n + B9) (k := k + 1) (n := n + n1) (Nat.le_refl _) (by omega) (kk q) p l e s m args below meth c B G _ r z' hV hZ g2 H1 locs ls (hM.new hz2 z1 o1 hat1) (osS_new hS hsz z1 o1) hl ((T.setVm vm').pushCell (vp_cell (G.2.1 1) (n1, .inl f1))) (by rw [← hH1, ← hT]; rfl) X'
  refine ⟨t, st9 t ?_, b2⟩
  rw [hcellE, hT, hsz]
  exact b1
theorem os_bcast {a idx : Nat} (hw : Cond.classLink y.cls idx "[B" ∈ osX) (hd : osD cc pc 3 pc' (.checkcast idx)) (kk : osW Fi y cc nL ret hh R k n pc' lv (.ref a :: st) F) : osW Fi y cc nL ret hh R k n pc lv (.ref a :: st) (osbind (osbcast a) fun _ => F) := by
  intro p l e s m args below meth c B G z r z' hV hZ hF H locs ls hM hS hl
  obtain ⟨hx, hb, hml, hown, hr, hlk, htab, hst, hnm⟩ := id B
  obtain ⟨u, z1, g1, g2⟩ := osbind_some hF
  obtain ⟨rfl, n1, f1, hz⟩ := osbcast_some g1
  obtain ⟨hd, rfl⟩ := hd
  have hts := hV.word (args := args)
  have ht0 : (osTys G)[1]? = some (G.2.1 1, .byte) := rfl
  exact va_castA (D := G.1) (cl := vwCl) hx hb hown (hts _ hw) (va_P1 (e := .inl (G.2.1 1, (n1, .inl f1))) (hM.1 a _ hz).1) 0 rfl (hV.2.1.2 1 _ ht0).2 hd (kk p l e s m args below meth c B G z1 r z' hV hZ g2 H locs ls hM hS hl)
end R
section S
variable {ρ : Type} {Fi : osF ρ} {y : MethodName} {cc : ByteArray} {nL : Nat} {ret : Option FieldType} {hh : List (Nat × Nat × Nat × Nat)} {R : Room} {k n k' n' : Nat} {pc pc' : Nat} {lv : List (Nat × Value)} {st : List Value} {F : osM ρ}
variable {α : Type} {rv : α → Option Value} {y' : MethodName} {cc' : ByteArray} {nL' : Nat} {ret' : Option FieldType} {fr lo mc ms np idx b : Nat} {As : List Value} {g : osM α} {f : α → osM ρ} {stk : List Value} {st' : α → List Value}
/-- super.m(..) -/
theorem os_callSU {cis : List Nat} (hd' : osMd y' cc' nL' ret' np) (h3 : Cond.methodLink y.cls idx y' ∈ osX) (h5 : Cond.sameMethod y'.cls y'.cls y'.name y'.desc ∈ osX) (h6 : Cond.superclass y.cls y'.cls ∈ osX) (h4 : Cond.instanceMethod y' ∈ osX) (hno : y'.name ≠ "<init>") (hMt : osMet y' cc' nL' ret' fr lo mc ms rv (.ref b :: As) g) (hn : As.length = np) (hst : stk = As.reverse ++ .ref b :: st) (hsp : ∀ r, (rv r).toList ++ st = st' r) (hcat : (st.map fun v => v.category).sum ≤ 8) (hfr : fr + 1 ≤ R.frames) (hlo : 8 + (nL' + 11) + lo ≤ R.locals) (hk : k + mc = k') (hk2 : k' ≤ R.cells) (hn1 : n + ms = n') (hn2 : n' ≤ R.slots) (hd : osD cc pc 3 pc' (.invokespecial idx)) (kk : ∀ r, osW Fi y cc nL ret hh R k' n' pc' lv (st' r) (f r)) : osW Fi y cc nL ret hh R k n pc lv stk (osbind (osrecv cis b g) f) := by
  intro p l e s m args below meth c B G z r z' hV hZ hF H locs ls hM hS hl
  obtain ⟨hx, hb, hml, hown, hr, hlk, htab, hst9, hnm⟩ := id B
  obtain ⟨v, z1, g0, g2⟩ := osbind_some hF
  obtain ⟨ci, fs, hz, hc, g1⟩ := osrecv_some g0
  obtain ⟨hd, rfl⟩ := hd
  subst hk; subst hn1; subst hst
  have hts := hV.word (args := args)
  have hM0 := hMt l hst9 G z v z1 g1
  have cw : va_CS R s args y.cls idx y' cc' nL' ret' [.code y' cc' nL' ret'] { frames := fr, cells := mc, slots := ms, locals := lo } mc ms np :=
    ⟨⟨rfl, rfl, hfr, hlo, osOne hV hd'.1, List.mem_cons_self⟩, hts _ h3, hts _ h5, hts _ h6, hts _ h4, hts _ hd'.2.1, hts _ hd'.1, hno, hd'.len⟩
  obtain ⟨q9, hq9, -⟩ := id (hM.1 b _ hz)
  have hrc := va_recv (q0 := 0) hV.2.1 (va_P1 (show va_at G.1 vwCl (b, .inr (ci, fs)) H from hM.1 b _ hz)) hq9 rfl
  have hrun := va_runSU (e := e) (below := below) (meth := meth) (H := H) (locs := locs) (cells := k) (slots := n) (rest := st) (g := F0 m pc ls (As.reverse ++ .ref b :: st)) (hV.2.1.1 ci _ hq9).2 ⟨hx, hb, hml, hown, hts⟩ hM0 cw ⟨osR.blind, hrc, fun U hU hW => ⟨rfl, osR.end hV hZ hM hS hU hW⟩⟩ rfl hn hl.1 rfl (lv_room hcat) hd ⟨hk2, hn2⟩
  refine osQc.next (rv := rv) (G := G) (r := v) (z := z1) hrun hS fun H1 locs1 hM1 hS1 => ?_
  rw [hsp v]
  exact kk v p l e s m args below meth c B G z1 r z' hV hZ g2 H1 locs1 ls hM1 hS1 hl
end S
section S
variable {ρ : Type} {Fi : osF ρ} {y : MethodName} {cc : ByteArray} {nL : Nat} {ret : Option FieldType} {hh : List (Nat × Nat × Nat × Nat)} {R : Room} {k n k' n' : Nat} {pc pc' : Nat} {lv : List (Nat × Value)} {st : List Value} {F : osM ρ}
variable {α : Type} {rv : α → Option Value} {y' : MethodName} {cc' : ByteArray} {nL' : Nat} {ret' : Option FieldType} {fr lo mc ms np idx b : Nat} {As : List Value} {g : osM α} {f : α → osM ρ} {stk : List Value} {st' : α → List Value}
/-- a method that the receiver's class overrides -/
theorem os_callO {cis : List Nat} {x : MethodName} {owner : String} {b0 : ByteArray} {m0 : Nat} {r0 : Option FieldType} (hsl : osSl cis x y') (hd' : osMd y' cc' nL' ret' np) (h0 : Cond.code ⟨owner, x.name, x.desc⟩ b0 m0 r0 ∈ osX) (h01 : Cond.instanceMethod ⟨owner, x.name, x.desc⟩ ∈ osX) (how : owner ≠ "java/lang/invoke/MethodHandle" ∧ owner ≠ "java/lang/invoke/VarHandle") (hyd : y'.desc = x.desc) (h3 : Cond.methodLink y.cls idx x ∈ osX) (h5 : Cond.sameMethod x.cls owner x.name x.desc ∈ osX) (h4 : Cond.instanceMethod y' ∈ osX) (hMt : osMet y' cc' nL' ret' fr lo mc ms rv (.ref b :: As) g) (hn : As.length = np) (hst : stk = As.reverse ++ .ref b :: st) (hsp : ∀ r, (rv r).toList ++ st = st' r) (hcat : (st.map fun v => v.category).sum ≤ 8) (hfr : fr + 1 ≤ R.frames) (hlo : 8 + (nL' + 11) + lo ≤ R.locals) (hk : k + mc = k') (hk2 : k' ≤ R.cells) (hn1 : n + ms = n') (hn2 : n' ≤ R.slots) (hd : osD cc pc 3 pc' (.invokevirtual idx)) (kk : ∀ r, osW Fi y cc nL ret hh R k' n' pc' lv (st' r) (f r)) : osW Fi y cc nL ret hh R k n pc lv stk (osbind (osrecv cis b g) f) := by
  intro p l e s m args below meth c B G z r z' hV hZ hF H locs ls hM hS hl
  obtain ⟨hx, hb, hml, hown, hr, hlk, htab, hst9, hnm⟩ := id B
  obtain ⟨v, z1, g0, g2⟩ := osbind_some hF
  obtain ⟨ci, fs, hz, hc, g1⟩ := osrecv_some g0
  obtain ⟨q9, hq9, hsel⟩ := hsl ci hc
  obtain ⟨hd, rfl⟩ := hd
  subst hk; subst hn1; subst hst
  have hts := hV.word (args := args)
  have hM0 := hMt l hst9 G z v z1 g1
  have cw : va_CU R s args y.cls q9.1 owner idx x y' cc' nL' ret' [.code y' cc' nL' ret'] { frames := fr, cells := mc, slots := ms, locals := lo } mc ms np :=
    ⟨⟨rfl, rfl, hfr, hlo, osOne hV hd'.1, List.mem_cons_self⟩, hts _ hd'.1, hts _ hd'.2.1, how, by rw [← hyd]; exact hd'.len, hts _ h3, hts _ h5, va_Decl.of (hts _ h01) (hts _ h0), hts _ hsel, hts _ h4⟩
  have hrc := va_recv (q0 := 0) hV.2.1 (va_P1 (show va_at G.1 vwCl (b, .inr (ci, fs)) H from hM.1 b _ hz)) hq9 rfl
  have hrun := va_runU (e := e) (below := below) (meth := meth) (H := H) (locs := locs) (cells := k) (slots := n) (rest := st) (g := F0 m pc ls (As.reverse ++ .ref b :: st)) ⟨hx, hb, hml, hown, hts⟩ hM0 cw ⟨osR.blind, hrc, fun U hU hW => ⟨rfl, osR.end hV hZ hM hS hU hW⟩⟩ rfl hn hl.1 rfl (lv_room hcat) hd ⟨hk2, hn2⟩
  refine osQc.next (rv := rv) (G := G) (r := v) (z := z1) hrun hS fun H1 locs1 hM1 hS1 => ?_
  rw [hsp v]
  exact kk v p l e s m args below meth c B G z1 r z' hV hZ g2 H1 locs1 ls hM1 hS1 hl
/-- a loop of at most B rounds, each of which makes at most DM cells of DS slots -/
theorem osloop_K {β : Type} {bd : (β → osM ρ) → β → osM ρ} {lvf : β → List (Nat × Value)} {stf : β → List Value} (B9 DM DS K0 N0 : Nat) (h : ∀ f : Nat, f < B9 → ∀ ih : β → osM ρ, (∀ p, osW Fi y cc nL ret hh R (K0 + DM * (B9 - f)) (N0 + DS * (B9 - f)) pc (lvf p) (stf p) (ih p)) → ∀ p, osW Fi y cc nL ret hh R (K0 + DM * (B9 - (f + 1))) (N0 + DS * (B9 - (f + 1))) pc (lvf p) (stf p) (bd ih p)) : ∀ f : Nat, f ≤ B9 → ∀ p, osW Fi y cc nL ret hh R (K0 + DM * (B9 - f)) (N0 + DS * (B9 - f)) pc (lvf p) (stf p) (osloop bd f p)
  | 0, _ => fun p p9 l e s m args below meth c B G z r z' hV hZ hF => by cases hF
  | f + 1, hf => h f hf (osloop bd f) (osloop_K B9 DM DS K0 N0 h f (Nat.le_of_succ_le hf))
end S
section E
variable {y : MethodName} {cc : ByteArray} {nL : Nat} {hh : List (Nat × Nat × Nat × Nat)} {R : Room} {k n mc ms : Nat} {pc : Nat} {lv : List (Nat × Value)}
theorem os_zretC {v : Int32} (hv : v = 0 ∨ v = 1) (hk : k ≤ mc) (hn : n ≤ ms) (hd : decode cc pc = .ok (.ireturn, 1)) : osW (osFinM (fun r : Int32 => some (.int r)) mc ms) y cc nL (some .boolean) hh R k n pc lv [.int v] (osret v) := by
  have e : osret v = osretZ v := by funext G z; unfold osret osretZ; rw [if_pos hv]
  rw [e]
  exact os_zret hk hn hd
theorem os_aret {v : Nat} {rt : FieldType} (hrt : (∃ n, rt = .object n) ∨ ∃ t, rt = .array t) (hk : k ≤ mc) (hn : n ≤ ms) (hd : decode cc pc = .ok (.areturn, 1)) : osW (osFinM (fun r : Nat => some (.ref r)) mc ms) y cc nL (some rt) hh R k n pc lv [.ref v] (osret v) := by
  intro p l e s m args below meth c B G z r z' hV hZ hF H locs ls hM hS hl
  obtain ⟨hx, hb, hml, hown, hr, hlk, htab, hst9, hnm⟩ := id B
  cases hF
  exact W.widen hk hn (W.aret hx hb hr hrt (Or.inr ⟨_, rfl⟩) (fun t ht hW => ⟨rfl, osEndF hV hZ hM hS ht hW⟩) hS.2.2 hd hlk)
end E
