/-! loops, switches, numbers with points, array copies -/
def osloop {β ρ : Type} (b : (β → osM ρ) → β → osM ρ) (n : Nat) : β → osM ρ := Nat.rec (motive := fun _ => β → osM ρ) (fun _ => osno) (fun _ ih => b ih) n
theorem osloop_s {β ρ : Type} (b : (β → osM ρ) → β → osM ρ) (n : Nat) (p : β) : osloop b (n + 1) p = b (osloop b n) p := rfl
theorem osloop_0 {β ρ : Type} (b : (β → osM ρ) → β → osM ρ) (p : β) (G : osG) (z : osS) : osloop b 0 p G z = none := rfl
abbrev osn32 (r : UInt32) : Prop := r &&& 0x7fffffff ≤ 0x7f800000
abbrev osn64 (r : UInt64) : Prop := r &&& 0x7fffffffffffffff ≤ 0x7ff0000000000000
theorem osn32_ok {r : UInt32} (h : osn32 r) : vf_n32 r := h
theorem osn64_ok {r : UInt64} (h : osn64 r) : vf_n64 r := h
theorem osz_narrow {v : Int32} (h : v = 0 ∨ v = 1) : narrow .boolean (.int v) = .int v := by rcases h with rfl | rfl <;> rfl
theorem osz_fits {v : Int32} (h : v = 0 ∨ v = 1) : fits .boolean (.int v) = true := by rcases h with rfl | rfl <;> rfl
theorem osHd1 {ci kf : Nat} {q0 : vw_C} {C : String} (h : vwCl[ci]? = some q0) (h2 : (q0.2.1 kf).1 = C) : ∀ c ∈ [ci], ∀ q, vwCl[c]? = some q → (q.2.1 kf).1 = C := by
  intro c hc q hq
  rw [List.mem_singleton.mp hc, h] at hq
  cases hq
  exact h2
/-- a switch over x: the cases from lo on, and what is left -/
def osswitch {α : Type} (x : Int32) (lo : Int) (Fs : List (osM α)) (Fd : osM α) : osM α := fun G z => if lo ≤ x.toInt ∧ x.toInt < lo + Fs.length then (Fs.getD (x.toInt - lo).toNat osno) G z else Fd G z
/-- copies n places of an int array -/
def oscopy (a0 : Nat) (sp : Int32) (a : Nat) (dp n : Int32) : osM Unit := fun G z => match osga 0 a0 z, osga 0 a z with
  | some (n0, .inl f), some (n1, .inl g) => if ¬ sp < 0 ∧ ¬ dp < 0 ∧ ¬ n < 0 ∧ sp.toNatClampNeg + n.toNatClampNeg ≤ n0 ∧ dp.toNatClampNeg + n.toNatClampNeg ≤ n1 ∧ G.2.2.1 ≤ a then some ((), osup z a (.inl (0, (n1, .inl (va_cpy f g sp.toNatClampNeg dp.toNatClampNeg n.toNatClampNeg))))) else none
  | _, _ => none
theorem oscopy_some {a0 a : Nat} {sp dp n : Int32} {G : osG} {z z1 : osS} {u : Unit} (h : oscopy a0 sp a dp n G z = some (u, z1)) : ∃ n0 f n1 g, z.1 a0 = some (.inl (0, (n0, .inl f))) ∧ z.1 a = some (.inl (0, (n1, .inl g))) ∧ ¬ sp < 0 ∧ ¬ dp < 0 ∧ ¬ n < 0 ∧ sp.toNatClampNeg + n.toNatClampNeg ≤ n0 ∧ dp.toNatClampNeg + n.toNatClampNeg ≤ n1 ∧ osA G a ∧ z1 = osup z a (.inl (0, (n1, .inl (va_cpy f g sp.toNatClampNeg dp.toNatClampNeg n.toNatClampNeg)))) := by
  unfold oscopy at h
  cases h0 : osga 0 a0 z with
  | none => rw [h0] at h; cases h
  | some q0 =>
    cases h1 : osga 0 a z with
    | none => rw [h0, h1] at h; obtain ⟨n0, f | f | f | f | f⟩ := q0 <;> cases h
    | some q1 =>
      rw [h0, h1] at h
      obtain ⟨n0, f | f | f | f | f⟩ := q0 <;> obtain ⟨n1, g | g | g | g | g⟩ := q1 <;> first | cases h | skip
      replace h : (if ¬ sp < 0 ∧ ¬ dp < 0 ∧ ¬ n < 0 ∧ sp.toNatClampNeg + n.toNatClampNeg ≤ n0 ∧ dp.toNatClampNeg + n.toNatClampNeg ≤ n1 ∧ G.2.2.1 ≤ a then some ((), osup z a (.inl (0, (n1, .inl (va_cpy f g sp.toNatClampNeg dp.toNatClampNeg n.toNatClampNeg))))) else none) = some (u, z1) := h
      by_cases hc : ¬ sp < 0 ∧ ¬ dp < 0 ∧ ¬ n < 0 ∧ sp.toNatClampNeg + n.toNatClampNeg ≤ n0 ∧ dp.toNatClampNeg + n.toNatClampNeg ≤ n1 ∧ G.2.2.1 ≤ a
      · rw [if_pos hc] at h; cases h
        exact ⟨n0, f, n1, g, osga_some h0, osga_some h1, hc.1, hc.2.1, hc.2.2.1, hc.2.2.2.1, hc.2.2.2.2.1, hc.2.2.2.2.2, rfl⟩
      · rw [if_neg hc] at h; cases h
section R
variable {ρ : Type} {Fi : osF ρ} {y : MethodName} {cc : ByteArray} {nL : Nat} {ret : Option FieldType} {hh : List (Nat × Nat × Nat × Nat)} {R : Room} {k n : Nat} {pc pc' : Nat} {lv : List (Nat × Value)} {st : List Value} {F : osM ρ}
theorem osloop_W {β : Type} {b : (β → osM ρ) → β → osM ρ} {lvf : β → List (Nat × Value)} {stf : β → List Value} (h : ∀ ih : β → osM ρ, (∀ p, osW Fi y cc nL ret hh R k n pc (lvf p) (stf p) (ih p)) → ∀ p, osW Fi y cc nL ret hh R k n pc (lvf p) (stf p) (b ih p)) (N : Nat) (p : β) : osW Fi y cc nL ret hh R k n pc (lvf p) (stf p) (osloop b N p) := by
  revert p
  induction N with
  | zero => intro p p9 l e s m args below meth c B G z r z' hV hZ hF; cases hF
  | succ N ih => intro p; exact h (osloop b N) ih p
theorem os_fconst0 (hd : osD cc pc 1 pc' (.fconst 0)) (kk : osW Fi y cc nL ret hh R k n pc' lv (.float (0 : UInt32) :: st) F) : osW Fi y cc nL ret hh R k n pc lv st F := by
  intro p l e s m args below meth c B G z r z' hV hZ hF H locs ls hM hS hl
  obtain ⟨hx, hb, hml, hown, hr, hlk, htab, hst, hnm⟩ := id B
  obtain ⟨hd, rfl⟩ := hd
  refine lv_fconst0 hx hb hd ?_
  rw [show FP.fconst0 = (0 : UInt32) from by decide +kernel]
  exact kk p l e s m args below meth c B G z r z' hV hZ hF H locs ls hM hS hl
theorem os_fconst1 (hd : osD cc pc 1 pc' (.fconst 1)) (kk : osW Fi y cc nL ret hh R k n pc' lv (.float (1065353216 : UInt32) :: st) F) : osW Fi y cc nL ret hh R k n pc lv st F := by
  intro p l e s m args below meth c B G z r z' hV hZ hF H locs ls hM hS hl
  obtain ⟨hx, hb, hml, hown, hr, hlk, htab, hst, hnm⟩ := id B
  obtain ⟨hd, rfl⟩ := hd
  refine lv_fconst1 hx hb hd ?_
  rw [show FP.fconst1 = (1065353216 : UInt32) from by decide +kernel]
  exact kk p l e s m args below meth c B G z r z' hV hZ hF H locs ls hM hS hl
theorem os_fconst2 (hd : osD cc pc 1 pc' (.fconst 2)) (kk : osW Fi y cc nL ret hh R k n pc' lv (.float (1073741824 : UInt32) :: st) F) : osW Fi y cc nL ret hh R k n pc lv st F := by
  intro p l e s m args below meth c B G z r z' hV hZ hF H locs ls hM hS hl
  obtain ⟨hx, hb, hml, hown, hr, hlk, htab, hst, hnm⟩ := id B
  obtain ⟨hd, rfl⟩ := hd
  refine lv_fconst2 hx hb hd ?_
  rw [show FP.fconst2 = (1073741824 : UInt32) from by decide +kernel]
  exact kk p l e s m args below meth c B G z r z' hV hZ hF H locs ls hM hS hl
theorem os_dconst0 (hd : osD cc pc 1 pc' (.dconst 0)) (kk : osW Fi y cc nL ret hh R k n pc' lv (.double (0 : UInt64) :: st) F) : osW Fi y cc nL ret hh R k n pc lv st F := by
  intro p l e s m args below meth c B G z r z' hV hZ hF H locs ls hM hS hl
  obtain ⟨hx, hb, hml, hown, hr, hlk, htab, hst, hnm⟩ := id B
  obtain ⟨hd, rfl⟩ := hd
  refine lv_dconst0 hx hb hd ?_
  rw [show FP.dconst0 = (0 : UInt64) from by decide +kernel]
  exact kk p l e s m args below meth c B G z r z' hV hZ hF H locs ls hM hS hl
theorem os_dconst1 (hd : osD cc pc 1 pc' (.dconst 1)) (kk : osW Fi y cc nL ret hh R k n pc' lv (.double (4607182418800017408 : UInt64) :: st) F) : osW Fi y cc nL ret hh R k n pc lv st F := by
  intro p l e s m args below meth c B G z r z' hV hZ hF H locs ls hM hS hl
  obtain ⟨hx, hb, hml, hown, hr, hlk, htab, hst, hnm⟩ := id B
  obtain ⟨hd, rfl⟩ := hd
  refine lv_dconst1 hx hb hd ?_
  rw [show FP.dconst1 = (4607182418800017408 : UInt64) from by decide +kernel]
  exact kk p l e s m args below meth c B G z r z' hV hZ hF H locs ls hM hS hl
theorem os_ldcf {ix : Nat} {v : UInt32} (hw : Cond.constantFloat y.cls ix v ∈ osX) (hd : osD cc pc 2 pc' (.ldc ix)) (kk : osW Fi y cc nL ret hh R k n pc' lv (.float v :: st) F) : osW Fi y cc nL ret hh R k n pc lv st F := by
  intro p l e s m args below meth c B G z r z' hV hZ hF H locs ls hM hS hl
  obtain ⟨hx, hb, hml, hown, hr, hlk, htab, hst, hnm⟩ := id B
  obtain ⟨hd, rfl⟩ := hd
  exact lv_ldcf hx hb hown (hV.word _ hw) hd (kk p l e s m args below meth c B G z r z' hV hZ hF H locs ls hM hS hl)
theorem os_ldcwf {ix : Nat} {v : UInt32} (hw : Cond.constantFloat y.cls ix v ∈ osX) (hd : osD cc pc 3 pc' (.ldc_w ix)) (kk : osW Fi y cc nL ret hh R k n pc' lv (.float v :: st) F) : osW Fi y cc nL ret hh R k n pc lv st F := by
  intro p l e s m args below meth c B G z r z' hV hZ hF H locs ls hM hS hl
  obtain ⟨hx, hb, hml, hown, hr, hlk, htab, hst, hnm⟩ := id B
  obtain ⟨hd, rfl⟩ := hd
  have K := kk p l e s m args below meth c B G z r z' hV hZ hF H locs ls hM hS hl
  intro T hT X
  obtain ⟨t, a1, b1⟩ := K T hT X
  refine ⟨t, ?_, b1⟩
  obtain ⟨k9, cf, hk9, hcf, hcp⟩ := Cond.constantFloat_spec hown (hV.word (args := args) _ hw)
  obtain ⟨k', hk', he⟩ := X.warmed.alike.2.2 _ _ hk9
  have hd' : decode c.code pc = .ok (.ldc_w ix, 3) := by rw [hb]; exact hd
  jvm_step X.here [hx, hd', ldc_w.wp_float (s := T) (f := F0 m pc ls st) X.here.top hk' (by rw [he]; exact hcf) hcp]
  exact a1
/-- the cases of a switch, each with its target -/
def osSw (Fi : osF ρ) (y : MethodName) (cc : ByteArray) (nL : Nat) (ret : Option FieldType) (hh : List (Nat × Nat × Nat × Nat)) (R : Room) (k n pc : Nat) (lv : List (Nat × Value)) (st : List Value) : List Int → List (osM ρ) → Prop
  | [], [] => True
  | o :: os, F :: Fs => (∃ tgt : Nat, (pc : Int) + o = (tgt : Int) ∧ osW Fi y cc nL ret hh R k n tgt lv st F) ∧ osSw Fi y cc nL ret hh R k n pc lv st os Fs
  | _, _ => False
theorem osSw.at : ∀ {os : List Int} {Fs : List (osM ρ)}, osSw Fi y cc nL ret hh R k n pc lv st os Fs → os.length = Fs.length ∧ ∀ j, j < Fs.length → ∃ (o : Int) (tgt : Nat), os[j]? = some o ∧ (pc : Int) + o = (tgt : Int) ∧ osW Fi y cc nL ret hh R k n tgt lv st (Fs.getD j osno)
  | [], [], _ => ⟨rfl, fun j h => absurd h (Nat.not_lt_zero j)⟩
  | o :: os, F :: Fs, h => by
    obtain ⟨⟨tgt, h1, h2⟩, h3⟩ := h
    obtain ⟨e, k9⟩ := osSw.at h3
    refine ⟨by simp [e], fun j hj => ?_⟩
    cases j with
    | zero => exact ⟨o, tgt, rfl, h1, h2⟩
    | succ j =>
      obtain ⟨o', t', q1, q2, q3⟩ := k9 j (by simpa using hj)
      exact ⟨o', t', by simpa using q1, q2, by simpa using q3⟩
  | [], _ :: _, h => h.elim
  | _ :: _, [], h => h.elim
theorem os_tableswitch {dflt lo hi : Int} {offs : Array Int} {len tgt : Nat} {x : Int32} {Fs : List (osM ρ)} {Fd : osM ρ} (hhi : hi = lo + (offs.size : Int) - 1) (ht : (pc : Int) + dflt = (tgt : Int)) (hd : osD cc pc len pc' (.tableswitch dflt lo hi offs)) (hc : osSw Fi y cc nL ret hh R k n pc lv st offs.toList Fs) (kd : osW Fi y cc nL ret hh R k n tgt lv st Fd) : osW Fi y cc nL ret hh R k n pc lv (.int x :: st) (osswitch x lo Fs Fd) := by
  intro p l e s m args below meth c B G z r z' hV hZ hF H locs ls hM hS hl
  obtain ⟨hx, hb, hml, hown, hr, hlk, htab, hst, hnm⟩ := id B
  obtain ⟨hlen, hat⟩ := osSw.at hc
  have hsz : offs.size = Fs.length := by rw [← hlen]; simp
  unfold osswitch at hF
  by_cases hin : lo ≤ x.toInt ∧ x.toInt < lo + Fs.length
  · rw [if_pos hin] at hF
    obtain ⟨o, tg, q1, q2, q3⟩ := hat (x.toInt - lo).toNat (by omega)
    exact lv_tableIn hx hb hd.1 (by omega) (by omega) (by rw [← Array.getElem?_toList]; exact q1) q2 (q3 p l e s m args below meth c B G z r z' hV hZ hF H locs ls hM hS hl)
  · rw [if_neg hin] at hF
    exact lv_tableOut hx hb hd.1 (by omega) ht (kd p l e s m args below meth c B G z r z' hV hZ hF H locs ls hM hS hl)
theorem os_arraycopy {a0 a idx : Nat} {sp dp i : Int32} (hw1 : Cond.methodLink y.cls idx arraycopyName ∈ osX) (hw2 : Cond.native arraycopyName ∈ osX) (hw3 : Cond.static arraycopyName ∈ osX) (hw4 : Cond.initialized "java/lang/System" ∈ osX) (hcat : (st.map fun v => v.category).sum ≤ 8) (hfr : 1 ≤ R.frames) (hlo : 8 + (nativeFrameWords "java/lang/System" "arraycopy" 5 + 11) ≤ R.locals) (hd : osD cc pc 3 pc' (.invokestatic idx)) (kk : osW Fi y cc nL ret hh R k n pc' lv st F) : osW Fi y cc nL ret hh R k n pc lv (.int i :: .int dp :: .ref a :: .int sp :: .ref a0 :: st) (osbind (oscopy a0 sp a dp i) fun _ => F) := by
  intro p l e s m args below meth c B G z r z' hV hZ hF H locs ls hM hS hl
  obtain ⟨hx, hb, hml, hown, hr, hlk, htab, hst, hnm⟩ := id B
  obtain ⟨u, z1, g1, g2⟩ := osbind_some hF
  obtain ⟨n0, f, n1, g, hz0, hz1, h1, h2, h3, h4, h5, hA, rfl⟩ := oscopy_some g1
  obtain ⟨hd, rfl⟩ := hd
  have hts := hV.word (args := args)
  have nn : ∀ z : Int32, ¬ z < 0 → z.toInt = (z.toNatClampNeg : Int) := by
    intro z hz
    have hz0 : (0 : Int) ≤ z.toInt := by
      have := Int32.not_lt.mp hz
      simpa using Int32.le_iff_toInt_le.mp this
    show z.toInt = ((z.toInt.toNat : Nat) : Int)
    omega
  intro T hT X
  have hc0 : H[a0]? = some (vp_cell (G.2.1 0) (n0, .inl f)) := (hM.1 a0 _ hz0).1
  have hc1 : H[a]? = some (vp_cell (G.2.1 0) (n1, .inl g)) := (hM.1 a _ hz1).1
  have ht0 : (osTys G)[0]? = some (G.2.1 0, .int) := rfl
  obtain ⟨-, k0, hk0, cm0, hkk0⟩ := (hV.2.1.2 0 _ ht0).1 n0 (fun j => .int (f j))
  obtain ⟨vm', X', step⟩ := X.arraycopy hx hown (hts _ hw1) (hts _ hw2) (hts _ hw3) (hts _ hw4) (src := a0) (dst := a) (cs := vp_cell (G.2.1 0) (n0, .inl f)) (cd := vp_cell (G.2.1 0) (n1, .inl g)) (srcPos := sp) (destPos := dp) (n := i) (by rw [hT]; exact hc0) (by rw [hT]; exact hc1)
    (fun _ h => by cases h) (fun _ h => by cases h) (fun h => by cases h) (fun h => by cases h) hk0 hk0 hkk0 hkk0 (by rfl) h1 h2 h3
    (by rw [nn sp h1, nn i h3]; show ¬ _ > ((arrV (G.2.1 0) n0 (fun j => .int (f j))).slots.size : Int); rw [arrV_size]; omega)
    (by rw [nn dp h2, nn i h3]; show ¬ _ > ((arrV (G.2.1 0) n1 (fun j => .int (g j))).slots.size : Int); rw [arrV_size]; omega)
    (fun vm₁ _ i9 hi => by
      have e : (vp_cell (G.2.1 0) (n0, .inl f)).slots.getD (sp.toNatClampNeg + i9) .null = .int (f (sp.toNatClampNeg + i9)) := by
        show (arrV (G.2.1 0) n0 (fun j => .int (f j))).slots.getD _ _ = _
        rw [Array.getD_eq_getD_getElem?, arrV_read _ _ (by omega)]
        rfl
      refine ⟨?_, ?_⟩
      · rw [e]
        rfl
      · rw [e]
        exact trivial)
    (g := F0 m pc ls (.int i :: .int dp :: .ref a :: .int sp :: .ref a0 :: st)) rfl (by rw [hml]; exact hl.1) (rest := st) rfl (by rw [hb]; exact hd) hfr (by show 2 * 0 + _ + _ ≤ _; omega)
  have e1 : copied (vp_cell (G.2.1 0) (n0, .inl f)) (vp_cell (G.2.1 0) (n1, .inl g)) sp dp i = vp_cell (G.2.1 0) (n1, .inl (va_cpy f g sp.toNatClampNeg dp.toNatClampNeg i.toNatClampNeg)) := va_copied (fun z => .int z) (G.2.1 0) (G.2.1 0) f g h4
  rw [e1] at X' step
  have hlt : a < H.size := (Array.getElem?_eq_some_iff.mp hc1).1
  have hheap : ((T.setVm vm').setCell a (vp_cell (G.2.1 0) (n1, .inl (va_cpy f g sp.toNatClampNeg dp.toNatClampNeg i.toNatClampNeg)))).heap = H.setIfInBounds a (vp_cell (G.2.1 0) (n1, .inl (va_cpy f g sp.toNatClampNeg dp.toNatClampNeg i.toNatClampNeg))) := by rw [← hT]; rfl
  have oq : ∀ q : Nat, q ≠ a → (H.setIfInBounds a (vp_cell (G.2.1 0) (n1, .inl (va_cpy f g sp.toNatClampNeg dp.toNatClampNeg i.toNatClampNeg))))[q]? = H[q]? := fun q hq => by simp [Array.getElem?_setIfInBounds, Ne.symm hq]
  have hat1 : osAt G a (.inl (0, (n1, .inl (va_cpy f g sp.toNatClampNeg dp.toNatClampNeg i.toNatClampNeg)))) (H.setIfInBounds a (vp_cell (G.2.1 0) (n1, .inl (va_cpy f g sp.toNatClampNeg dp.toNatClampNeg i.toNatClampNeg)))) := ⟨by simp [Array.getElem?_setIfInBounds, hlt], (hM.1 a _ hz1).2⟩
  obtain ⟨t, a1, b1⟩ := kk p l e s m args below meth c B G _ r z' hV hZ g2 _ _ ls (hM.up (by simp) oq hat1) ⟨by simp; exact hS.1, fun q g1 g2 => by
      rw [oq q (fun e => g2 (by rw [e]; exact hA))]
      exact hS.2.1 q g1 g2, fun q hq => by
      rcases List.mem_append.mp hq with h | h
      · exact hS.2.2 q h
      · obtain ⟨z, -, hz⟩ := List.mem_map.mp h
        rw [← hz]
        exact hA⟩ hl _ hheap X'
  exact ⟨t, step t a1, b1⟩
def osmax (x w : Int32) : Int32 := if x < w then w else x
def osmin (x w : Int32) : Int32 := if w < x then w else x
theorem os_max {x w : Int32} {idx : Nat} (h1 : Cond.methodLink y.cls idx Lib.Math.max.name ∈ osX) (h2 : Cond.static Lib.Math.max.name ∈ osX) (h3 : Cond.initialized "java/lang/Math" ∈ osX) (h4 : Cond.code Lib.Math.max.name Lib.Math.max.code 2 (some .int) ∈ osX) (hcat : (st.map fun v => v.category).sum ≤ 8) (hfr : 1 ≤ R.frames) (hlo : 21 ≤ R.locals) (hk : k ≤ R.cells) (hn : n ≤ R.slots) (hd : osD cc pc 3 pc' (.invokestatic idx)) (kk : osW Fi y cc nL ret hh R k n pc' lv (.int (osmax x w) :: st) F) : osW Fi y cc nL ret hh R k n pc lv (.int w :: .int x :: st) F := by
  intro p l e s m args below meth c B G z r z' hV hZ hF H locs ls hM hS hl
  obtain ⟨hx, hb, hml, hown, hr, hlk, htab, hst, hnm⟩ := id B
  obtain ⟨hd, rfl⟩ := hd
  have hts := hV.word (args := args)
  exact va_mmax hx hb (hml.trans hl.1.symm) hown (hts _ h1) (hts _ h2) (hts _ h3) (hts _ h4) hfr (by omega) hk hn hd (kk p l e s m args below meth c B G z r z' hV hZ hF H locs ls hM hS hl)
theorem os_min {x w : Int32} {idx : Nat} (h1 : Cond.methodLink y.cls idx Lib.Math.min.name ∈ osX) (h2 : Cond.static Lib.Math.min.name ∈ osX) (h3 : Cond.initialized "java/lang/Math" ∈ osX) (h4 : Cond.code Lib.Math.min.name Lib.Math.min.code 2 (some .int) ∈ osX) (hcat : (st.map fun v => v.category).sum ≤ 8) (hfr : 1 ≤ R.frames) (hlo : 21 ≤ R.locals) (hk : k ≤ R.cells) (hn : n ≤ R.slots) (hd : osD cc pc 3 pc' (.invokestatic idx)) (kk : osW Fi y cc nL ret hh R k n pc' lv (.int (osmin x w) :: st) F) : osW Fi y cc nL ret hh R k n pc lv (.int w :: .int x :: st) F := by
  intro p l e s m args below meth c B G z r z' hV hZ hF H locs ls hM hS hl
  obtain ⟨hx, hb, hml, hown, hr, hlk, htab, hst, hnm⟩ := id B
  obtain ⟨hd, rfl⟩ := hd
  have hts := hV.word (args := args)
  exact va_mmin hx hb (hml.trans hl.1.symm) hown (hts _ h1) (hts _ h2) (hts _ h3) (hts _ h4) hfr (by omega) hk hn hd (kk p l e s m args below meth c B G z r z' hV hZ hF H locs ls hM hS hl)
theorem os_nameI {x : Int32} {f : Int32 → osM ρ} (kk : ∀ v, osW Fi y cc nL ret hh R k n pc lv (.int v :: st) (f v)) : osW Fi y cc nL ret hh R k n pc lv (.int x :: st) (osbind (osret x) f) := kk x
theorem os_nameJ {x : Int64} {f : Int64 → osM ρ} (kk : ∀ v, osW Fi y cc nL ret hh R k n pc lv (.long v :: st) (f v)) : osW Fi y cc nL ret hh R k n pc lv (.long x :: st) (osbind (osret x) f) := kk x
theorem os_nameF {x : UInt32} {f : UInt32 → osM ρ} (kk : ∀ v, osW Fi y cc nL ret hh R k n pc lv (.float v :: st) (f v)) : osW Fi y cc nL ret hh R k n pc lv (.float x :: st) (osbind (osret x) f) := kk x
theorem os_nameD {x : UInt64} {f : UInt64 → osM ρ} (kk : ∀ v, osW Fi y cc nL ret hh R k n pc lv (.double v :: st) (f v)) : osW Fi y cc nL ret hh R k n pc lv (.double x :: st) (osbind (osret x) f) := kk x
end R
