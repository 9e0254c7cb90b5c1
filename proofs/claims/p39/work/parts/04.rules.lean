def osbind {α β : Type} (m : osM α) (f : α → osM β) : osM β := fun G z => match m G z with
  | some (a, z') => f a G z'
  | none => none
def osret {α : Type} (a : α) : osM α := fun _ z => some (a, z)
def osite {α : Type} (c : Prop) [Decidable c] (t e : osM α) : osM α := fun G z => if c then t G z else e G z
def osno {α : Type} : osM α := fun _ _ => none
def osguard {α : Type} (c : Prop) [Decidable c] (t : osM α) : osM α := fun G z => if c then t G z else none
/-- an instruction at pc, and where the next one stands -/
def osD (cc : ByteArray) (pc len pc' : Nat) (i : Instr) : Prop := decode cc pc = .ok (i, len) ∧ pc + len = pc'
def osDs (cc : ByteArray) (L : List (Nat × Nat × Instr)) : Prop := ∀ q ∈ L, decode cc q.1 = .ok (q.2.2, q.2.1)
theorem osDs.at {cc : ByteArray} {L : List (Nat × Nat × Instr)} (h : osDs cc L) (j : Nat) {pc len pc' : Nat} {i : Instr} (hj : L[j]? = some (pc, len, i)) (hp : pc + len = pc') : osD cc pc len pc' i := ⟨h (pc, len, i) (List.mem_of_getElem? hj), hp⟩
theorem osite_some {α : Type} {c : Prop} [Decidable c] {t e : osM α} {G : osG} {z : osS} {r : α × osS} (h : osite c t e G z = some r) : (c → t G z = some r) ∧ (¬ c → e G z = some r) := by
  unfold osite at h
  by_cases hc : c
  · rw [if_pos hc] at h; exact ⟨fun _ => h, fun q => absurd hc q⟩
  · rw [if_neg hc] at h; exact ⟨fun q => absurd q hc, fun _ => h⟩
theorem osbind_some {α β : Type} {m : osM α} {f : α → osM β} {G : osG} {z : osS} {r : β × osS} (h : osbind m f G z = some r) : ∃ a z1, m G z = some (a, z1) ∧ f a G z1 = some r := by
  unfold osbind at h
  cases hm : m G z with
  | none => rw [hm] at h; cases h
  | some q => rw [hm] at h; exact ⟨q.1, q.2, rfl, h⟩
section R
variable {ρ : Type} {Fi : osF ρ} {y : MethodName} {cc : ByteArray} {nL : Nat} {ret : Option FieldType} {hh : List (Nat × Nat × Nat × Nat)} {R : Room} {k n : Nat} {pc pc' : Nat} {lv : List (Nat × Value)} {st : List Value} {F : osM ρ}
theorem osW.rw {pc2 : Nat} {lv2 : List (Nat × Value)} {st2 : List Value} (kk : osW Fi y cc nL ret hh R k n pc2 lv2 st2 F) (h1 : pc = pc2) (h2 : lv = lv2) (h3 : st = st2) : osW Fi y cc nL ret hh R k n pc lv st F := by
  subst h1; subst h2; subst h3; exact kk
/-- fewer locals are known further on -/
theorem osW.sub {lv' : List (Nat × Value)} (ks : List Nat) (hp : lv_pick lv ks = lv') (kk : osW Fi y cc nL ret hh R k n pc lv' st F) : osW Fi y cc nL ret hh R k n pc lv st F := by
  intro p l e s m args below meth c B G z r z' hV hZ hF H locs ls hM hS hl
  exact kk p l e s m args below meth c B G z r z' hV hZ hF H locs ls hM hS (lv_sub hl ks hp)
theorem osW.widen {k' n' : Nat} (h1 : k ≤ k') (h2 : n ≤ n') (kk : osW Fi y cc nL ret hh R k' n' pc lv st F) : osW Fi y cc nL ret hh R k n pc lv st F := by
  intro p l e s m args below meth c B G z r z' hV hZ hF H locs ls hM hS hl
  exact W.widen h1 h2 (kk p l e s m args below meth c B G z r z' hV hZ hF H locs ls hM hS hl)
theorem os_guard {c : Prop} [Decidable c] (kk : c → osW Fi y cc nL ret hh R k n pc lv st F) : osW Fi y cc nL ret hh R k n pc lv st (osguard c F) := by
  intro p l e s m args below meth c9 B G z r z' hV hZ hF H locs ls hM hS hl
  unfold osguard at hF
  by_cases hc : c
  · rw [if_pos hc] at hF; exact kk hc p l e s m args below meth c9 B G z r z' hV hZ hF H locs ls hM hS hl
  · rw [if_neg hc] at hF; cases hF
theorem os_iconst {i : Int} {v : Int32} (hv : Int32.ofInt i = v) (hd : osD cc pc 1 pc' (.iconst i)) (kk : osW Fi y cc nL ret hh R k n pc' lv (.int v :: st) F) : osW Fi y cc nL ret hh R k n pc lv st F := by
  intro p l e s m args below meth c B G z r z' hV hZ hF H locs ls hM hS hl
  obtain ⟨hx, hb, hml, hown, hr, hlk, htab, hst, hnm⟩ := id B
  obtain ⟨hd, rfl⟩ := hd
  exact lv_iconst hx hb hd hv (kk p l e s m args below meth c B G z r z' hV hZ hF H locs ls hM hS hl)
theorem os_bipush {i : Int} {v : Int32} (hv : (Int8.ofInt i).toInt32 = v) (hd : osD cc pc 2 pc' (.bipush i)) (kk : osW Fi y cc nL ret hh R k n pc' lv (.int v :: st) F) : osW Fi y cc nL ret hh R k n pc lv st F := by
  intro p l e s m args below meth c B G z r z' hV hZ hF H locs ls hM hS hl
  obtain ⟨hx, hb, hml, hown, hr, hlk, htab, hst, hnm⟩ := id B
  obtain ⟨hd, rfl⟩ := hd
  exact lv_bipush hx hb hd hv (kk p l e s m args below meth c B G z r z' hV hZ hF H locs ls hM hS hl)
theorem os_sipush {i : Int} {v : Int32} (hv : (Int16.ofInt i).toInt32 = v) (hd : osD cc pc 3 pc' (.sipush i)) (kk : osW Fi y cc nL ret hh R k n pc' lv (.int v :: st) F) : osW Fi y cc nL ret hh R k n pc lv st F := by
  intro p l e s m args below meth c B G z r z' hV hZ hF H locs ls hM hS hl
  obtain ⟨hx, hb, hml, hown, hr, hlk, htab, hst, hnm⟩ := id B
  obtain ⟨hd, rfl⟩ := hd
  exact lv_sipush hx hb hd hv (kk p l e s m args below meth c B G z r z' hV hZ hF H locs ls hM hS hl)
theorem os_lconst {i : Fin 2} {v : Int64} (hv : Int64.ofNat (i : Nat) = v) (hd : osD cc pc 1 pc' (.lconst i)) (kk : osW Fi y cc nL ret hh R k n pc' lv (.long v :: st) F) : osW Fi y cc nL ret hh R k n pc lv st F := by
  intro p l e s m args below meth c B G z r z' hV hZ hF H locs ls hM hS hl
  obtain ⟨hx, hb, hml, hown, hr, hlk, htab, hst, hnm⟩ := id B
  obtain ⟨hd, rfl⟩ := hd
  exact lv_lconst hx hb hd hv (kk p l e s m args below meth c B G z r z' hV hZ hF H locs ls hM hS hl)
theorem os_ldc {ix : Nat} {v : Int32} (hw : Cond.constant y.cls ix v ∈ osX) (hd : osD cc pc 2 pc' (.ldc ix)) (kk : osW Fi y cc nL ret hh R k n pc' lv (.int v :: st) F) : osW Fi y cc nL ret hh R k n pc lv st F := by
  intro p l e s m args below meth c B G z r z' hV hZ hF H locs ls hM hS hl
  obtain ⟨hx, hb, hml, hown, hr, hlk, htab, hst, hnm⟩ := id B
  obtain ⟨hd, rfl⟩ := hd
  exact lv_ldc hx hb hown (hV.word _ hw) hd (kk p l e s m args below meth c B G z r z' hV hZ hF H locs ls hM hS hl)
theorem os_ldcw {ix : Nat} {v : Int32} (hw : Cond.constant y.cls ix v ∈ osX) (hd : osD cc pc 3 pc' (.ldc_w ix)) (kk : osW Fi y cc nL ret hh R k n pc' lv (.int v :: st) F) : osW Fi y cc nL ret hh R k n pc lv st F := by
  intro p l e s m args below meth c B G z r z' hV hZ hF H locs ls hM hS hl
  obtain ⟨hx, hb, hml, hown, hr, hlk, htab, hst, hnm⟩ := id B
  obtain ⟨hd, rfl⟩ := hd
  exact lv_ldcw hx hb hown (hV.word _ hw) hd (kk p l e s m args below meth c B G z r z' hV hZ hF H locs ls hM hS hl)
theorem os_ldc2 {ix : Nat} {v : Int64} (hw : Cond.constantLong y.cls ix v ∈ osX) (hd : osD cc pc 3 pc' (.ldc2_w ix)) (kk : osW Fi y cc nL ret hh R k n pc' lv (.long v :: st) F) : osW Fi y cc nL ret hh R k n pc lv st F := by
  intro p l e s m args below meth c B G z r z' hV hZ hF H locs ls hM hS hl
  obtain ⟨hx, hb, hml, hown, hr, hlk, htab, hst, hnm⟩ := id B
  obtain ⟨hd, rfl⟩ := hd
  exact lv_ldc2 hx hb hown (hV.word _ hw) hd (kk p l e s m args below meth c B G z r z' hV hZ hF H locs ls hM hS hl)
theorem os_ldc2d {ix : Nat} {v : UInt64} (hw : Cond.constantDouble y.cls ix v ∈ osX) (hd : osD cc pc 3 pc' (.ldc2_w ix)) (kk : osW Fi y cc nL ret hh R k n pc' lv (.double v :: st) F) : osW Fi y cc nL ret hh R k n pc lv st F := by
  intro p l e s m args below meth c B G z r z' hV hZ hF H locs ls hM hS hl
  obtain ⟨hx, hb, hml, hown, hr, hlk, htab, hst, hnm⟩ := id B
  obtain ⟨hd, rfl⟩ := hd
  exact lv_ldc2d hx hb hown (hV.word _ hw) hd (kk p l e s m args below meth c B G z r z' hV hZ hF H locs ls hM hS hl)
theorem os_iload {i : Nat} {v : Int32} (j : Nat) (hj : lv[j]? = some (i, .int v)) (hd : osD cc pc 2 pc' (.iload i)) (kk : osW Fi y cc nL ret hh R k n pc' lv (.int v :: st) F) : osW Fi y cc nL ret hh R k n pc lv st F := by
  intro p l e s m args below meth c B G z r z' hV hZ hF H locs ls hM hS hl
  obtain ⟨hx, hb, hml, hown, hr, hlk, htab, hst, hnm⟩ := id B
  obtain ⟨hd, rfl⟩ := hd
  exact lv_iload hx hb hd (lv_at hl j hj) (kk p l e s m args below meth c B G z r z' hV hZ hF H locs ls hM hS hl)
theorem os_iload_n {i : Nat} {q : Fin 4} {v : Int32} (j : Nat) (hi : (q : Nat) = i) (hj : lv[j]? = some (i, .int v)) (hd : osD cc pc 1 pc' (.iload_n q)) (kk : osW Fi y cc nL ret hh R k n pc' lv (.int v :: st) F) : osW Fi y cc nL ret hh R k n pc lv st F := by
  intro p l e s m args below meth c B G z r z' hV hZ hF H locs ls hM hS hl
  obtain ⟨hx, hb, hml, hown, hr, hlk, htab, hst, hnm⟩ := id B
  obtain ⟨hd, rfl⟩ := hd
  exact lv_iload_n hx hb hd hi (lv_at hl j hj) (kk p l e s m args below meth c B G z r z' hV hZ hF H locs ls hM hS hl)
theorem os_lload {i : Nat} {v : Int64} (j : Nat) (hj : lv[j]? = some (i, .long v)) (hd : osD cc pc 2 pc' (.lload i)) (kk : osW Fi y cc nL ret hh R k n pc' lv (.long v :: st) F) : osW Fi y cc nL ret hh R k n pc lv st F := by
  intro p l e s m args below meth c B G z r z' hV hZ hF H locs ls hM hS hl
  obtain ⟨hx, hb, hml, hown, hr, hlk, htab, hst, hnm⟩ := id B
  obtain ⟨hd, rfl⟩ := hd
  exact lv_lload hx hb hd (lv_at hl j hj) (kk p l e s m args below meth c B G z r z' hV hZ hF H locs ls hM hS hl)
theorem os_lload_n {i : Nat} {q : Fin 4} {v : Int64} (j : Nat) (hi : (q : Nat) = i) (hj : lv[j]? = some (i, .long v)) (hd : osD cc pc 1 pc' (.lload_n q)) (kk : osW Fi y cc nL ret hh R k n pc' lv (.long v :: st) F) : osW Fi y cc nL ret hh R k n pc lv st F := by
  intro p l e s m args below meth c B G z r z' hV hZ hF H locs ls hM hS hl
  obtain ⟨hx, hb, hml, hown, hr, hlk, htab, hst, hnm⟩ := id B
  obtain ⟨hd, rfl⟩ := hd
  exact lv_lload_n hx hb hd hi (lv_at hl j hj) (kk p l e s m args below meth c B G z r z' hV hZ hF H locs ls hM hS hl)
theorem os_fload {i : Nat} {v : UInt32} (j : Nat) (hj : lv[j]? = some (i, .float v)) (hd : osD cc pc 2 pc' (.fload i)) (kk : osW Fi y cc nL ret hh R k n pc' lv (.float v :: st) F) : osW Fi y cc nL ret hh R k n pc lv st F := by
  intro p l e s m args below meth c B G z r z' hV hZ hF H locs ls hM hS hl
  obtain ⟨hx, hb, hml, hown, hr, hlk, htab, hst, hnm⟩ := id B
  obtain ⟨hd, rfl⟩ := hd
  exact lv_fload hx hb hd (lv_at hl j hj) (kk p l e s m args below meth c B G z r z' hV hZ hF H locs ls hM hS hl)
theorem os_fload_n {i : Nat} {q : Fin 4} {v : UInt32} (j : Nat) (hi : (q : Nat) = i) (hj : lv[j]? = some (i, .float v)) (hd : osD cc pc 1 pc' (.fload_n q)) (kk : osW Fi y cc nL ret hh R k n pc' lv (.float v :: st) F) : osW Fi y cc nL ret hh R k n pc lv st F := by
  intro p l e s m args below meth c B G z r z' hV hZ hF H locs ls hM hS hl
  obtain ⟨hx, hb, hml, hown, hr, hlk, htab, hst, hnm⟩ := id B
  obtain ⟨hd, rfl⟩ := hd
  exact lv_fload_n hx hb hd hi (lv_at hl j hj) (kk p l e s m args below meth c B G z r z' hV hZ hF H locs ls hM hS hl)
theorem os_dload {i : Nat} {v : UInt64} (j : Nat) (hj : lv[j]? = some (i, .double v)) (hd : osD cc pc 2 pc' (.dload i)) (kk : osW Fi y cc nL ret hh R k n pc' lv (.double v :: st) F) : osW Fi y cc nL ret hh R k n pc lv st F := by
  intro p l e s m args below meth c B G z r z' hV hZ hF H locs ls hM hS hl
  obtain ⟨hx, hb, hml, hown, hr, hlk, htab, hst, hnm⟩ := id B
  obtain ⟨hd, rfl⟩ := hd
  exact lv_dload hx hb hd (lv_at hl j hj) (kk p l e s m args below meth c B G z r z' hV hZ hF H locs ls hM hS hl)
theorem os_dload_n {i : Nat} {q : Fin 4} {v : UInt64} (j : Nat) (hi : (q : Nat) = i) (hj : lv[j]? = some (i, .double v)) (hd : osD cc pc 1 pc' (.dload_n q)) (kk : osW Fi y cc nL ret hh R k n pc' lv (.double v :: st) F) : osW Fi y cc nL ret hh R k n pc lv st F := by
  intro p l e s m args below meth c B G z r z' hV hZ hF H locs ls hM hS hl
  obtain ⟨hx, hb, hml, hown, hr, hlk, htab, hst, hnm⟩ := id B
  obtain ⟨hd, rfl⟩ := hd
  exact lv_dload_n hx hb hd hi (lv_at hl j hj) (kk p l e s m args below meth c B G z r z' hV hZ hF H locs ls hM hS hl)
theorem os_aload {i : Nat} {v : Nat} (j : Nat) (hj : lv[j]? = some (i, .ref v)) (hd : osD cc pc 2 pc' (.aload i)) (kk : osW Fi y cc nL ret hh R k n pc' lv (.ref v :: st) F) : osW Fi y cc nL ret hh R k n pc lv st F := by
  intro p l e s m args below meth c B G z r z' hV hZ hF H locs ls hM hS hl
  obtain ⟨hx, hb, hml, hown, hr, hlk, htab, hst, hnm⟩ := id B
  obtain ⟨hd, rfl⟩ := hd
  exact lv_aload hx hb hd (lv_at hl j hj) (kk p l e s m args below meth c B G z r z' hV hZ hF H locs ls hM hS hl)
theorem os_aload_n {i : Nat} {q : Fin 4} {v : Nat} (j : Nat) (hi : (q : Nat) = i) (hj : lv[j]? = some (i, .ref v)) (hd : osD cc pc 1 pc' (.aload_n q)) (kk : osW Fi y cc nL ret hh R k n pc' lv (.ref v :: st) F) : osW Fi y cc nL ret hh R k n pc lv st F := by
  intro p l e s m args below meth c B G z r z' hV hZ hF H locs ls hM hS hl
  obtain ⟨hx, hb, hml, hown, hr, hlk, htab, hst, hnm⟩ := id B
  obtain ⟨hd, rfl⟩ := hd
  exact lv_aload_n hx hb hd hi (lv_at hl j hj) (kk p l e s m args below meth c B G z r z' hV hZ hF H locs ls hM hS hl)
theorem os_istore {i : Nat}  {v : Int32} {lv' : List (Nat × Value)} (hn : i < nL) (hlv : (i, Value.int v) :: lv.filter (fun q => !(q.1 == i) && !(q.1 + 1 == i && q.2.category == 2)) = lv') (hd : osD cc pc 2 pc' (.istore i)) (kk : osW Fi y cc nL ret hh R k n pc' lv' st F) : osW Fi y cc nL ret hh R k n pc lv (.int v :: st) F := by
  intro p l e s m args below meth c B G z r z' hV hZ hF H locs ls hM hS hl
  obtain ⟨hx, hb, hml, hown, hr, hlk, htab, hst, hnm⟩ := id B
  obtain ⟨hd, rfl⟩ := hd
  exact lv_istore hx hb hd hl hn hlv (fun ls2 hl => (kk p l e s m args below meth c B G z r z' hV hZ hF H locs ls2 hM hS hl))
theorem os_istore_n {i : Nat} {q : Fin 4} (hi : (q : Nat) = i) {v : Int32} {lv' : List (Nat × Value)} (hn : i < nL) (hlv : (i, Value.int v) :: lv.filter (fun q => !(q.1 == i) && !(q.1 + 1 == i && q.2.category == 2)) = lv') (hd : osD cc pc 1 pc' (.istore_n q)) (kk : osW Fi y cc nL ret hh R k n pc' lv' st F) : osW Fi y cc nL ret hh R k n pc lv (.int v :: st) F := by
  intro p l e s m args below meth c B G z r z' hV hZ hF H locs ls hM hS hl
  obtain ⟨hx, hb, hml, hown, hr, hlk, htab, hst, hnm⟩ := id B
  obtain ⟨hd, rfl⟩ := hd
  exact lv_istore_n hx hb hd hi hl hn hlv (fun ls2 hl => (kk p l e s m args below meth c B G z r z' hV hZ hF H locs ls2 hM hS hl))
theorem os_lstore {i : Nat}  {v : Int64} {lv' : List (Nat × Value)} (hn : i + 1 < nL) (hlv : (i, Value.long v) :: lv.filter (fun q => !(q.1 == i) && (!(q.1 == i + 1) && !(q.1 + 1 == i && q.2.category == 2))) = lv') (hd : osD cc pc 2 pc' (.lstore i)) (kk : osW Fi y cc nL ret hh R k n pc' lv' st F) : osW Fi y cc nL ret hh R k n pc lv (.long v :: st) F := by
  intro p l e s m args below meth c B G z r z' hV hZ hF H locs ls hM hS hl
  obtain ⟨hx, hb, hml, hown, hr, hlk, htab, hst, hnm⟩ := id B
  obtain ⟨hd, rfl⟩ := hd
  exact lv_lstore hx hb hd hl hn hlv (fun ls2 hl => (kk p l e s m args below meth c B G z r z' hV hZ hF H locs ls2 hM hS hl))
theorem os_lstore_n {i : Nat} {q : Fin 4} (hi : (q : Nat) = i) {v : Int64} {lv' : List (Nat × Value)} (hn : i + 1 < nL) (hlv : (i, Value.long v) :: lv.filter (fun q => !(q.1 == i) && (!(q.1 == i + 1) && !(q.1 + 1 == i && q.2.category == 2))) = lv') (hd : osD cc pc 1 pc' (.lstore_n q)) (kk : osW Fi y cc nL ret hh R k n pc' lv' st F) : osW Fi y cc nL ret hh R k n pc lv (.long v :: st) F := by
  intro p l e s m args below meth c B G z r z' hV hZ hF H locs ls hM hS hl
  obtain ⟨hx, hb, hml, hown, hr, hlk, htab, hst, hnm⟩ := id B
  obtain ⟨hd, rfl⟩ := hd
  exact lv_lstore_n hx hb hd hi hl hn hlv (fun ls2 hl => (kk p l e s m args below meth c B G z r z' hV hZ hF H locs ls2 hM hS hl))
theorem os_fstore {i : Nat}  {v : UInt32} {lv' : List (Nat × Value)} (hn : i < nL) (hlv : (i, Value.float v) :: lv.filter (fun q => !(q.1 == i) && !(q.1 + 1 == i && q.2.category == 2)) = lv') (hd : osD cc pc 2 pc' (.fstore i)) (kk : osW Fi y cc nL ret hh R k n pc' lv' st F) : osW Fi y cc nL ret hh R k n pc lv (.float v :: st) F := by
  intro p l e s m args below meth c B G z r z' hV hZ hF H locs ls hM hS hl
  obtain ⟨hx, hb, hml, hown, hr, hlk, htab, hst, hnm⟩ := id B
  obtain ⟨hd, rfl⟩ := hd
  exact lv_fstore hx hb hd hl hn hlv (fun ls2 hl => (kk p l e s m args below meth c B G z r z' hV hZ hF H locs ls2 hM hS hl))
theorem os_fstore_n {i : Nat} {q : Fin 4} (hi : (q : Nat) = i) {v : UInt32} {lv' : List (Nat × Value)} (hn : i < nL) (hlv : (i, Value.float v) :: lv.filter (fun q => !(q.1 == i) && !(q.1 + 1 == i && q.2.category == 2)) = lv') (hd : osD cc pc 1 pc' (.fstore_n q)) (kk : osW Fi y cc nL ret hh R k n pc' lv' st F) : osW Fi y cc nL ret hh R k n pc lv (.float v :: st) F := by
  intro p l e s m args below meth c B G z r z' hV hZ hF H locs ls hM hS hl
  obtain ⟨hx, hb, hml, hown, hr, hlk, htab, hst, hnm⟩ := id B
  obtain ⟨hd, rfl⟩ := hd
  exact lv_fstore_n hx hb hd hi hl hn hlv (fun ls2 hl => (kk p l e s m args below meth c B G z r z' hV hZ hF H locs ls2 hM hS hl))
theorem os_dstore {i : Nat}  {v : UInt64} {lv' : List (Nat × Value)} (hn : i + 1 < nL) (hlv : (i, Value.double v) :: lv.filter (fun q => !(q.1 == i) && (!(q.1 == i + 1) && !(q.1 + 1 == i && q.2.category == 2))) = lv') (hd : osD cc pc 2 pc' (.dstore i)) (kk : osW Fi y cc nL ret hh R k n pc' lv' st F) : osW Fi y cc nL ret hh R k n pc lv (.double v :: st) F := by
  intro p l e s m args below meth c B G z r z' hV hZ hF H locs ls hM hS hl
  obtain ⟨hx, hb, hml, hown, hr, hlk, htab, hst, hnm⟩ := id B
  obtain ⟨hd, rfl⟩ := hd
  exact lv_dstore hx hb hd hl hn hlv (fun ls2 hl => (kk p l e s m args below meth c B G z r z' hV hZ hF H locs ls2 hM hS hl))
theorem os_dstore_n {i : Nat} {q : Fin 4} (hi : (q : Nat) = i) {v : UInt64} {lv' : List (Nat × Value)} (hn : i + 1 < nL) (hlv : (i, Value.double v) :: lv.filter (fun q => !(q.1 == i) && (!(q.1 == i + 1) && !(q.1 + 1 == i && q.2.category == 2))) = lv') (hd : osD cc pc 1 pc' (.dstore_n q)) (kk : osW Fi y cc nL ret hh R k n pc' lv' st F) : osW Fi y cc nL ret hh R k n pc lv (.double v :: st) F := by
  intro p l e s m args below meth c B G z r z' hV hZ hF H locs ls hM hS hl
  obtain ⟨hx, hb, hml, hown, hr, hlk, htab, hst, hnm⟩ := id B
  obtain ⟨hd, rfl⟩ := hd
  exact lv_dstore_n hx hb hd hi hl hn hlv (fun ls2 hl => (kk p l e s m args below meth c B G z r z' hV hZ hF H locs ls2 hM hS hl))
theorem os_astore {i : Nat}  {v : Nat} {lv' : List (Nat × Value)} (hn : i < nL) (hlv : (i, Value.ref v) :: lv.filter (fun q => !(q.1 == i) && !(q.1 + 1 == i && q.2.category == 2)) = lv') (hd : osD cc pc 2 pc' (.astore i)) (kk : osW Fi y cc nL ret hh R k n pc' lv' st F) : osW Fi y cc nL ret hh R k n pc lv (.ref v :: st) F := by
  intro p l e s m args below meth c B G z r z' hV hZ hF H locs ls hM hS hl
  obtain ⟨hx, hb, hml, hown, hr, hlk, htab, hst, hnm⟩ := id B
  obtain ⟨hd, rfl⟩ := hd
  exact lv_astore hx hb hd hl hn hlv (fun ls2 hl => (kk p l e s m args below meth c B G z r z' hV hZ hF H locs ls2 hM hS hl))
theorem os_astore_n {i : Nat} {q : Fin 4} (hi : (q : Nat) = i) {v : Nat} {lv' : List (Nat × Value)} (hn : i < nL) (hlv : (i, Value.ref v) :: lv.filter (fun q => !(q.1 == i) && !(q.1 + 1 == i && q.2.category == 2)) = lv') (hd : osD cc pc 1 pc' (.astore_n q)) (kk : osW Fi y cc nL ret hh R k n pc' lv' st F) : osW Fi y cc nL ret hh R k n pc lv (.ref v :: st) F := by
  intro p l e s m args below meth c B G z r z' hV hZ hF H locs ls hM hS hl
  obtain ⟨hx, hb, hml, hown, hr, hlk, htab, hst, hnm⟩ := id B
  obtain ⟨hd, rfl⟩ := hd
  exact lv_astore_n hx hb hd hi hl hn hlv (fun ls2 hl => (kk p l e s m args below meth c B G z r z' hV hZ hF H locs ls2 hM hS hl))
theorem os_iinc {i : Nat} {d : Int} {x v : Int32} {lv' : List (Nat × Value)} (j : Nat) (hj : lv[j]? = some (i, .int x)) (hc : Int32.ofInt d = v) (hn : i < nL) (hlv : (i, Value.int (x + v)) :: lv.filter (fun q => !(q.1 == i) && !(q.1 + 1 == i && q.2.category == 2)) = lv') (hd : osD cc pc 3 pc' (.iinc i d)) (kk : osW Fi y cc nL ret hh R k n pc' lv' st F) : osW Fi y cc nL ret hh R k n pc lv st F := by
  intro p l e s m args below meth c B G z r z' hV hZ hF H locs ls hM hS hl
  obtain ⟨hx, hb, hml, hown, hr, hlk, htab, hst, hnm⟩ := id B
  obtain ⟨hd, rfl⟩ := hd
  exact lv_iinc hx hb hd hl hj (by rw [hc]) hn hlv (fun ls2 hl => (kk p l e s m args below meth c B G z r z' hV hZ hF H locs ls2 hM hS hl))
theorem os_iadd {x w : Int32} (hd : osD cc pc 1 pc' .iadd) (kk : osW Fi y cc nL ret hh R k n pc' lv (.int (x + w) :: st) F) : osW Fi y cc nL ret hh R k n pc lv (.int w :: .int x :: st) F := by
  intro p l e s m args below meth c B G z r z' hV hZ hF H locs ls hM hS hl
  obtain ⟨hx, hb, hml, hown, hr, hlk, htab, hst, hnm⟩ := id B
  obtain ⟨hd, rfl⟩ := hd
  exact lv_iadd hx hb hd (kk p l e s m args below meth c B G z r z' hV hZ hF H locs ls hM hS hl)
theorem os_isub {x w : Int32} (hd : osD cc pc 1 pc' .isub) (kk : osW Fi y cc nL ret hh R k n pc' lv (.int (x - w) :: st) F) : osW Fi y cc nL ret hh R k n pc lv (.int w :: .int x :: st) F := by
  intro p l e s m args below meth c B G z r z' hV hZ hF H locs ls hM hS hl
  obtain ⟨hx, hb, hml, hown, hr, hlk, htab, hst, hnm⟩ := id B
  obtain ⟨hd, rfl⟩ := hd
  exact lv_isub hx hb hd (kk p l e s m args below meth c B G z r z' hV hZ hF H locs ls hM hS hl)
theorem os_imul {x w : Int32} (hd : osD cc pc 1 pc' .imul) (kk : osW Fi y cc nL ret hh R k n pc' lv (.int (x * w) :: st) F) : osW Fi y cc nL ret hh R k n pc lv (.int w :: .int x :: st) F := by
  intro p l e s m args below meth c B G z r z' hV hZ hF H locs ls hM hS hl
  obtain ⟨hx, hb, hml, hown, hr, hlk, htab, hst, hnm⟩ := id B
  obtain ⟨hd, rfl⟩ := hd
  exact lv_imul hx hb hd (kk p l e s m args below meth c B G z r z' hV hZ hF H locs ls hM hS hl)
theorem os_iand {x w : Int32} (hd : osD cc pc 1 pc' .iand) (kk : osW Fi y cc nL ret hh R k n pc' lv (.int (x &&& w) :: st) F) : osW Fi y cc nL ret hh R k n pc lv (.int w :: .int x :: st) F := by
  intro p l e s m args below meth c B G z r z' hV hZ hF H locs ls hM hS hl
  obtain ⟨hx, hb, hml, hown, hr, hlk, htab, hst, hnm⟩ := id B
  obtain ⟨hd, rfl⟩ := hd
  exact lv_iand hx hb hd (kk p l e s m args below meth c B G z r z' hV hZ hF H locs ls hM hS hl)
theorem os_ior {x w : Int32} (hd : osD cc pc 1 pc' .ior) (kk : osW Fi y cc nL ret hh R k n pc' lv (.int (x ||| w) :: st) F) : osW Fi y cc nL ret hh R k n pc lv (.int w :: .int x :: st) F := by
  intro p l e s m args below meth c B G z r z' hV hZ hF H locs ls hM hS hl
  obtain ⟨hx, hb, hml, hown, hr, hlk, htab, hst, hnm⟩ := id B
  obtain ⟨hd, rfl⟩ := hd
  exact lv_ior hx hb hd (kk p l e s m args below meth c B G z r z' hV hZ hF H locs ls hM hS hl)
theorem os_ixor {x w : Int32} (hd : osD cc pc 1 pc' .ixor) (kk : osW Fi y cc nL ret hh R k n pc' lv (.int (x ^^^ w) :: st) F) : osW Fi y cc nL ret hh R k n pc lv (.int w :: .int x :: st) F := by
  intro p l e s m args below meth c B G z r z' hV hZ hF H locs ls hM hS hl
  obtain ⟨hx, hb, hml, hown, hr, hlk, htab, hst, hnm⟩ := id B
  obtain ⟨hd, rfl⟩ := hd
  exact lv_ixor hx hb hd (kk p l e s m args below meth c B G z r z' hV hZ hF H locs ls hM hS hl)
theorem os_ladd {x w : Int64} (hd : osD cc pc 1 pc' .ladd) (kk : osW Fi y cc nL ret hh R k n pc' lv (.long (x + w) :: st) F) : osW Fi y cc nL ret hh R k n pc lv (.long w :: .long x :: st) F := by
  intro p l e s m args below meth c B G z r z' hV hZ hF H locs ls hM hS hl
  obtain ⟨hx, hb, hml, hown, hr, hlk, htab, hst, hnm⟩ := id B
  obtain ⟨hd, rfl⟩ := hd
  exact lv_ladd hx hb hd (kk p l e s m args below meth c B G z r z' hV hZ hF H locs ls hM hS hl)
theorem os_lsub {x w : Int64} (hd : osD cc pc 1 pc' .lsub) (kk : osW Fi y cc nL ret hh R k n pc' lv (.long (x - w) :: st) F) : osW Fi y cc nL ret hh R k n pc lv (.long w :: .long x :: st) F := by
  intro p l e s m args below meth c B G z r z' hV hZ hF H locs ls hM hS hl
  obtain ⟨hx, hb, hml, hown, hr, hlk, htab, hst, hnm⟩ := id B
  obtain ⟨hd, rfl⟩ := hd
  exact lv_lsub hx hb hd (kk p l e s m args below meth c B G z r z' hV hZ hF H locs ls hM hS hl)
theorem os_lmul {x w : Int64} (hd : osD cc pc 1 pc' .lmul) (kk : osW Fi y cc nL ret hh R k n pc' lv (.long (x * w) :: st) F) : osW Fi y cc nL ret hh R k n pc lv (.long w :: .long x :: st) F := by
  intro p l e s m args below meth c B G z r z' hV hZ hF H locs ls hM hS hl
  obtain ⟨hx, hb, hml, hown, hr, hlk, htab, hst, hnm⟩ := id B
  obtain ⟨hd, rfl⟩ := hd
  exact lv_lmul hx hb hd (kk p l e s m args below meth c B G z r z' hV hZ hF H locs ls hM hS hl)
theorem os_land {x w : Int64} (hd : osD cc pc 1 pc' .land) (kk : osW Fi y cc nL ret hh R k n pc' lv (.long (x &&& w) :: st) F) : osW Fi y cc nL ret hh R k n pc lv (.long w :: .long x :: st) F := by
  intro p l e s m args below meth c B G z r z' hV hZ hF H locs ls hM hS hl
  obtain ⟨hx, hb, hml, hown, hr, hlk, htab, hst, hnm⟩ := id B
  obtain ⟨hd, rfl⟩ := hd
  exact lv_land hx hb hd (kk p l e s m args below meth c B G z r z' hV hZ hF H locs ls hM hS hl)
theorem os_lor {x w : Int64} (hd : osD cc pc 1 pc' .lor) (kk : osW Fi y cc nL ret hh R k n pc' lv (.long (x ||| w) :: st) F) : osW Fi y cc nL ret hh R k n pc lv (.long w :: .long x :: st) F := by
  intro p l e s m args below meth c B G z r z' hV hZ hF H locs ls hM hS hl
  obtain ⟨hx, hb, hml, hown, hr, hlk, htab, hst, hnm⟩ := id B
  obtain ⟨hd, rfl⟩ := hd
  exact lv_lor hx hb hd (kk p l e s m args below meth c B G z r z' hV hZ hF H locs ls hM hS hl)
theorem os_lxor {x w : Int64} (hd : osD cc pc 1 pc' .lxor) (kk : osW Fi y cc nL ret hh R k n pc' lv (.long (x ^^^ w) :: st) F) : osW Fi y cc nL ret hh R k n pc lv (.long w :: .long x :: st) F := by
  intro p l e s m args below meth c B G z r z' hV hZ hF H locs ls hM hS hl
  obtain ⟨hx, hb, hml, hown, hr, hlk, htab, hst, hnm⟩ := id B
  obtain ⟨hd, rfl⟩ := hd
  exact lv_lxor hx hb hd (kk p l e s m args below meth c B G z r z' hV hZ hF H locs ls hM hS hl)
theorem os_i2l {x : Int32} (hd : osD cc pc 1 pc' .i2l) (kk : osW Fi y cc nL ret hh R k n pc' lv (.long x.toInt64 :: st) F) : osW Fi y cc nL ret hh R k n pc lv (.int x :: st) F := by
  intro p l e s m args below meth c B G z r z' hV hZ hF H locs ls hM hS hl
  obtain ⟨hx, hb, hml, hown, hr, hlk, htab, hst, hnm⟩ := id B
  obtain ⟨hd, rfl⟩ := hd
  exact lv_i2l hx hb hd rfl (kk p l e s m args below meth c B G z r z' hV hZ hF H locs ls hM hS hl)
theorem os_l2i {x : Int64} (hd : osD cc pc 1 pc' .l2i) (kk : osW Fi y cc nL ret hh R k n pc' lv (.int x.toInt32 :: st) F) : osW Fi y cc nL ret hh R k n pc lv (.long x :: st) F := by
  intro p l e s m args below meth c B G z r z' hV hZ hF H locs ls hM hS hl
  obtain ⟨hx, hb, hml, hown, hr, hlk, htab, hst, hnm⟩ := id B
  obtain ⟨hd, rfl⟩ := hd
  exact lv_l2i hx hb hd rfl (kk p l e s m args below meth c B G z r z' hV hZ hF H locs ls hM hS hl)
theorem os_i2b {x : Int32} (hd : osD cc pc 1 pc' .i2b) (kk : osW Fi y cc nL ret hh R k n pc' lv (.int x.toInt8.toInt32 :: st) F) : osW Fi y cc nL ret hh R k n pc lv (.int x :: st) F := by
  intro p l e s m args below meth c B G z r z' hV hZ hF H locs ls hM hS hl
  obtain ⟨hx, hb, hml, hown, hr, hlk, htab, hst, hnm⟩ := id B
  obtain ⟨hd, rfl⟩ := hd
  exact lv_i2b hx hb hd rfl (kk p l e s m args below meth c B G z r z' hV hZ hF H locs ls hM hS hl)
theorem os_i2f {x : Int32} (hd : osD cc pc 1 pc' .i2f) (kk : osW Fi y cc nL ret hh R k n pc' lv (.float (FP.i2f x) :: st) F) : osW Fi y cc nL ret hh R k n pc lv (.int x :: st) F := by
  intro p l e s m args below meth c B G z r z' hV hZ hF H locs ls hM hS hl
  obtain ⟨hx, hb, hml, hown, hr, hlk, htab, hst, hnm⟩ := id B
  obtain ⟨hd, rfl⟩ := hd
  exact lv_i2f hx hb hd (kk p l e s m args below meth c B G z r z' hV hZ hF H locs ls hM hS hl)
theorem os_i2d {x : Int32} (hd : osD cc pc 1 pc' .i2d) (kk : osW Fi y cc nL ret hh R k n pc' lv (.double (FP.i2d x) :: st) F) : osW Fi y cc nL ret hh R k n pc lv (.int x :: st) F := by
  intro p l e s m args below meth c B G z r z' hV hZ hF H locs ls hM hS hl
  obtain ⟨hx, hb, hml, hown, hr, hlk, htab, hst, hnm⟩ := id B
  obtain ⟨hd, rfl⟩ := hd
  exact lv_i2d hx hb hd (kk p l e s m args below meth c B G z r z' hV hZ hF H locs ls hM hS hl)
theorem os_f2i {x : UInt32} (hd : osD cc pc 1 pc' .f2i) (kk : osW Fi y cc nL ret hh R k n pc' lv (.int (FP.f2i x) :: st) F) : osW Fi y cc nL ret hh R k n pc lv (.float x :: st) F := by
  intro p l e s m args below meth c B G z r z' hV hZ hF H locs ls hM hS hl
  obtain ⟨hx, hb, hml, hown, hr, hlk, htab, hst, hnm⟩ := id B
  obtain ⟨hd, rfl⟩ := hd
  exact lv_f2i hx hb hd (kk p l e s m args below meth c B G z r z' hV hZ hF H locs ls hM hS hl)
theorem os_d2l {x : UInt64} (hd : osD cc pc 1 pc' .d2l) (kk : osW Fi y cc nL ret hh R k n pc' lv (.long (FP.d2l x) :: st) F) : osW Fi y cc nL ret hh R k n pc lv (.double x :: st) F := by
  intro p l e s m args below meth c B G z r z' hV hZ hF H locs ls hM hS hl
  obtain ⟨hx, hb, hml, hown, hr, hlk, htab, hst, hnm⟩ := id B
  obtain ⟨hd, rfl⟩ := hd
  exact lv_d2l hx hb hd (kk p l e s m args below meth c B G z r z' hV hZ hF H locs ls hM hS hl)
/-- the shifts, under names of their own -/
def osshl (x w : Int32) : Int32 := x <<< (w &&& 31)
def osshr (x w : Int32) : Int32 := x >>> (w &&& 31)
def osushr (x w : Int32) : Int32 := (x.toUInt32 >>> (w.toUInt32 &&& Int32.toUInt32 31)).toInt32
def oslshl (x : Int64) (w : Int32) : Int64 := x <<< (w.toInt64 &&& 63)
def oslshr (x : Int64) (w : Int32) : Int64 := x >>> (w.toInt64 &&& 63)
theorem os_ishl {x w : Int32} (hd : osD cc pc 1 pc' .ishl) (kk : osW Fi y cc nL ret hh R k n pc' lv (.int (osshl x w) :: st) F) : osW Fi y cc nL ret hh R k n pc lv (.int w :: .int x :: st) F := by
  intro p l e s m args below meth c B G z r z' hV hZ hF H locs ls hM hS hl
  obtain ⟨hx, hb, hml, hown, hr, hlk, htab, hst, hnm⟩ := id B
  obtain ⟨hd, rfl⟩ := hd
  exact lv_ishl hx hb hd (kk p l e s m args below meth c B G z r z' hV hZ hF H locs ls hM hS hl)
theorem os_ishr {x w : Int32} (hd : osD cc pc 1 pc' .ishr) (kk : osW Fi y cc nL ret hh R k n pc' lv (.int (osshr x w) :: st) F) : osW Fi y cc nL ret hh R k n pc lv (.int w :: .int x :: st) F := by
  intro p l e s m args below meth c B G z r z' hV hZ hF H locs ls hM hS hl
  obtain ⟨hx, hb, hml, hown, hr, hlk, htab, hst, hnm⟩ := id B
  obtain ⟨hd, rfl⟩ := hd
  exact lv_ishr hx hb hd (kk p l e s m args below meth c B G z r z' hV hZ hF H locs ls hM hS hl)
theorem os_iushr {x w : Int32} (hd : osD cc pc 1 pc' .iushr) (kk : osW Fi y cc nL ret hh R k n pc' lv (.int (osushr x w) :: st) F) : osW Fi y cc nL ret hh R k n pc lv (.int w :: .int x :: st) F := by
  intro p l e s m args below meth c B G z r z' hV hZ hF H locs ls hM hS hl
  obtain ⟨hx, hb, hml, hown, hr, hlk, htab, hst, hnm⟩ := id B
  obtain ⟨hd, rfl⟩ := hd
  exact lv_iushr hx hb hd rfl (kk p l e s m args below meth c B G z r z' hV hZ hF H locs ls hM hS hl)
theorem os_lshl {x : Int64} {w : Int32} (hd : osD cc pc 1 pc' .lshl) (kk : osW Fi y cc nL ret hh R k n pc' lv (.long (oslshl x w) :: st) F) : osW Fi y cc nL ret hh R k n pc lv (.int w :: .long x :: st) F := by
  intro p l e s m args below meth c B G z r z' hV hZ hF H locs ls hM hS hl
  obtain ⟨hx, hb, hml, hown, hr, hlk, htab, hst, hnm⟩ := id B
  obtain ⟨hd, rfl⟩ := hd
  exact lv_lshl hx hb hd rfl (kk p l e s m args below meth c B G z r z' hV hZ hF H locs ls hM hS hl)
theorem os_lshr {x : Int64} {w : Int32} (hd : osD cc pc 1 pc' .lshr) (kk : osW Fi y cc nL ret hh R k n pc' lv (.long (oslshr x w) :: st) F) : osW Fi y cc nL ret hh R k n pc lv (.int w :: .long x :: st) F := by
  intro p l e s m args below meth c B G z r z' hV hZ hF H locs ls hM hS hl
  obtain ⟨hx, hb, hml, hown, hr, hlk, htab, hst, hnm⟩ := id B
  obtain ⟨hd, rfl⟩ := hd
  exact lv_lshr hx hb hd rfl (kk p l e s m args below meth c B G z r z' hV hZ hF H locs ls hM hS hl)
theorem os_lcmp {x w : Int64} (hd : osD cc pc 1 pc' .lcmp) (kk : osW Fi y cc nL ret hh R k n pc' lv (.int (lg_cmp x w) :: st) F) : osW Fi y cc nL ret hh R k n pc lv (.long w :: .long x :: st) F := by
  intro p l e s m args below meth c B G z r z' hV hZ hF H locs ls hM hS hl
  obtain ⟨hx, hb, hml, hown, hr, hlk, htab, hst, hnm⟩ := id B
  obtain ⟨hd, rfl⟩ := hd
  exact W.lcmp hx hb hd (kk p l e s m args below meth c B G z r z' hV hZ hF H locs ls hM hS hl)
theorem os_fcmp {x w : UInt32} {op : CmpOp} (hd : osD cc pc 1 pc' (.fcmp op)) (kk : osW Fi y cc nL ret hh R k n pc' lv (.int (Op.cmpValue (FP.fcmp x w) op) :: st) F) : osW Fi y cc nL ret hh R k n pc lv (.float w :: .float x :: st) F := by
  intro p l e s m args below meth c B G z r z' hV hZ hF H locs ls hM hS hl
  obtain ⟨hx, hb, hml, hown, hr, hlk, htab, hst, hnm⟩ := id B
  obtain ⟨hd, rfl⟩ := hd
  exact lv_fcmp hx hb hd (kk p l e s m args below meth c B G z r z' hV hZ hF H locs ls hM hS hl)
theorem os_dcmp {x w : UInt64} {op : CmpOp} (hd : osD cc pc 1 pc' (.dcmp op)) (kk : osW Fi y cc nL ret hh R k n pc' lv (.int (Op.cmpValue (FP.dcmp x w) op) :: st) F) : osW Fi y cc nL ret hh R k n pc lv (.double w :: .double x :: st) F := by
  intro p l e s m args below meth c B G z r z' hV hZ hF H locs ls hM hS hl
  obtain ⟨hx, hb, hml, hown, hr, hlk, htab, hst, hnm⟩ := id B
  obtain ⟨hd, rfl⟩ := hd
  exact lv_dcmp hx hb hd (kk p l e s m args below meth c B G z r z' hV hZ hF H locs ls hM hS hl)
theorem os_fsub {x w : UInt32} (hne : vf_n32 (FP.fsub x w)) (hd : osD cc pc 1 pc' .fsub) (kk : osW Fi y cc nL ret hh R k n pc' lv (.float (FP.fsub x w) :: st) F) : osW Fi y cc nL ret hh R k n pc lv (.float w :: .float x :: st) F := by
  intro p l e s m args below meth c B G z r z' hV hZ hF H locs ls hM hS hl
  obtain ⟨hx, hb, hml, hown, hr, hlk, htab, hst, hnm⟩ := id B
  obtain ⟨hd, rfl⟩ := hd
  exact lv_fsub hx hb hd hne (kk p l e s m args below meth c B G z r z' hV hZ hF H locs ls hM hS hl)
theorem os_fmul {x w : UInt32} (hne : vf_n32 (FP.fmul x w)) (hd : osD cc pc 1 pc' .fmul) (kk : osW Fi y cc nL ret hh R k n pc' lv (.float (FP.fmul x w) :: st) F) : osW Fi y cc nL ret hh R k n pc lv (.float w :: .float x :: st) F := by
  intro p l e s m args below meth c B G z r z' hV hZ hF H locs ls hM hS hl
  obtain ⟨hx, hb, hml, hown, hr, hlk, htab, hst, hnm⟩ := id B
  obtain ⟨hd, rfl⟩ := hd
  exact lv_fmul hx hb hd hne (kk p l e s m args below meth c B G z r z' hV hZ hF H locs ls hM hS hl)
theorem os_fdiv {x w : UInt32} (hne : vf_n32 (FP.fdiv x w)) (hd : osD cc pc 1 pc' .fdiv) (kk : osW Fi y cc nL ret hh R k n pc' lv (.float (FP.fdiv x w) :: st) F) : osW Fi y cc nL ret hh R k n pc lv (.float w :: .float x :: st) F := by
  intro p l e s m args below meth c B G z r z' hV hZ hF H locs ls hM hS hl
  obtain ⟨hx, hb, hml, hown, hr, hlk, htab, hst, hnm⟩ := id B
  obtain ⟨hd, rfl⟩ := hd
  exact lv_fdiv hx hb hd hne (kk p l e s m args below meth c B G z r z' hV hZ hF H locs ls hM hS hl)
theorem os_dadd {x w : UInt64} (hne : vf_n64 (FP.dadd x w)) (hd : osD cc pc 1 pc' .dadd) (kk : osW Fi y cc nL ret hh R k n pc' lv (.double (FP.dadd x w) :: st) F) : osW Fi y cc nL ret hh R k n pc lv (.double w :: .double x :: st) F := by
  intro p l e s m args below meth c B G z r z' hV hZ hF H locs ls hM hS hl
  obtain ⟨hx, hb, hml, hown, hr, hlk, htab, hst, hnm⟩ := id B
  obtain ⟨hd, rfl⟩ := hd
  exact lv_dadd hx hb hd hne (kk p l e s m args below meth c B G z r z' hV hZ hF H locs ls hM hS hl)
theorem os_dsub {x w : UInt64} (hne : vf_n64 (FP.dsub x w)) (hd : osD cc pc 1 pc' .dsub) (kk : osW Fi y cc nL ret hh R k n pc' lv (.double (FP.dsub x w) :: st) F) : osW Fi y cc nL ret hh R k n pc lv (.double w :: .double x :: st) F := by
  intro p l e s m args below meth c B G z r z' hV hZ hF H locs ls hM hS hl
  obtain ⟨hx, hb, hml, hown, hr, hlk, htab, hst, hnm⟩ := id B
  obtain ⟨hd, rfl⟩ := hd
  exact lv_dsub hx hb hd hne (kk p l e s m args below meth c B G z r z' hV hZ hF H locs ls hM hS hl)
theorem os_dmul {x w : UInt64} (hne : vf_n64 (FP.dmul x w)) (hd : osD cc pc 1 pc' .dmul) (kk : osW Fi y cc nL ret hh R k n pc' lv (.double (FP.dmul x w) :: st) F) : osW Fi y cc nL ret hh R k n pc lv (.double w :: .double x :: st) F := by
  intro p l e s m args below meth c B G z r z' hV hZ hF H locs ls hM hS hl
  obtain ⟨hx, hb, hml, hown, hr, hlk, htab, hst, hnm⟩ := id B
  obtain ⟨hd, rfl⟩ := hd
  exact lv_dmul hx hb hd hne (kk p l e s m args below meth c B G z r z' hV hZ hF H locs ls hM hS hl)
theorem os_ddiv {x w : UInt64} (hne : vf_n64 (FP.ddiv x w)) (hd : osD cc pc 1 pc' .ddiv) (kk : osW Fi y cc nL ret hh R k n pc' lv (.double (FP.ddiv x w) :: st) F) : osW Fi y cc nL ret hh R k n pc lv (.double w :: .double x :: st) F := by
  intro p l e s m args below meth c B G z r z' hV hZ hF H locs ls hM hS hl
  obtain ⟨hx, hb, hml, hown, hr, hlk, htab, hst, hnm⟩ := id B
  obtain ⟨hd, rfl⟩ := hd
  exact lv_ddiv hx hb hd hne (kk p l e s m args below meth c B G z r z' hV hZ hF H locs ls hM hS hl)
theorem os_f2d {x : UInt32} (hne : vf_n64 (FP.f2d x)) (hd : osD cc pc 1 pc' .f2d) (kk : osW Fi y cc nL ret hh R k n pc' lv (.double (FP.f2d x) :: st) F) : osW Fi y cc nL ret hh R k n pc lv (.float x :: st) F := by
  intro p l e s m args below meth c B G z r z' hV hZ hF H locs ls hM hS hl
  obtain ⟨hx, hb, hml, hown, hr, hlk, htab, hst, hnm⟩ := id B
  obtain ⟨hd, rfl⟩ := hd
  exact lv_f2d hx hb hd hne (kk p l e s m args below meth c B G z r z' hV hZ hF H locs ls hM hS hl)
theorem os_idiv {x w : Int32} (hne : ¬ w = 0) (hd : osD cc pc 1 pc' .idiv) (kk : osW Fi y cc nL ret hh R k n pc' lv (.int (x / w) :: st) F) : osW Fi y cc nL ret hh R k n pc lv (.int w :: .int x :: st) F := by
  intro p l e s m args below meth c B G z r z' hV hZ hF H locs ls hM hS hl
  obtain ⟨hx, hb, hml, hown, hr, hlk, htab, hst, hnm⟩ := id B
  obtain ⟨hd, rfl⟩ := hd
  exact lv_idiv hx hb hd hne (kk p l e s m args below meth c B G z r z' hV hZ hF H locs ls hM hS hl)
theorem os_irem {x w : Int32} (hne : ¬ w = 0) (hd : osD cc pc 1 pc' .irem) (kk : osW Fi y cc nL ret hh R k n pc' lv (.int (x - x / w * w) :: st) F) : osW Fi y cc nL ret hh R k n pc lv (.int w :: .int x :: st) F := by
  intro p l e s m args below meth c B G z r z' hV hZ hF H locs ls hM hS hl
  obtain ⟨hx, hb, hml, hown, hr, hlk, htab, hst, hnm⟩ := id B
  obtain ⟨hd, rfl⟩ := hd
  exact lv_irem hx hb hd hne (kk p l e s m args below meth c B G z r z' hV hZ hF H locs ls hM hS hl)
theorem os_dup {v : Value} (hc : v.category = 1) (hd : osD cc pc 1 pc' .dup) (kk : osW Fi y cc nL ret hh R k n pc' lv (v :: v :: st) F) : osW Fi y cc nL ret hh R k n pc lv (v :: st) F := by
  intro p l e s m args below meth c B G z r z' hV hZ hF H locs ls hM hS hl
  obtain ⟨hx, hb, hml, hown, hr, hlk, htab, hst, hnm⟩ := id B
  obtain ⟨hd, rfl⟩ := hd
  exact lv_dup hx hb hd hc (kk p l e s m args below meth c B G z r z' hV hZ hF H locs ls hM hS hl)
theorem os_pop {v : Value} (hc : v.category = 1) (hd : osD cc pc 1 pc' .pop) (kk : osW Fi y cc nL ret hh R k n pc' lv st F) : osW Fi y cc nL ret hh R k n pc lv (v :: st) F := by
  intro p l e s m args below meth c B G z r z' hV hZ hF H locs ls hM hS hl
  obtain ⟨hx, hb, hml, hown, hr, hlk, htab, hst, hnm⟩ := id B
  obtain ⟨hd, rfl⟩ := hd
  exact lv_pop hx hb hd hc (kk p l e s m args below meth c B G z r z' hV hZ hF H locs ls hM hS hl)
theorem os_dup2_11 {v w : Value} (hv : v.category = 1) (hw : w.category = 1) (hd : osD cc pc 1 pc' .dup2) (kk : osW Fi y cc nL ret hh R k n pc' lv (v :: w :: v :: w :: st) F) : osW Fi y cc nL ret hh R k n pc lv (v :: w :: st) F := by
  intro p l e s m args below meth c B G z r z' hV hZ hF H locs ls hM hS hl
  obtain ⟨hx, hb, hml, hown, hr, hlk, htab, hst, hnm⟩ := id B
  obtain ⟨hd, rfl⟩ := hd
  exact lv_dup2_11 hx hb hd hv hw (kk p l e s m args below meth c B G z r z' hV hZ hF H locs ls hM hS hl)
theorem os_goto {off : Int} {tgt : Nat} (ht : (pc : Int) + off = (tgt : Int)) (hd : osD cc pc 3 pc' (.goto off)) (kk : osW Fi y cc nL ret hh R k n tgt lv st F) : osW Fi y cc nL ret hh R k n pc lv st F := by
  intro p l e s m args below meth c B G z r z' hV hZ hF H locs ls hM hS hl
  obtain ⟨hx, hb, hml, hown, hr, hlk, htab, hst, hnm⟩ := id B
  exact lv_goto hx hb hd.1 ht (kk p l e s m args below meth c B G z r z' hV hZ hF H locs ls hM hS hl)
theorem os_if_eq {x : Int32} {off : Int} {tgt : Nat} {F1 F2 : osM ρ} (ht : (pc : Int) + off = (tgt : Int)) (hd : osD cc pc 3 pc' (.ifCond .eq off)) (k1 : osW Fi y cc nL ret hh R k n tgt lv st F1) (k2 : osW Fi y cc nL ret hh R k n pc' lv st F2) : osW Fi y cc nL ret hh R k n pc lv (.int x :: st) (osite (x = 0) F1 F2) := by
  intro p l e s m args below meth c B G z r z' hV hZ hF H locs ls hM hS hl
  obtain ⟨hx, hb, hml, hown, hr, hlk, htab, hst, hnm⟩ := id B
  obtain ⟨hd, rfl⟩ := hd
  have hq := osite_some hF
  exact lv_if_eq hx hb hd ht (fun h => (k1 p l e s m args below meth c B G z r z' hV hZ (hq.1 h) H locs ls hM hS hl)) (fun h => (k2 p l e s m args below meth c B G z r z' hV hZ (hq.2 h) H locs ls hM hS hl))
theorem os_icmp_eq {x w : Int32} {off : Int} {tgt : Nat} {F1 F2 : osM ρ} (ht : (pc : Int) + off = (tgt : Int)) (hd : osD cc pc 3 pc' (.if_icmp .eq off)) (k1 : osW Fi y cc nL ret hh R k n tgt lv st F1) (k2 : osW Fi y cc nL ret hh R k n pc' lv st F2) : osW Fi y cc nL ret hh R k n pc lv (.int w :: .int x :: st) (osite (x = w) F1 F2) := by
  intro p l e s m args below meth c B G z r z' hV hZ hF H locs ls hM hS hl
  obtain ⟨hx, hb, hml, hown, hr, hlk, htab, hst, hnm⟩ := id B
  obtain ⟨hd, rfl⟩ := hd
  have hq := osite_some hF
  exact lv_icmp_eq hx hb hd ht (fun h => (k1 p l e s m args below meth c B G z r z' hV hZ (hq.1 h) H locs ls hM hS hl)) (fun h => (k2 p l e s m args below meth c B G z r z' hV hZ (hq.2 h) H locs ls hM hS hl))
theorem os_if_ne {x : Int32} {off : Int} {tgt : Nat} {F1 F2 : osM ρ} (ht : (pc : Int) + off = (tgt : Int)) (hd : osD cc pc 3 pc' (.ifCond .ne off)) (k1 : osW Fi y cc nL ret hh R k n tgt lv st F1) (k2 : osW Fi y cc nL ret hh R k n pc' lv st F2) : osW Fi y cc nL ret hh R k n pc lv (.int x :: st) (osite (x = 0) F2 F1) := by
  intro p l e s m args below meth c B G z r z' hV hZ hF H locs ls hM hS hl
  obtain ⟨hx, hb, hml, hown, hr, hlk, htab, hst, hnm⟩ := id B
  obtain ⟨hd, rfl⟩ := hd
  have hq := osite_some hF
  exact lv_if_ne hx hb hd ht (fun h => (k1 p l e s m args below meth c B G z r z' hV hZ (hq.2 h) H locs ls hM hS hl)) (fun h => (k2 p l e s m args below meth c B G z r z' hV hZ (hq.1 h) H locs ls hM hS hl))
theorem os_icmp_ne {x w : Int32} {off : Int} {tgt : Nat} {F1 F2 : osM ρ} (ht : (pc : Int) + off = (tgt : Int)) (hd : osD cc pc 3 pc' (.if_icmp .ne off)) (k1 : osW Fi y cc nL ret hh R k n tgt lv st F1) (k2 : osW Fi y cc nL ret hh R k n pc' lv st F2) : osW Fi y cc nL ret hh R k n pc lv (.int w :: .int x :: st) (osite (x = w) F2 F1) := by
  intro p l e s m args below meth c B G z r z' hV hZ hF H locs ls hM hS hl
  obtain ⟨hx, hb, hml, hown, hr, hlk, htab, hst, hnm⟩ := id B
  obtain ⟨hd, rfl⟩ := hd
  have hq := osite_some hF
  exact lv_icmp_ne hx hb hd ht (fun h => (k1 p l e s m args below meth c B G z r z' hV hZ (hq.2 h) H locs ls hM hS hl)) (fun h => (k2 p l e s m args below meth c B G z r z' hV hZ (hq.1 h) H locs ls hM hS hl))
theorem os_if_lt {x : Int32} {off : Int} {tgt : Nat} {F1 F2 : osM ρ} (ht : (pc : Int) + off = (tgt : Int)) (hd : osD cc pc 3 pc' (.ifCond .lt off)) (k1 : osW Fi y cc nL ret hh R k n tgt lv st F1) (k2 : osW Fi y cc nL ret hh R k n pc' lv st F2) : osW Fi y cc nL ret hh R k n pc lv (.int x :: st) (osite (x < 0) F1 F2) := by
  intro p l e s m args below meth c B G z r z' hV hZ hF H locs ls hM hS hl
  obtain ⟨hx, hb, hml, hown, hr, hlk, htab, hst, hnm⟩ := id B
  obtain ⟨hd, rfl⟩ := hd
  have hq := osite_some hF
  exact lv_if_lt hx hb hd ht (fun h => (k1 p l e s m args below meth c B G z r z' hV hZ (hq.1 h) H locs ls hM hS hl)) (fun h => (k2 p l e s m args below meth c B G z r z' hV hZ (hq.2 h) H locs ls hM hS hl))
theorem os_icmp_lt {x w : Int32} {off : Int} {tgt : Nat} {F1 F2 : osM ρ} (ht : (pc : Int) + off = (tgt : Int)) (hd : osD cc pc 3 pc' (.if_icmp .lt off)) (k1 : osW Fi y cc nL ret hh R k n tgt lv st F1) (k2 : osW Fi y cc nL ret hh R k n pc' lv st F2) : osW Fi y cc nL ret hh R k n pc lv (.int w :: .int x :: st) (osite (x < w) F1 F2) := by
  intro p l e s m args below meth c B G z r z' hV hZ hF H locs ls hM hS hl
  obtain ⟨hx, hb, hml, hown, hr, hlk, htab, hst, hnm⟩ := id B
  obtain ⟨hd, rfl⟩ := hd
  have hq := osite_some hF
  exact lv_icmp_lt hx hb hd ht (fun h => (k1 p l e s m args below meth c B G z r z' hV hZ (hq.1 h) H locs ls hM hS hl)) (fun h => (k2 p l e s m args below meth c B G z r z' hV hZ (hq.2 h) H locs ls hM hS hl))
theorem os_if_ge {x : Int32} {off : Int} {tgt : Nat} {F1 F2 : osM ρ} (ht : (pc : Int) + off = (tgt : Int)) (hd : osD cc pc 3 pc' (.ifCond .ge off)) (k1 : osW Fi y cc nL ret hh R k n tgt lv st F1) (k2 : osW Fi y cc nL ret hh R k n pc' lv st F2) : osW Fi y cc nL ret hh R k n pc lv (.int x :: st) (osite (0 ≤ x) F1 F2) := by
  intro p l e s m args below meth c B G z r z' hV hZ hF H locs ls hM hS hl
  obtain ⟨hx, hb, hml, hown, hr, hlk, htab, hst, hnm⟩ := id B
  obtain ⟨hd, rfl⟩ := hd
  have hq := osite_some hF
  exact lv_if_ge hx hb hd ht (fun h => (k1 p l e s m args below meth c B G z r z' hV hZ (hq.1 h) H locs ls hM hS hl)) (fun h => (k2 p l e s m args below meth c B G z r z' hV hZ (hq.2 h) H locs ls hM hS hl))
theorem os_icmp_ge {x w : Int32} {off : Int} {tgt : Nat} {F1 F2 : osM ρ} (ht : (pc : Int) + off = (tgt : Int)) (hd : osD cc pc 3 pc' (.if_icmp .ge off)) (k1 : osW Fi y cc nL ret hh R k n tgt lv st F1) (k2 : osW Fi y cc nL ret hh R k n pc' lv st F2) : osW Fi y cc nL ret hh R k n pc lv (.int w :: .int x :: st) (osite (w ≤ x) F1 F2) := by
  intro p l e s m args below meth c B G z r z' hV hZ hF H locs ls hM hS hl
  obtain ⟨hx, hb, hml, hown, hr, hlk, htab, hst, hnm⟩ := id B
  obtain ⟨hd, rfl⟩ := hd
  have hq := osite_some hF
  exact lv_icmp_ge hx hb hd ht (fun h => (k1 p l e s m args below meth c B G z r z' hV hZ (hq.1 h) H locs ls hM hS hl)) (fun h => (k2 p l e s m args below meth c B G z r z' hV hZ (hq.2 h) H locs ls hM hS hl))
theorem os_if_gt {x : Int32} {off : Int} {tgt : Nat} {F1 F2 : osM ρ} (ht : (pc : Int) + off = (tgt : Int)) (hd : osD cc pc 3 pc' (.ifCond .gt off)) (k1 : osW Fi y cc nL ret hh R k n tgt lv st F1) (k2 : osW Fi y cc nL ret hh R k n pc' lv st F2) : osW Fi y cc nL ret hh R k n pc lv (.int x :: st) (osite (0 < x) F1 F2) := by
  intro p l e s m args below meth c B G z r z' hV hZ hF H locs ls hM hS hl
  obtain ⟨hx, hb, hml, hown, hr, hlk, htab, hst, hnm⟩ := id B
  obtain ⟨hd, rfl⟩ := hd
  have hq := osite_some hF
  exact lv_if_gt hx hb hd ht (fun h => (k1 p l e s m args below meth c B G z r z' hV hZ (hq.1 h) H locs ls hM hS hl)) (fun h => (k2 p l e s m args below meth c B G z r z' hV hZ (hq.2 h) H locs ls hM hS hl))
theorem os_icmp_gt {x w : Int32} {off : Int} {tgt : Nat} {F1 F2 : osM ρ} (ht : (pc : Int) + off = (tgt : Int)) (hd : osD cc pc 3 pc' (.if_icmp .gt off)) (k1 : osW Fi y cc nL ret hh R k n tgt lv st F1) (k2 : osW Fi y cc nL ret hh R k n pc' lv st F2) : osW Fi y cc nL ret hh R k n pc lv (.int w :: .int x :: st) (osite (w < x) F1 F2) := by
  intro p l e s m args below meth c B G z r z' hV hZ hF H locs ls hM hS hl
  obtain ⟨hx, hb, hml, hown, hr, hlk, htab, hst, hnm⟩ := id B
  obtain ⟨hd, rfl⟩ := hd
  have hq := osite_some hF
  exact lv_icmp_gt hx hb hd ht (fun h => (k1 p l e s m args below meth c B G z r z' hV hZ (hq.1 h) H locs ls hM hS hl)) (fun h => (k2 p l e s m args below meth c B G z r z' hV hZ (hq.2 h) H locs ls hM hS hl))
theorem os_if_le {x : Int32} {off : Int} {tgt : Nat} {F1 F2 : osM ρ} (ht : (pc : Int) + off = (tgt : Int)) (hd : osD cc pc 3 pc' (.ifCond .le off)) (k1 : osW Fi y cc nL ret hh R k n tgt lv st F1) (k2 : osW Fi y cc nL ret hh R k n pc' lv st F2) : osW Fi y cc nL ret hh R k n pc lv (.int x :: st) (osite (x ≤ 0) F1 F2) := by
  intro p l e s m args below meth c B G z r z' hV hZ hF H locs ls hM hS hl
  obtain ⟨hx, hb, hml, hown, hr, hlk, htab, hst, hnm⟩ := id B
  obtain ⟨hd, rfl⟩ := hd
  have hq := osite_some hF
  exact lv_if_le hx hb hd ht (fun h => (k1 p l e s m args below meth c B G z r z' hV hZ (hq.1 h) H locs ls hM hS hl)) (fun h => (k2 p l e s m args below meth c B G z r z' hV hZ (hq.2 h) H locs ls hM hS hl))
theorem os_icmp_le {x w : Int32} {off : Int} {tgt : Nat} {F1 F2 : osM ρ} (ht : (pc : Int) + off = (tgt : Int)) (hd : osD cc pc 3 pc' (.if_icmp .le off)) (k1 : osW Fi y cc nL ret hh R k n tgt lv st F1) (k2 : osW Fi y cc nL ret hh R k n pc' lv st F2) : osW Fi y cc nL ret hh R k n pc lv (.int w :: .int x :: st) (osite (x ≤ w) F1 F2) := by
  intro p l e s m args below meth c B G z r z' hV hZ hF H locs ls hM hS hl
  obtain ⟨hx, hb, hml, hown, hr, hlk, htab, hst, hnm⟩ := id B
  obtain ⟨hd, rfl⟩ := hd
  have hq := osite_some hF
  exact lv_icmp_le hx hb hd ht (fun h => (k1 p l e s m args below meth c B G z r z' hV hZ (hq.1 h) H locs ls hM hS hl)) (fun h => (k2 p l e s m args below meth c B G z r z' hV hZ (hq.2 h) H locs ls hM hS hl))
end R
