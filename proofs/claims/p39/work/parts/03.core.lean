/-! The road: the law's code is read as plain functions over a plain memory; each function is tied to its bytecode by the judgement osW, row by row (03 to 05); the functions are then compared. -/
/-- a cell as the functions see it: an array (its kind's number, its length, its places) or an object (its class' number in vwCl, its fields) -/
abbrev osE : Type := (Nat × vp_A) ⊕ (Nat × List Value)
/-- the memory: what is known, by address; the heap's exact size where it is known -/
abbrev osS : Type := (Nat → Option osE) × Option Nat
/-- class ids and slots; the array kinds' class ids; the first address that may be written; the constants' addresses; the texts' addresses -/
abbrev osG : Type := va_G × (Nat → ClassId) × Nat × (Nat → Nat) × (Nat → Nat)
abbrev osM (α : Type) : Type := osG → osS → Option (α × osS)
def osA (G : osG) : Nat → Prop := fun q => G.2.2.1 ≤ q
def osTy : List FieldType := [.int, .byte, .int, .int, .int, .object "OrderSettler$State", .int]
def osTys (G : osG) : List (ClassId × FieldType) := [(G.2.1 0, .int), (G.2.1 1, .byte), (G.2.1 2, .int), (G.2.1 3, .int), (G.2.1 4, .int), (G.2.1 5, .object "OrderSettler$State"), (G.2.1 6, .int)]
theorem osTys_at {G : osG} {t : Nat} {ty : FieldType} (h : osTy[t]? = some ty) : (osTys G)[t]? = some (G.2.1 t, ty) := by
  match t, h with
  | 0, h => cases h; rfl
  | 1, h => cases h; rfl
  | 2, h => cases h; rfl
  | 3, h => cases h; rfl
  | 4, h => cases h; rfl
  | 5, h => cases h; rfl
  | 6, h => cases h; rfl
  | n + 7, h => simp [osTy] at h
/-- what a known cell says of the heap -/
def osAt (G : osG) (a : Nat) (e : osE) (H : Heap) : Prop := match e with
  | .inl x => H[a]? = some (vp_cell (G.2.1 x.1) x.2) ∧ x.1 < 7
  | .inr o => va_at G.1 vwCl (a, .inr o) H
def osMem (G : osG) (z : osS) (H : Heap) : Prop := (∀ a e, z.1 a = some e → osAt G a e H) ∧ ∀ k, z.2 = some k → H.size = k
/-- the words that stay true while the machine runs -/
def osOt : Cond → Bool
  | .methodLinkNest .. | .fieldLinkNest .. | .castable .. | .declares .. => true
  | w => goodWord w
theorem osOt_at {a a' : Array Value} {s U : State} {w : Cond} (hg : osOt w = true) (hW : s.WarmedH U.vm) (h : w.before a s = true) : w.before a' U = true := by
  by_cases hgw : goodWord w = true
  · exact word_at hW (good_of_word hgw) h
  · cases w with
    | methodLinkNest c i x ho => exact va_Nw.use rfl (va_Nw.warmM hW (va_Nw.of rfl h))
    | fieldLinkNest c i b n d ho => exact va_Nw.use rfl (va_Nw.warmF hW (va_Nw.of rfl h))
    | castable c t => exact va_Nw.use rfl (va_Nw.warmC hW (va_Nw.of rfl h))
    | declares x => exact va_Nw.use rfl (va_Nw.warmD hW (va_Nw.of rfl h))
    | _ => exact absurd hg hgw
/-- a private method that a subclass' objects take: said by the tables' other words -/
def osXt : List Cond := [.selects RX3 yX6_advance yX6_advance, .selects RX7 yX6_advance yX6_advance, .selects RJ4 yJ5_ensureCapacityInternal_d00df yJ5_ensureCapacityInternal_d00df, .selects RJ4 yJ5_newCapacity_0f7a4 yJ5_newCapacity_0f7a4, .selects RJ4 yJ5_putStringAt_47b60 yJ5_putStringAt_47b60, .selects RJ4 yJ5_inflateIfNeededFor_a7421 yJ5_inflateIfNeededFor_a7421]
def lw2 : List Cond := osXt ++ lw_tbl
def osX : List Cond := lw2.filter osOt
theorem osX_mem {w : Cond} (i : Nat) (h : lw2[i]? = some w) (g : osOt w = true) : w ∈ osX := List.mem_filter.mpr ⟨List.mem_of_getElem? h, g⟩
/-- the texts of the class: the pool's number and the text -/
def osTx : List (String × Nat × String) := [("OrderSettlerLaw", 46, "sea "), ("OrderSettlerLaw", 48, "coast "), ("OrderSettlerLaw", 50, "land "), ("OrderSettlerLaw", 59, " center;"), ("OrderSettlerLaw", 61, ";"), ("OrderSettlerLaw", 73, "border "), ("OrderSettlerLaw", 75, " "), ("OrderSettlerLaw", 67, "power "), ("OrderSettlerLaw", 77, "fleet "), ("OrderSettlerLaw", 79, "army "), ("OrderSettlerLaw", 81, " support "), ("OrderSettlerLaw", 83, " to "), ("OrderSettlerLaw", 85, " convoy "), ("OrderSettlerLaw", 87, " hold;"), ("OrderSettlerLaw", 168, "build "), ("OrderSettlerLaw", 170, " army;"), ("OrderSettlerLaw", 172, "remove "), ("OrderSettler", 80, "the input buffer is full"), ("OrderSettler", 101, "the map has an error"), ("OrderSettler", 118, "the text has an error"), ("OrderSettler", 264, "no dislodged unit is there"), ("OrderSettler", 280, "nothing can be undone"), ("OrderSettler", 357, "the length is out of range"), ("OrderSettler", 359, "there is no such report"), ("OrderSettler", 364, "there is no such area"), ("OrderSettler", 366, "there is no such power"), ("OrderSettler", 368, "there is no unit at such an area"), ("OrderSettler", 370, "the phase is another one"), ("OrderSettler", 376, "nothing was settled")]
/-- what the tables say, of a state -/
def osV (G : osG) (U : State) : Prop := (∀ w ∈ osX, w.before #[] U = true) ∧ va_K G.1 vwCl (osTys G) U ∧ (∀ (j : Nat) (q : String × Nat × String), osTx[j]? = some q → vk_R q.1 q.2.1 q.2.2 (G.2.2.2.2 j) U)
def osPk : List Int64 := [394692, 3638900, 19617, 106385586, 83431602, 51641, 6689972, 17292466, 277892, 655, 21123055188, 116873721, 4616947140, 2794884, 609664709]
def osWd : List String := ["LAND", "COAST", "SEA", "CENTER", "BORDER", "ARMY", "FLEET", "POWER", "HOLD", "TO", "SUPPORT", "CONVOY", "DISBAND", "BUILD", "REMOVE"]
/-- a word's constant: where it lies and what it holds -/
def osWc (G : osG) (a : Nat) (v : Int64) (U : State) (H : Heap) : Prop := ∃ (c : ClassId) (k : Class) (i : Nat) (f : Field) (cell : Cell), U.fieldFound? "OrderSettler$Word" "packed" "J" = some (c, k, i, f) ∧ f.isStatic = false ∧ H[a]? = some cell ∧ cell.vm ≠ .unknown ∧ cell.slots[f.slot]? = some (.long v) ∧ ¬ osA G a
/-- the exceptions that are thrown -/
def osEx : List String := ["java/lang/IllegalStateException", "java/lang/IllegalArgumentException", "java/util/NoSuchElementException", "java/lang/IndexOutOfBoundsException"]
/-- none of them is another -/
def osNx (_ : State) : Prop := True
/-- the texts' bytes -/
def osTs : List (List Int32) := [[115, 101, 97, 32], [99, 111, 97, 115, 116, 32], [108, 97, 110, 100, 32], [32, 99, 101, 110, 116, 101, 114, 59], [59], [98, 111, 114, 100, 101, 114, 32], [32], [112, 111, 119, 101, 114, 32], [102, 108, 101, 101, 116, 32], [97, 114, 109, 121, 32], [32, 115, 117, 112, 112, 111, 114, 116, 32], [32, 116, 111, 32], [32, 99, 111, 110, 118, 111, 121, 32], [32, 104, 111, 108, 100, 59], [98, 117, 105, 108, 100, 32], [32, 97, 114, 109, 121, 59], [114, 101, 109, 111, 118, 101, 32]]
/-- constant arrays and texts: the words' array, a text's parts (its bytes lie at the place 100 + j), two statics of the JDK's -/
def osSt (G : osG) (U : State) (H : Heap) : Prop := va_T (.object "OrderSettler$Word") (G.2.2.2.1 15) 15 (fun j => .ref (G.2.2.2.1 j)) (osA G) U H ∧ (∀ (j : Nat) (bs : List Int32), osTs[j]? = some bs → va_O "java/lang/String" (G.2.2.2.2 j) (osA G) U H ∧ va_OF "java/lang/String" "coder" "B" (.int 0) (G.2.2.2.2 j) (osA G) U H ∧ va_OF "java/lang/String" "value" "[B" (.ref (G.2.2.2.2 (100 + j))) (G.2.2.2.2 j) (osA G) U H ∧ va_T .byte (G.2.2.2.2 (100 + j)) bs.length (fun i => .int (bs.getD i 0)) (osA G) U H) ∧
  va_Z "java/lang/String" "COMPACT_STRINGS" "Z" (.int 1) (osA G) U H ∧ va_Zq "jdk/internal/util/Preconditions" "SIOOBE_FORMATTER" "Ljava/util/function/BiFunction;" (osA G) U H ∧ osNx U ∧ va_AO "OrderSettler$State" U
theorem osSt.moved {G : osG} {u U : State} {H : Heap} (hvm : u.vm.Alike U.vm) (h : osSt G u H) : osSt G U H := ⟨va_T.moved hvm h.1, fun j bs hj => ⟨va_O.moved hvm (h.2.1 j bs hj).1, va_OF.moved hvm (h.2.1 j bs hj).2.1, va_OF.moved hvm (h.2.1 j bs hj).2.2.1, va_T.moved hvm (h.2.1 j bs hj).2.2.2⟩, va_Z.moved hvm h.2.2.1, va_Zq.moved hvm h.2.2.2.1, trivial, va_AO.moved hvm h.2.2.2.2.2⟩
theorem osSt.kept {G : osG} {U : State} {H H1 : Heap} (h : osSt G U H) (hq : ∀ a : Nat, a < H.size → ¬ osA G a → H1[a]? = H[a]?) : osSt G U H1 := ⟨h.1.kept hq, fun j bs hj => ⟨(h.2.1 j bs hj).1.kept hq, (h.2.1 j bs hj).2.1.kept hq, (h.2.1 j bs hj).2.2.1.kept hq, (h.2.1 j bs hj).2.2.2.kept hq⟩, h.2.2.1.kept hq, h.2.2.2.1.kept hq, h.2.2.2.2⟩
def osZ (G : osG) (U : State) (H : Heap) : Prop := (∀ (j : Nat) (n : String), osWd[j]? = some n → va_Z "OrderSettler$Word" n "LOrderSettler$Word;" (.ref (G.2.2.2.1 j)) (osA G) U H) ∧ va_Z "OrderSettler$Word" "ALL" "[LOrderSettler$Word;" (.ref (G.2.2.2.1 15)) (osA G) U H ∧ (∀ (j : Nat) (v : Int64), osPk[j]? = some v → osWc G (G.2.2.2.1 j) v U H) ∧
  vx_Zq Bundle.tN "UNASSIGNED_STACK" Bundle.steD (osA G) U H ∧ vx_Zq Bundle.tN "SUPPRESSED_SENTINEL" Bundle.listD (osA G) U H ∧ osSt G U H
def osR (G : osG) (z : osS) (U : State) : Prop := osV G U ∧ osZ G U U.heap ∧ osMem G z U.heap
theorem osV.moved {G : osG} {u U : State} (hW : u.WarmedH U.vm) (h : osV G u) : osV G U := ⟨fun w hw => osOt_at (List.mem_filter.mp hw).2 hW (h.1 w hw), va_K.moved hW.alike h.2.1, fun j q hq => vk_R.warm hW (h.2.2 j q hq)⟩
theorem osV.word {G : osG} {u : State} (h : osV G u) {args : Array Value} : ∀ w ∈ osX, w.before args u = true := fun w hw => osOt_at (List.mem_filter.mp hw).2 (State.WarmedH.refl u) (h.1 w hw)
theorem osWc.moved {G : osG} {a : Nat} {v : Int64} {u U : State} {H : Heap} (hvm : u.vm.Alike U.vm) (h : osWc G a v u H) : osWc G a v U H := by
  obtain ⟨c, k, i, f, cell, h1, h2⟩ := h
  obtain ⟨k', hi', -⟩ := State.fieldFound?_setVm hvm h1
  exact ⟨c, k', i, f, cell, hi', h2⟩
theorem osWc.kept {G : osG} {a : Nat} {v : Int64} {U : State} {H H1 : Heap} (h : osWc G a v U H) (hq : ∀ a : Nat, a < H.size → ¬ osA G a → H1[a]? = H[a]?) : osWc G a v U H1 := by
  obtain ⟨c, k, i, f, cell, h1, h2, h3, h4, h5, h6⟩ := h
  exact ⟨c, k, i, f, cell, h1, h2, by rw [hq a (Array.getElem?_eq_some_iff.mp h3).1 h6]; exact h3, h4, h5, h6⟩
theorem osZ.moved {G : osG} {u U : State} {H : Heap} (hvm : u.vm.Alike U.vm) (h : osZ G u H) : osZ G U H := ⟨fun j n hn => va_Z.moved hvm (h.1 j n hn), va_Z.moved hvm h.2.1, fun j v hv => osWc.moved hvm (h.2.2.1 j v hv), vx_Zq.moved hvm h.2.2.2.1, vx_Zq.moved hvm h.2.2.2.2.1, h.2.2.2.2.2.moved hvm⟩
theorem osZ.kept {G : osG} {U : State} {H H1 : Heap} (h : osZ G U H) (hq : ∀ a : Nat, a < H.size → ¬ osA G a → H1[a]? = H[a]?) : osZ G U H1 := ⟨fun j n hn => va_Z.kept (h.1 j n hn) hq, va_Z.kept h.2.1 hq, fun j v hv => osWc.kept (h.2.2.1 j v hv) hq, vx_Zq.kept h.2.2.2.1 hq, vx_Zq.kept h.2.2.2.2.1 hq, h.2.2.2.2.2.kept hq⟩
/-- at a method's end -/
theorem osR.end {G : osG} {z : osS} {s t : State} {H : Heap} {locs : List Loc} (hV : osV G s) (hZ : osZ G s s.heap) (hM : osMem G z H) (hS : va_S (osA G) s.heap H locs) (ht : t.heap = H) (hW : s.WarmedH t.vm) : osR G z t := by
  refine ⟨hV.moved hW, ?_, by rw [ht]; exact hM⟩
  rw [ht]
  exact (hZ.kept hS.2.1).moved hW.alike
theorem osR.blind {G : osG} {z : osS} {As : List Value} : FrameBlind (fun a U => a = As.toArray ∧ osR G z U) := fun a U g mk q => ⟨q.1, osV.moved (u := U) (U := U.calling g mk a) (State.WarmedH.refl U) q.2.1, osZ.moved (u := U) (U := U.calling g mk a) (Vm.Alike.refl U.vm) q.2.2.1, q.2.2.2⟩
abbrev osF (ρ : Type) : Type := osG → ρ → osS → List Frame → Array Value → State → State → Prop
/-- the body's constants -/
def osB (p : Program) (l : Launch) (s : State) (m : MethodId) (meth : Method) (c : Code) (y : MethodName) (cc : ByteArray) (nL : Nat) (ret : Option FieldType) (hh : List (Nat × Nat × Nat × Nat)) : Prop :=
  p.tables.exec = Jvm.exec ∧ c.code = cc ∧ c.maxLocals = nL ∧ s.vm.findClass y.cls = some m.cls ∧ meth.sig.returnType = ret ∧ meth.locks = false ∧ c.exceptionTable.toList = tableOf hh ∧ l.stackTraces = false ∧ meth.name = y.name
/-- from the frame at pc with these locals and this stack, and any memory for which the function F answers, the machine comes to what Fin says of that answer -/
def osW {ρ : Type} (Fin : osF ρ) (y : MethodName) (cc : ByteArray) (nL : Nat) (ret : Option FieldType) (hh : List (Nat × Nat × Nat × Nat)) (R : Room) (k n : Nat) (pc : Nat) (lv : List (Nat × Value)) (st : List Value) (F : osM ρ) : Prop :=
  ∀ (p : Program) (l : Launch) (e : Env) (s : State) (m : MethodId) (args : Array Value) (below : List Frame) (meth : Method) (c : Code), osB p l s m meth c y cc nL ret hh → ∀ (G : osG) (z : osS) (r : ρ) (z' : osS), osV G s → osZ G s s.heap → F G z = some (r, z') →
    ∀ (H : Heap) (locs : List Loc) (ls : Array Slot), osMem G z H → va_S (osA G) s.heap H locs → lv_has ls nL lv → W p l e R s m args below meth c H locs k n (Fin G r z' below args s) (F0 m pc ls st)
def osFinM {ρ : Type} (rv : ρ → Option Value) (mc ms : Nat) : osF ρ := fun G r z' below args s => MQ below (fun _ st o t => o = .returned (rv r) ∧ osR G z' t ∧ va_F (osA G) st t) args s mc ms (osA G)
/-- a method that throws nothing does what the function f does -/
def osMet {ρ : Type} (y : MethodName) (cc : ByteArray) (nL : Nat) (ret : Option FieldType) (fr lo mc ms : Nat) (rv : ρ → Option Value) (As : List Value) (f : osM ρ) : Prop :=
  ∀ l : Launch, l.stackTraces = false → ∀ (G : osG) (z : osS) (r : ρ) (z' : osS), f G z = some (r, z') → Met l y [.code y cc nL ret] { frames := fr, cells := mc, slots := ms, locals := lo } (fun a U => a = As.toArray ∧ osR G z U) (fun _ st o t => o = .returned (rv r) ∧ osR G z' t ∧ va_F (osA G) st t) mc ms (osA G)
theorem osMet.of {ρ : Type} {y : MethodName} {cc : ByteArray} {nL : Nat} {ret : Option FieldType} {fr lo mc ms : Nat} {rv : ρ → Option Value} {As : List Value} {f : osM ρ} (hy : plainName y.cls = true) (hn : (lg_sl As).length ≤ nL)
    (h : osW (osFinM rv mc ms) y cc nL ret [] { frames := fr, cells := mc, slots := ms, locals := lo } 0 0 0 (lv_args 0 As) [] f) : osMet y cc nL ret fr lo mc ms rv As f := by
  intro l hl G z r z' hf
  refine MetFree.of_bodyS (code := cc) (maxLocals := nL) (ret := ret) hy ?_ ?_
  · intro args s m h hn
    obtain ⟨meth, c, h1, h2, h3, h4, h5, h6, -, -⟩ := Cond.code_spec hn (atoms_spec (ws := [Cond.code y cc nL ret]) h _ List.mem_cons_self)
    exact ⟨meth, c, h1, h2, h3, h4, h5, h6⟩
  · intro p e s m args below meth c s₁ B hml hP _
    have hh0 : s₁.heap = s.heap := by rw [B.state]; rfl
    have ht : c.exceptionTable.toList = tableOf [] := by
      obtain ⟨meth9, c9, h1, h2, -, -, -, -, h7, -⟩ := Cond.code_spec B.named (atoms_spec (ws := [Cond.code y cc nL ret]) B.pre _ List.mem_cons_self)
      cases Option.some.inj (h1.symm.trans B.method)
      cases Option.some.inj (h2.symm.trans (Stand.of_body B).code)
      rw [Array.isEmpty_iff.mp h7]
      rfl
    obtain ⟨rfl, hV, hZ, hM⟩ := hP
    have hl0 := lv_entry As hn
    have K := h p l e s m As.toArray below meth c ⟨B.exec, B.bytes, hml, findClass_of_methodNamed B.named, B.returns, B.notSynchronized, ht, hl, (name_of_methodNamed B.named B.method).1⟩ G z r z' hV hZ hf s.heap [] _ hM va_S.rf hl0
    have K2 : W p l e (headSpec [Cond.code y cc nL ret] { frames := fr, cells := mc, slots := ms, locals := lo }).room s m As.toArray below meth c s.heap [] 0 0 (MQ below (fun _ st o t => o = .returned (rv r) ∧ osR G z' t ∧ va_F (osA G) st t) As.toArray s mc ms (osA G)) (entryFrame m As.toArray nL) := by
      rw [lg_entry_eq]
      exact K
    obtain ⟨t, a1, o, b1, b2, b3⟩ := K2 s₁ hh0 (Stand.of_body B)
    exact ⟨t, o, a1, b1, b2, ⟨b3.1, b3.2⟩⟩
