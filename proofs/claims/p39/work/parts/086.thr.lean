/-! methods that throw, and their catching -/
def osthrow {ρ : Type} (j : Nat) : osM (Nat ⊕ ρ) := fun _ z => some (.inl j, (z.1, z.2.map (· + 1)))
def osbindT {α ρ : Type} (m : osM (Nat ⊕ α)) (f : α → osM (Nat ⊕ ρ)) : osM (Nat ⊕ ρ) := fun G z => match m G z with
  | some (.inr a, z') => f a G z'
  | some (.inl j, z') => some (.inl j, z')
  | none => none
def osbindC {α ρ : Type} (m : osM (Nat ⊕ α)) (h : Nat → osM ρ) (f : α → osM ρ) : osM ρ := fun G z => match m G z with
  | some (.inr a, z') => f a G z'
  | some (.inl j, z') => h j G z'
  | none => none
def osRt {ρ : Type} (m : osM ρ) : osM (Nat ⊕ ρ) := fun G z => match m G z with
  | some (v, z') => some (.inr v, z')
  | none => none
theorem osbindT_some {α ρ : Type} {m : osM (Nat ⊕ α)} {f : α → osM (Nat ⊕ ρ)} {G : osG} {z z' : osS} {r : Nat ⊕ ρ} (h : osbindT m f G z = some (r, z')) : (∃ a z1, m G z = some (.inr a, z1) ∧ f a G z1 = some (r, z')) ∨ ∃ j, m G z = some (.inl j, z') ∧ r = .inl j := by
  unfold osbindT at h
  cases hm : m G z with
  | none => rw [hm] at h; cases h
  | some q =>
    obtain ⟨a, z1⟩ := q
    rw [hm] at h
    cases a with
    | inl j => cases h; exact Or.inr ⟨j, rfl, rfl⟩
    | inr a => exact Or.inl ⟨a, z1, rfl, h⟩
theorem osbindC_some {α ρ : Type} {m : osM (Nat ⊕ α)} {h0 : Nat → osM ρ} {f : α → osM ρ} {G : osG} {z z' : osS} {r : ρ} (h : osbindC m h0 f G z = some (r, z')) : (∃ a z1, m G z = some (.inr a, z1) ∧ f a G z1 = some (r, z')) ∨ ∃ j z1, m G z = some (.inl j, z1) ∧ h0 j G z1 = some (r, z') := by
  unfold osbindC at h
  cases hm : m G z with
  | none => rw [hm] at h; cases h
  | some q =>
    obtain ⟨a, z1⟩ := q
    rw [hm] at h
    cases a with
    | inl j => exact Or.inr ⟨j, z1, rfl, h⟩
    | inr a => exact Or.inl ⟨a, z1, rfl, h⟩
def osQT {α : Type} (rv : α → Option Value) (G : osG) (r : Nat ⊕ α) (z : osS) : State → Outcome → State → Prop := fun st o t => ∃ v, r = .inr v ∧ o = .returned (rv v) ∧ osR G z t ∧ va_F (osA G) st t
def osXC {α : Type} (G : osG) (r : Nat ⊕ α) (z : osS) : String → State → State → Prop := fun E st t => ∃ j, r = .inl j ∧ osEx[j]? = some E ∧ osMem G z t.heap ∧ va_F (osA G) st t
def osFinT {α : Type} (rv : α → Option Value) (mc ms : Nat) : osF (Nat ⊕ α) := fun G r z' below args s => vx_MQ below (fun _ => osQT rv G r z') (osXC G r z') args s mc ms (osA G)
def osMetT {α : Type} (y : MethodName) (cc : ByteArray) (nL : Nat) (ret : Option FieldType) (fr lo mc ms : Nat) (rv : α → Option Value) (As : List Value) (f : osM (Nat ⊕ α)) : Prop :=
  ∀ l : Launch, l.stackTraces = false → ∀ (G : osG) (z : osS) (r : Nat ⊕ α) (z' : osS), f G z = some (r, z') → vx_Met l y [.code y cc nL ret] { frames := fr, cells := mc, slots := ms, locals := lo } (fun a U => a = As.toArray ∧ osR G z U) (fun _ => osQT rv G r z') (osXC G r z') mc ms (osA G)
theorem osMetT.of {ρ : Type} {y : MethodName} {cc : ByteArray} {nL : Nat} {ret : Option FieldType} {fr lo mc ms : Nat} {rv : ρ → Option Value} {As : List Value} {f : osM (Nat ⊕ ρ)} (hy : plainName y.cls = true) (hn : (lg_sl As).length ≤ nL)
    (h : osW (osFinT rv mc ms) y cc nL ret [] { frames := fr, cells := mc, slots := ms, locals := lo } 0 0 0 (lv_args 0 As) [] f) : osMetT y cc nL ret fr lo mc ms rv As f := by
  intro l hl G z r z' hf
  refine MetFree.of_bodyS (code := cc) (maxLocals := nL) (ret := ret) hy ?_ ?_
  · intro args s m h hn
    obtain ⟨meth, c, h1, h2, h3, h4, h5, h6, -, -⟩ := Cond.code_spec hn (atoms_spec (ws := [Cond.code y cc nL ret]) h _ List.mem_cons_self)
    exact ⟨meth, c, h1, h2, h3, h4, h5, h6⟩
  · intro p e s m args below meth c s₁ B hml hP _
    have hh0 : s₁.heap = s.heap := by rw [B.state]; rfl
    have ht : c.exceptionTable.toList = tableOf [] := by
      obtain ⟨meth9, c9, h1, h2, -, -, -, -, h7, -⟩ := Cond.code_spec B.named (atoms_spec (ws := [Cond.code y cc nL ret]) B.pre _ List.mem_cons_self)
      cases Option.some.inj (h1.symm.trans B.method)
      cases Option.some.inj (h2.symm.trans (Stand.of_body B).code)
      rw [Array.isEmpty_iff.mp h7]
      rfl
    obtain ⟨rfl, hV, hZ, hM⟩ := hP
    have hl0 := lv_entry As hn
    have K := h p l e s m As.toArray below meth c ⟨B.exec, B.bytes, hml, findClass_of_methodNamed B.named, B.returns, B.notSynchronized, ht, hl, (name_of_methodNamed B.named B.method).1⟩ G z r z' hV hZ hf s.heap [] _ hM va_S.rf hl0
    have K2 : W p l e (headSpec [Cond.code y cc nL ret] { frames := fr, cells := mc, slots := ms, locals := lo }).room s m As.toArray below meth c s.heap [] 0 0 (vx_MQ below (fun _ => osQT rv G r z') (osXC G r z') As.toArray s mc ms (osA G)) (entryFrame m As.toArray nL) := by
      rw [lg_entry_eq]
      exact K
    obtain ⟨t, a1, o, b1, b2, b3⟩ := K2 s₁ hh0 (Stand.of_body B)
    exact ⟨t, o, a1, b1, b2, b3⟩
/-- a method with a table of its own, that lets nothing out -/
def osMetH {ρ : Type} (y : MethodName) (cc : ByteArray) (nL : Nat) (ret : Option FieldType) (hh : List (Nat × Nat × Nat × Nat)) (fr lo mc ms : Nat) (rv : ρ → Option Value) (As : List Value) (f : osM ρ) : Prop :=
  ∀ l : Launch, l.stackTraces = false → ∀ (G : osG) (z : osS) (r : ρ) (z' : osS), f G z = some (r, z') → Met l y [.codeWith y cc nL ret hh] { frames := fr, cells := mc, slots := ms, locals := lo } (fun a U => a = As.toArray ∧ osR G z U) (fun _ st o t => o = .returned (rv r) ∧ osR G z' t ∧ va_F (osA G) st t) mc ms (osA G)
theorem osMetH.of {ρ : Type} {y : MethodName} {cc : ByteArray} {nL : Nat} {ret : Option FieldType} {hh : List (Nat × Nat × Nat × Nat)} {fr lo mc ms : Nat} {rv : ρ → Option Value} {As : List Value} {f : osM ρ} (hy : plainName y.cls = true) (hn : (lg_sl As).length ≤ nL)
    (h : osW (osFinM rv mc ms) y cc nL ret hh { frames := fr, cells := mc, slots := ms, locals := lo } 0 0 0 (lv_args 0 As) [] f) : osMetH y cc nL ret hh fr lo mc ms rv As f := by
  intro l hl G z r z' hf
  refine MetFree.of_bodyS (code := cc) (maxLocals := nL) (ret := ret) hy ?_ ?_
  · intro args s m h hn
    obtain ⟨m9, meth, c, hn9, h1, h2, h3, h4, -, h5, h6, -⟩ := Cond.codeWith_spec (atoms_spec (ws := [Cond.codeWith y cc nL ret hh]) h _ List.mem_cons_self)
    cases hn.symm.trans hn9
    exact ⟨meth, c, h1, h2, h3, h4, h5, h6⟩
  · intro p e s m args below meth c s₁ B hml hP _
    have hh0 : s₁.heap = s.heap := by rw [B.state]; rfl
    have ht : c.exceptionTable.toList = tableOf hh := vx_table (x := y) B (atoms_spec (ws := [Cond.codeWith y cc nL ret hh]) B.pre _ List.mem_cons_self)
    obtain ⟨rfl, hV, hZ, hM⟩ := hP
    have hl0 := lv_entry As hn
    have K := h p l e s m As.toArray below meth c ⟨B.exec, B.bytes, hml, findClass_of_methodNamed B.named, B.returns, B.notSynchronized, ht, hl, (name_of_methodNamed B.named B.method).1⟩ G z r z' hV hZ hf s.heap [] _ hM va_S.rf hl0
    have K2 : W p l e (headSpec [Cond.codeWith y cc nL ret hh] { frames := fr, cells := mc, slots := ms, locals := lo }).room s m As.toArray below meth c s.heap [] 0 0 (MQ below (fun _ st o t => o = .returned (rv r) ∧ osR G z' t ∧ va_F (osA G) st t) As.toArray s mc ms (osA G)) (entryFrame m As.toArray nL) := by
      rw [lg_entry_eq]
      exact K
    obtain ⟨t, a1, o, b1, b2, b3⟩ := K2 s₁ hh0 (Stand.of_body B)
    exact ⟨t, o, a1, b1, b2, ⟨b3.1, b3.2⟩⟩
theorem osQT.next {p : Program} {l : Launch} {e : Env} {R : Room} {s : State} {m : MethodId} {args : Array Value} {below : List Frame} {meth : Method} {c : Code} {H : Heap} {locs : List Loc} {k n mc ms : Nat} {Q : State → Prop} {α : Type} {rv : α → Option Value} {G : osG} {r : Nat ⊕ α} {z : osS} {pc : Nat} {ls : Array Slot} {st st0 : List Value}
    (hr : vx_Run p l e R s m args below meth c H locs k n mc ms (F0 m pc ls st0) st (osQT rv G r z) (osXC G r z) (osA G)) (hS : va_S (osA G) s.heap H locs)
    (kr : ∀ v, r = .inr v → ∀ (H1 : Heap) (locs1 : List Loc), osMem G z H1 → va_S (osA G) s.heap H1 locs1 → W p l e R s m args below meth c H1 locs1 (k + mc) (n + ms) Q (F0 m (pc + 3) ls ((rv v).toList ++ st)))
    (kx : ∀ (j : Nat) (E : String), r = .inl j → osEx[j]? = some E → ∀ (H1 : Heap) (locs1 : List Loc) (q : Addr) (ce : Cell), osMem G z H1 → va_S (osA G) s.heap H1 locs1 → H1[q]? = some ce → ce.vm = .none → s.vm.findClass E = some ce.cls → vx_W p l e R s m args below meth c H1 locs1 (k + mc) (n + ms) Q (F0 m pc ls st) q) : W p l e R s m args below meth c H locs k n Q (F0 m pc ls st0) := by
  intro T hT X
  have hkeep : ∀ {st₀ t T' : State} {L : List Loc}, st₀.heap = H → T'.heap = t.heap → (∀ q ∈ L, osA G q.base) → va_F (osA G) st₀ t → va_S (osA G) s.heap T'.heap (locs ++ L) := by
    intro st₀ t T' L h0 e1 hL hF
    obtain ⟨hz, hk⟩ := hF
    rw [h0] at hz hk
    exact ⟨Nat.le_trans hS.1 (by rw [e1]; exact hz), fun q h1 h2 => by rw [e1, hk q (Nat.lt_of_lt_of_le h1 hS.1) h2]; exact hS.2.1 q h1 h2, fun q hq => by
      rcases List.mem_append.mp hq with h | h
      · exact hS.2.2 q h
      · exact hL q h⟩
  rcases hr T hT X with ⟨v, st₀, t, T', L, h0, X', hL, e1, e2, ⟨v', hrv, hv, hR, hF⟩, stp⟩ | ⟨q, st₀, t, T', L, E, ce, h0, X', hL, e1, e2, ⟨j, hj, hE, hMt, hF⟩, hce, hcv, hcl, stp⟩
  · cases hv
    obtain ⟨t2, a1, b1⟩ := kr v' hrv T'.heap (locs ++ L) (by rw [e1]; exact hR.2.2) (hkeep h0 e1 hL hF) T' rfl X'
    exact ⟨t2, stp t2 a1, b1⟩
  · obtain ⟨t2, a1, b1⟩ := kx j E hj hE T'.heap (locs ++ L) q ce (by rw [e1]; exact hMt) (hkeep h0 e1 hL hF) (by rw [e1]; exact hce) hcv hcl T' rfl X'
    exact ⟨t2, stp.trans a1, b1⟩
section T
variable {ρ : Type} {rv0 : ρ → Option Value} {mc0 ms0 : Nat} {y : MethodName} {cc : ByteArray} {nL : Nat} {ret : Option FieldType} {R : Room} {k n k' n' : Nat} {pc pc' : Nat} {lv : List (Nat × Value)} {st : List Value}
variable {α : Type} {rv : α → Option Value} {y' : MethodName} {cc' : ByteArray} {nL' : Nat} {ret' : Option FieldType} {fr lo mc ms np idx b : Nat} {As : List Value} {g : osM (Nat ⊕ α)} {f : α → osM (Nat ⊕ ρ)} {stk : List Value} {st' : α → List Value}
/-- the end of a way that returns -/
theorem os_ofM {F : osM ρ} (h : osW (osFinM rv0 mc0 ms0) y cc nL ret [] R k n pc lv st F) : osW (osFinT rv0 mc0 ms0) y cc nL ret [] R k n pc lv st (osRt F) := by
  intro p l e s m args below meth c B G z r z' hV hZ hF H locs ls hM hS hl
  unfold osRt at hF
  cases hm : F G z with
  | none => rw [hm] at hF; cases hF
  | some q =>
    obtain ⟨v, z1⟩ := q
    rw [hm] at hF
    cases hF
    refine vx_ret (Qc := fun _ => osQT rv0 G (.inr v) z') ?_
    have K := h p l e s m args below meth c B G z v z' hV hZ hm H locs ls hM hS hl
    intro T hT X
    obtain ⟨t, a1, o, b1, b2, b3, b4⟩ := K T hT X
    exact ⟨t, a1, o, b1, b2, ⟨v, rfl, b3⟩, b4⟩
/-- what a method throws that this one calls, it lets go on -/
theorem osOut {p : Program} {l : Launch} {e : Env} {s : State} {m : MethodId} {args : Array Value} {below : List Frame} {meth : Method} {c : Code} {G : osG} {z : osS} {j : Nat} {E : String} {H1 : Heap} {locs1 : List Loc} {q : Addr} {ce : Cell} {ls : Array Slot} (B : osB p l s m meth c y cc nL ret []) (hE : osEx[j]? = some E) (hM : osMem G z H1) (hS : va_S (osA G) s.heap H1 locs1) (hq : H1[q]? = some ce) (hv : ce.vm = .none) (hc : s.vm.findClass E = some ce.cls) (hk : k ≤ mc0) (hn : n ≤ ms0) : vx_W p l e R s m args below meth c H1 locs1 k n (osFinT rv0 mc0 ms0 G (.inl j) z below args s) (F0 m pc ls st) q := by
  obtain ⟨hx, hb, hml, hown, hr, hlk, htab, hst, hnm⟩ := id B
  refine vx_out (Qc := fun _ => osQT rv0 G (.inl j) z) (XC := osXC (α := ρ) G (.inl j) z) (fun x hx => ?_) hlk hq hv hc (fun t ht hA => ⟨j, rfl, hE, by rw [ht]; exact hM, hS.F ht⟩) hS.2.2 hk hn
  rw [htab] at hx
  cases hx
theorem os_callVT {cis : List Nat} (hsl : osSl cis y' y') (hd' : osMd y' cc' nL' ret' np) (h3 : Cond.methodLink y.cls idx y' ∈ osX) (h4 : Cond.instanceMethod y' ∈ osX) (hMt : osMetT y' cc' nL' ret' fr lo mc ms rv (.ref b :: As) g) (hn : As.length = np) (hst : stk = As.reverse ++ .ref b :: st) (hsp : ∀ r, (rv r).toList ++ st = st' r) (hcat : (st.map fun v => v.category).sum ≤ 8) (hfr : fr + 1 ≤ R.frames) (hlo : 8 + (nL' + 11) + lo ≤ R.locals) (hk : k + mc = k') (hk2 : k' ≤ R.cells) (hn1 : n + ms = n') (hn2 : n' ≤ R.slots) (hk3 : k' ≤ mc0) (hn3 : n' ≤ ms0) (hd : osD cc pc 3 pc' (.invokevirtual idx)) (kk : ∀ r, osW (osFinT rv0 mc0 ms0) y cc nL ret [] R k' n' pc' lv (st' r) (f r)) : osW (osFinT rv0 mc0 ms0) y cc nL ret [] R k n pc lv stk (osbindT (osrecv cis b g) f) := by
  intro p l e s m args below meth c B G z r z' hV hZ hF H locs ls hM hS hl
  obtain ⟨hx, hb, hml, hown, hr, hlk, htab, hst9, hnm⟩ := id B
  obtain ⟨hd, rfl⟩ := hd
  subst hk; subst hn1; subst hst
  have hts := hV.word (args := args)
  have go : ∀ (w : Nat ⊕ α) (z1 : osS), osrecv cis b g G z = some (w, z1) → vx_Run p l e R s m args below meth c H locs k n mc ms (F0 m pc ls (As.reverse ++ .ref b :: st)) st (osQT rv G w z1) (osXC G w z1) (osA G) := by
    intro w z1 hw
    obtain ⟨ci, fs, hz, hc, g1⟩ := osrecv_some hw
    obtain ⟨q9, hq9, hsel⟩ := hsl ci hc
    have hM0 := hMt l hst9 G z w z1 g1
    have cw : CallW R s args y.cls q9.1 idx y' cc' nL' ret' [.code y' cc' nL' ret'] { frames := fr, cells := mc, slots := ms, locals := lo } mc ms np :=
      ⟨⟨rfl, rfl, hfr, hlo, osOne hV hd'.1, List.mem_cons_self, hts _ hd'.1, hts _ hd'.2.1, hd'.2.2.1, hd'.len, hts _ h3⟩, hts _ h4, hts _ hsel⟩
    have hrc := va_recv (q0 := 0) hV.2.1 (va_P1 (show va_at G.1 vwCl (b, .inr (ci, fs)) H from hM.1 b _ hz)) hq9 rfl
    exact vx_runV (e := e) (below := below) (meth := meth) (H := H) (locs := locs) (cells := k) (slots := n) (rest := st) (g := F0 m pc ls (As.reverse ++ .ref b :: st)) ⟨hx, hb, hml, hown, hts⟩ hM0 cw ⟨osR.blind, hrc, fun U hU hW => ⟨rfl, osR.end hV hZ hM hS hU hW⟩⟩ rfl hn hl.1 rfl (lv_room hcat) hd ⟨hk2, hn2⟩
  rcases osbindT_some hF with ⟨a, z1, g0, g2⟩ | ⟨j, g0, rfl⟩
  · refine osQT.next (rv := rv) (go _ _ g0) hS (fun v hv H1 locs1 hM1 hS1 => ?_) (fun j E hj => by cases hj)
    cases hv
    rw [hsp a]
    exact kk a p l e s m args below meth c B G z1 r z' hV hZ g2 H1 locs1 ls hM1 hS1 hl
  · refine osQT.next (rv := rv) (go _ _ g0) hS (fun v hv => by cases hv) (fun j9 E hj hE H1 locs1 q ce hM1 hS1 hq hv hc => ?_)
    cases hj
    exact osOut B hE hM1 hS1 hq hv hc hk3 hn3
/-- a method that throws nothing, in one that may -/
theorem osbindM {β : Type} {mm : osM β} {ff : β → osM (Nat ⊕ ρ)} : osbind mm ff = osbind mm ff := rfl
/-- throw new E("text") -/
theorem os_throw {j jt ik ic : Nat} {q : String × Nat × String} {cls : String} {names : List String} {pd p3 p4 p7 pa : Nat} (hy : y.cls = q.1) (hj : osEx[j]? = some cls) (hcls : Bundle.fit cls = true) (hnames : ∀ n ∈ names, Bundle.fit n = true) (hk : Cond.classLink y.cls ik cls ∈ osX) (hini : Cond.initialized cls ∈ osX) (hat : ∀ w ∈ vx_atS y.cls ic cls names, w ∈ osX) (hgood : ∀ w ∈ Cond.classLink y.cls ik cls :: Cond.initialized cls :: vx_atS y.cls ic cls names, vx_ot w = true) (hjt : osTx[jt]? = some q)
    (d0 : osD cc pc 3 pd (.new ik)) (d3 : osD cc pd 1 p3 .dup) (d4 : (∃ h : q.2.1 < 256, osD cc p3 2 p4 (.ldc q.2.1)) ∨ osD cc p3 3 p4 (.ldc_w q.2.1)) (d7 : osD cc p4 3 p7 (.invokespecial ic)) (d10 : osD cc p7 1 pa .athrow)
    (hfr : names.length + 3 < R.frames) (hlo : (st.map fun v => v.category).sum + (13 * (names.length + 1) + 43) ≤ R.locals) (hc : k + 1 ≤ R.cells) (hn : n + 6 ≤ R.slots) (hk2 : k + 1 ≤ mc0) (hn2 : n + 6 ≤ ms0) : osW (osFinT rv0 mc0 ms0) y cc nL ret [] R k n pc lv st (osthrow j) := by
  intro p l e s m args below meth c B G z r z' hV hZ hF H locs ls hM hS hl
  obtain ⟨hx, hb, hml, hown, hr, hlk, htab, hst9, hnm⟩ := id B
  have hts := hV.word (args := args)
  obtain ⟨d0, rfl⟩ := d0
  obtain ⟨d3, rfl⟩ := d3
  obtain ⟨d7, rfl⟩ := d7
  have d10 := d10.1
  cases hF
  have hX : ∀ t : State, s.vm.Alike t.vm → t.heap.size = H.size + 1 → (∀ q : Nat, q < H.size → t.heap[q]? = H[q]?) → osXC (α := ρ) G (.inl j) (z.1, z.2.map (· + 1)) cls s t := by
    intro t hA hs1 hs2
    refine ⟨j, rfl, hj, ⟨fun a e9 ha => ?_, fun k9 hk9 => ?_⟩, Nat.le_trans hS.1 (by omega), fun q h1 h2 => by rw [hs2 q (Nat.lt_of_lt_of_le h1 hS.1)]; exact hS.2.1 q h1 h2⟩
    · have h9 := hM.1 a e9 ha
      cases e9 with
      | inl x9 => exact ⟨by rw [hs2 a (Array.getElem?_eq_some_iff.mp h9.1).1]; exact h9.1, h9.2⟩
      | inr o9 =>
        refine va_at.kept (q := (a, .inr o9)) h9 (hs2 a ?_)
        obtain ⟨q', hq', cell, q1, -⟩ := h9
        exact (Array.getElem?_eq_some_iff.mp q1).1
    · cases h2 : z.2 with
      | none => rw [h2] at hk9; cases hk9
      | some w => rw [h2] at hk9; cases hk9; rw [hs1, hM.2 w h2]
  have hout : ∀ (w : Nat), ∀ x ∈ c.exceptionTable.toList, covers x w = false := by
    intro w x hx9
    rw [htab] at hx9
    cases hx9
  have hR := hV.2.2 jt q hjt
  rw [← hy] at hR
  rcases d4 with ⟨-, d4, rfl⟩ | ⟨d4, rfl⟩
  · exact vx_throwS (Qc := fun _ => osQT rv0 G (.inl j) (z.1, z.2.map (· + 1))) (XC := osXC (α := ρ) G (.inl j) (z.1, z.2.map (· + 1))) (text := q.2.2) (is := q.2.1) (sa := G.2.2.2.2 jt) (A := osA G) hx hb hst9 hown hcls hnames (hts _ hk) (hts _ hini) hR (fun w hw => hts _ (hat w hw)) hgood hZ.2.2.2.1 hZ.2.2.2.2.1 hS (by rw [hml]; exact hl.1) d0 d3 d4 d7 d10 (hout _) hfr hlo hc hn hlk hX hS.2.2 hk2 hn2
  · exact vx_throwSW (Qc := fun _ => osQT rv0 G (.inl j) (z.1, z.2.map (· + 1))) (XC := osXC (α := ρ) G (.inl j) (z.1, z.2.map (· + 1))) (text := q.2.2) (is := q.2.1) (sa := G.2.2.2.2 jt) (A := osA G) hx hb hst9 hown hcls hnames (hts _ hk) (hts _ hini) hR (fun w hw => hts _ (hat w hw)) hgood hZ.2.2.2.1 hZ.2.2.2.2.1 hS (by rw [hml]; exact hl.1) d0 d3 d4 d7 d10 (hout _) hfr hlo hc hn hlk hX hS.2.2 hk2 hn2
end T
/-- the first pair with j -/
theorem osFirst : ∀ (L : List (Nat × Nat × Nat × Nat × Nat)) (j : Nat), j ∉ L.map (·.1) ∨ ∃ pre x suf, L = pre ++ x :: suf ∧ x.1 = j ∧ ∀ z ∈ pre, z.1 ≠ j
  | [], j => Or.inl (fun h => nomatch h)
  | y :: L, j => by
    by_cases hy : y.1 = j
    · exact Or.inr ⟨[], y, L, rfl, hy, fun z h => nomatch h⟩
    · rcases osFirst L j with h | ⟨pre, x, suf, h1, h2, h3⟩
      · refine Or.inl (fun h9 => ?_)
        rcases List.mem_cons.mp h9 with q | q
        · exact hy q.symm
        · exact h q
      · refine Or.inr ⟨y :: pre, x, suf, by rw [h1]; rfl, h2, fun z hz => ?_⟩
        rcases List.mem_cons.mp hz with q | q
        · rw [q]; exact hy
        · exact h3 z q
section C
variable {ρ : Type} {Fi : osF ρ} {y : MethodName} {cc : ByteArray} {nL : Nat} {ret : Option FieldType} {hh : List (Nat × Nat × Nat × Nat)} {R : Room} {k n k' n' : Nat} {pc pc' : Nat} {lv : List (Nat × Value)} {st : List Value}
variable {α : Type} {rv : α → Option Value} {y' : MethodName} {cc' : ByteArray} {nL' : Nat} {ret' : Option FieldType} {fr lo mc ms np idx b : Nat} {As : List Value} {g : osM (Nat ⊕ α)} {f : α → osM ρ} {stk : List Value} {st' : α → List Value}
/-- a call of a method that may throw, in one that catches; L: the table's rows, each with its exception's number -/
theorem os_callVC {cis : List Nat} {L : List (Nat × Nat × Nat × Nat × Nat)} {h0 : Nat → osM ρ} (hL : hh = L.map (·.2)) (hL1 : L.length = 1) (hrow : ∀ x ∈ L, covers ⟨x.2.1, x.2.2.1, x.2.2.2.1, x.2.2.2.2⟩ pc = true ∧ x.2.2.2.2 ≠ 0 ∧ ∃ E, osEx[x.1]? = some E ∧ Cond.classLink y.cls x.2.2.2.2 E ∈ osX ∧ Cond.castable E E ∈ osX) (hno : ∀ j, j ∉ L.map (·.1) → h0 j = osno)
    (hsl : osSl cis y' y') (hd' : osMd y' cc' nL' ret' np) (h3 : Cond.methodLink y.cls idx y' ∈ osX) (h4 : Cond.instanceMethod y' ∈ osX) (hMt : osMetT y' cc' nL' ret' fr lo mc ms rv (.ref b :: As) g) (hn : As.length = np) (hst : stk = As.reverse ++ .ref b :: st) (hsp : ∀ r, (rv r).toList ++ st = st' r) (hcat : (st.map fun v => v.category).sum ≤ 8) (hfr : fr + 1 ≤ R.frames) (hlo : 8 + (nL' + 11) + lo ≤ R.locals) (hk : k + mc = k') (hk2 : k' ≤ R.cells) (hn1 : n + ms = n') (hn2 : n' ≤ R.slots) (hd : osD cc pc 3 pc' (.invokevirtual idx))
    (kk : ∀ r, osW Fi y cc nL ret hh R k' n' pc' lv (st' r) (f r)) (kh : ∀ x ∈ L, ∀ q : Nat, osW Fi y cc nL ret hh R k' n' x.2.2.2.1 lv [.ref q] (h0 x.1)) : osW Fi y cc nL ret hh R k n pc lv stk (osbindC (osrecv cis b g) h0 f) := by
  intro p l e s m args below meth c B G z r z' hV hZ hF H locs ls hM hS hl
  obtain ⟨hx, hb, hml, hown, hr, hlk, htab, hst9, hnm⟩ := id B
  obtain ⟨hd, rfl⟩ := hd
  subst hk; subst hn1; subst hst
  have hts := hV.word (args := args)
  have go : ∀ (w : Nat ⊕ α) (z1 : osS), osrecv cis b g G z = some (w, z1) → vx_Run p l e R s m args below meth c H locs k n mc ms (F0 m pc ls (As.reverse ++ .ref b :: st)) st (osQT rv G w z1) (osXC G w z1) (osA G) := by
    intro w z1 hw
    obtain ⟨ci, fs, hz, hc, g1⟩ := osrecv_some hw
    obtain ⟨q9, hq9, hsel⟩ := hsl ci hc
    have hM0 := hMt l hst9 G z w z1 g1
    have cw : CallW R s args y.cls q9.1 idx y' cc' nL' ret' [.code y' cc' nL' ret'] { frames := fr, cells := mc, slots := ms, locals := lo } mc ms np :=
      ⟨⟨rfl, rfl, hfr, hlo, osOne hV hd'.1, List.mem_cons_self, hts _ hd'.1, hts _ hd'.2.1, hd'.2.2.1, hd'.len, hts _ h3⟩, hts _ h4, hts _ hsel⟩
    have hrc := va_recv (q0 := 0) hV.2.1 (va_P1 (show va_at G.1 vwCl (b, .inr (ci, fs)) H from hM.1 b _ hz)) hq9 rfl
    exact vx_runV (e := e) (below := below) (meth := meth) (H := H) (locs := locs) (cells := k) (slots := n) (rest := st) (g := F0 m pc ls (As.reverse ++ .ref b :: st)) ⟨hx, hb, hml, hown, hts⟩ hM0 cw ⟨osR.blind, hrc, fun U hU hW => ⟨rfl, osR.end hV hZ hM hS hU hW⟩⟩ rfl hn hl.1 rfl (lv_room hcat) hd ⟨hk2, hn2⟩
  rcases osbindC_some hF with ⟨a, z1, g0, g2⟩ | ⟨j, z1, g0, g2⟩
  · refine osQT.next (rv := rv) (go _ _ g0) hS (fun v hv H1 locs1 hM1 hS1 => ?_) (fun j E hj => by cases hj)
    cases hv
    rw [hsp a]
    exact kk a p l e s m args below meth c B G z1 r z' hV hZ g2 H1 locs1 ls hM1 hS1 hl
  · refine osQT.next (rv := rv) (go _ _ g0) hS (fun v hv => by cases hv) (fun j9 E hj hE H1 locs1 q ce hM1 hS1 hq hv hc => ?_)
    cases hj
    rcases osFirst L j with h9 | ⟨pre, x, suf, h1, h2, h5⟩
    · rw [hno j h9] at g2; cases g2
    · subst h2
      have hxm : x ∈ L := by rw [h1]; exact List.mem_append_right _ List.mem_cons_self
      obtain ⟨c1, c2, E1, c3, c4, c5⟩ := hrow x hxm
      cases hE.symm.trans c3
      have htab2 : c.exceptionTable.toList = tableOf (pre.map (·.2)) ++ (⟨x.2.1, x.2.2.1, x.2.2.2.1, x.2.2.2.2⟩ : ExceptionTableEntry) :: tableOf (suf.map (·.2)) := by
        rw [htab, hL, h1]
        simp [tableOf]
      refine vx_catch (own := y.cls) (name := E) (E := E) hown _ _ _ htab2 (fun z9 hz9 => ?_) c1 c2 (hts _ c4) (hts _ c5) hq hv hc ?_
      · have hp : pre = [] := by
          rw [h1] at hL1
          simp only [List.length_append, List.length_cons] at hL1
          exact List.length_eq_zero_iff.mp (by omega)
        rw [hp] at hz9
        cases hz9
      · exact kh x hxm q p l e s m args below meth c B G z1 r z' hV hZ g2 H1 locs1 ls hM1 hS1 hl
/-- a static method with a table of its own -/
theorem os_callSH {hh' : List (Nat × Nat × Nat × Nat)} {g : osM α} (h1 : Cond.codeWith y' cc' nL' ret' hh' ∈ osX) (h2 : Cond.initialized y'.cls ∈ osX) (h5 : y'.cls ≠ "java/lang/invoke/MethodHandle" ∧ y'.cls ≠ "java/lang/invoke/VarHandle") (h6 : (parseMethodDescriptor y'.desc).map (fun d => d.parameters.length) = some np) (h3 : Cond.methodLink y.cls idx y' ∈ osX) (h4 : Cond.static y' ∈ osX) (hMt : osMetH y' cc' nL' ret' hh' fr lo mc ms rv As g) (hn : As.length = np) (hst : stk = As.reverse ++ st) (hsp : ∀ r, (rv r).toList ++ st = st' r) (hcat : (st.map fun v => v.category).sum ≤ 8) (hfr : fr + 1 ≤ R.frames) (hlo : 8 + (nL' + 11) + lo ≤ R.locals) (hk : k + mc = k') (hk2 : k' ≤ R.cells) (hn1 : n + ms = n') (hn2 : n' ≤ R.slots) (hd : osD cc pc 3 pc' (.invokestatic idx)) (kk : ∀ r, osW Fi y cc nL ret hh R k' n' pc' lv (st' r) (f r)) : osW Fi y cc nL ret hh R k n pc lv stk (osbind g f) := by
  intro p l e s m args below meth c B G z r z' hV hZ hF H locs ls hM hS hl
  obtain ⟨hx, hb, hml, hown, hr, hlk, htab, hst9, hnm⟩ := id B
  obtain ⟨v, z1, g1, g2⟩ := osbind_some hF
  obtain ⟨hd, rfl⟩ := hd
  subst hk; subst hn1; subst hst
  have hts := hV.word (args := args)
  have hM0 := hMt l hst9 G z v z1 g1
  have cw : vx_CSW R s args y.cls idx y' cc' nL' ret' hh' [.codeWith y' cc' nL' ret' hh'] { frames := fr, cells := mc, slots := ms, locals := lo } mc ms np :=
    ⟨⟨rfl, rfl, hfr, hlo, osOne hV h1, List.mem_cons_self⟩, hts _ h1, hts _ h2, h5, fun sig h => by rw [h] at h6; exact (Option.some.inj h6).symm, hts _ h3, hts _ h4⟩
  have hrun := vx_runSW (e := e) (below := below) (meth := meth) (H := H) (locs := locs) (cells := k) (slots := n) (rest := st) (g := F0 m pc ls (As.reverse ++ st)) ⟨hx, hb, hml, hown, hts⟩ hM0 cw ⟨osR.blind, fun U hU hW => ⟨rfl, osR.end hV hZ hM hS hU hW⟩⟩ rfl hn hl.1 rfl (lv_room hcat) hd ⟨hk2, hn2⟩
  refine osQc.next (rv := rv) (G := G) (r := v) (z := z1) hrun hS fun H1 locs1 hM1 hS1 => ?_
  rw [hsp v]
  exact kk v p l e s m args below meth c B G z1 r z' hV hZ g2 H1 locs1 ls hM1 hS1 hl
end C
/-- a throw of a new exception of the class cls with a text, wherever it stands in OrderSettler -/
def osThrows (ik ic : Nat) (cls : String) : Prop := ∀ {ρ : Type} {rv0 : ρ → Option Value} {mc0 ms0 : Nat} {y : MethodName} {cc : ByteArray} {nL : Nat} {ret : Option FieldType} {R : Room} {k n pc : Nat} {lv : List (Nat × Value)} {st : List Value} {j jt : Nat} {q : String × Nat × String} {pd p3 p4 p7 pa : Nat}, y.cls = "OrderSettler" → q.1 = "OrderSettler" → osEx[j]? = some cls → osTx[jt]? = some q →
    osD cc pc 3 pd (.new ik) → osD cc pd 1 p3 .dup → ((∃ h : q.2.1 < 256, osD cc p3 2 p4 (.ldc q.2.1)) ∨ osD cc p3 3 p4 (.ldc_w q.2.1)) → osD cc p4 3 p7 (.invokespecial ic) → osD cc p7 1 pa .athrow → 6 ≤ R.frames → (st.map fun v => v.category).sum + 82 ≤ R.locals → k + 1 ≤ R.cells → n + 6 ≤ R.slots → k + 1 ≤ mc0 → n + 6 ≤ ms0 → osW (osFinT rv0 mc0 ms0) y cc nL ret [] R k n pc lv st (osthrow j)
theorem osThrows.of {ik ic : Nat} {cls : String} (hcls : Bundle.fit cls = true) (hk : Cond.classLink "OrderSettler" ik cls ∈ osX) (hini : Cond.initialized cls ∈ osX) (hat : ∀ w ∈ vx_atS "OrderSettler" ic cls ["java/lang/RuntimeException", "java/lang/Exception"], w ∈ osX) (hgood : ∀ w ∈ Cond.classLink "OrderSettler" ik cls :: Cond.initialized cls :: vx_atS "OrderSettler" ic cls ["java/lang/RuntimeException", "java/lang/Exception"], vx_ot w = true) : osThrows ik ic cls := by
  intro ρ rv0 mc0 ms0 y cc nL ret R k n pc lv st j jt q pd p3 p4 p7 pa hy hq1 hj hjt d0 d3 d4 d7 d10 hfr hlo hc hn hk2 hn2
  rw [← hy] at hk hat hgood
  exact os_throw (names := ["java/lang/RuntimeException", "java/lang/Exception"]) (hy.trans hq1.symm) hj hcls (by decide +kernel) hk hini hat hgood hjt d0 d3 d4 d7 d10 (by show 5 < R.frames; omega) (by show _ + (13 * 3 + 43) ≤ _; omega) hc hn hk2 hn2
