/-! calls and ends -/
def osrecv {α : Type} (cis : List Nat) (b : Nat) (g : osM α) : osM α := fun G z => match z.1 b with
  | some (.inr (c, _)) => if c ∈ cis then g G z else none
  | _ => none
theorem osrecv_some {α : Type} {cis : List Nat} {b : Nat} {g : osM α} {G : osG} {z : osS} {r : α × osS} (h : osrecv cis b g G z = some r) : ∃ c fs, z.1 b = some (.inr (c, fs)) ∧ c ∈ cis ∧ g G z = some r := by
  unfold osrecv at h
  cases hz : z.1 b with
  | none => rw [hz] at h; cases h
  | some q =>
    cases q with
    | inl w => rw [hz] at h; cases h
    | inr w =>
      rw [hz] at h
      obtain ⟨c, fs⟩ := w
      replace h : (if c ∈ cis then g G z else none) = some r := h
      by_cases hc : c ∈ cis
      · rw [if_pos hc] at h; exact ⟨c, fs, rfl, hc, h⟩
      · rw [if_neg hc] at h; cases h
/-- a method's own words -/
def osMd (y : MethodName) (cc : ByteArray) (nL : Nat) (ret : Option FieldType) (np : Nat) : Prop := Cond.code y cc nL ret ∈ osX ∧ Cond.initialized y.cls ∈ osX ∧ (y.cls ≠ "java/lang/invoke/MethodHandle" ∧ y.cls ≠ "java/lang/invoke/VarHandle") ∧ (parseMethodDescriptor y.desc).map (fun d => d.parameters.length) = some np
theorem osMd.len {y : MethodName} {cc : ByteArray} {nL : Nat} {ret : Option FieldType} {np : Nat} (h : osMd y cc nL ret np) : ∀ sig, parseMethodDescriptor y.desc = some sig → np = sig.parameters.length := by
  intro sig hs
  have h2 := h.2.2.2
  rw [hs] at h2
  exact (Option.some.inj h2).symm
def osQc {α : Type} (rv : α → Option Value) (G : osG) (r : α) (z : osS) : State → Outcome → State → Prop := fun st o t => o = .returned (rv r) ∧ osR G z t ∧ va_F (osA G) st t
theorem osQc.next {p : Program} {l : Launch} {e : Env} {R : Room} {s : State} {m : MethodId} {args : Array Value} {below : List Frame} {meth : Method} {c : Code} {H : Heap} {locs : List Loc} {k n mc ms : Nat} {Q : State → Prop} {α : Type} {rv : α → Option Value} {G : osG} {r : α} {z : osS} {pc : Nat} {ls : Array Slot} {st st0 : List Value}
    (hr : va_Run p l e R s m args below meth c H locs k n mc ms (F0 m pc ls st0) st (osQc rv G r z) (osA G)) (hS : va_S (osA G) s.heap H locs)
    (kk : ∀ (H1 : Heap) (locs1 : List Loc), osMem G z H1 → va_S (osA G) s.heap H1 locs1 → W p l e R s m args below meth c H1 locs1 (k + mc) (n + ms) Q (F0 m (pc + 3) ls ((rv r).toList ++ st))) : W p l e R s m args below meth c H locs k n Q (F0 m pc ls st0) := by
  intro T hT X
  obtain ⟨v, st₀, t, T', L, h0, X', hL, e1, e2, ⟨hv, hR, hF⟩, stp⟩ := hr T hT X
  cases hv
  obtain ⟨hz, hk⟩ := hF
  rw [h0] at hz hk
  obtain ⟨t2, a1, b1⟩ := kk T'.heap (locs ++ L) (by rw [e1]; exact hR.2.2)
    ⟨Nat.le_trans hS.1 (by rw [e1]; exact hz), fun q h1 h2 => by rw [e1, hk q (Nat.lt_of_lt_of_le h1 hS.1) h2]; exact hS.2.1 q h1 h2, fun q hq => by
      rcases List.mem_append.mp hq with h | h
      · exact hS.2.2 q h
      · exact hL q h⟩ T' rfl X'
  exact ⟨t2, stp t2 a1, b1⟩
section R
variable {ρ : Type} {Fi : osF ρ} {y : MethodName} {cc : ByteArray} {nL : Nat} {ret : Option FieldType} {hh : List (Nat × Nat × Nat × Nat)} {R : Room} {k n k' n' : Nat} {pc pc' : Nat} {lv : List (Nat × Value)} {st : List Value} {F : osM ρ}
variable {α : Type} {rv : α → Option Value} {y' : MethodName} {cc' : ByteArray} {nL' : Nat} {ret' : Option FieldType} {fr lo mc ms np idx b : Nat} {As : List Value} {g : osM α} {f : α → osM ρ} {stk : List Value} {st' : α → List Value}
/-- which classes a receiver may have, and that they all take the method y' for x -/
def osSl (cis : List Nat) (x y' : MethodName) : Prop := ∀ ci ∈ cis, ∃ q : vw_C, vwCl[ci]? = some q ∧ Cond.selects q.1 x y' ∈ osX
theorem osOne {s : State} {w : Cond} {G : osG} (hV : osV G s) (h : w ∈ osX) : ∀ w' ∈ [w], ∀ (a' : Array Value) (U : State), s.WarmedH U.vm → w'.before a' U = true := fun w' hw a' U hW => by
  rw [List.mem_singleton.mp hw]
  exact osOt_at (List.mem_filter.mp h).2 hW (hV.1 w h)
theorem os_callV {cis : List Nat} (hsl : osSl cis y' y') (hd' : osMd y' cc' nL' ret' np) (h3 : Cond.methodLink y.cls idx y' ∈ osX) (h4 : Cond.instanceMethod y' ∈ osX) (hMt : osMet y' cc' nL' ret' fr lo mc ms rv (.ref b :: As) g) (hn : As.length = np) (hst : stk = As.reverse ++ .ref b :: st) (hsp : ∀ r, (rv r).toList ++ st = st' r) (hcat : (st.map fun v => v.category).sum ≤ 8) (hfr : fr + 1 ≤ R.frames) (hlo : 8 + (nL' + 11) + lo ≤ R.locals) (hk : k + mc = k') (hk2 : k' ≤ R.cells) (hn1 : n + ms = n') (hn2 : n' ≤ R.slots) (hd : osD cc pc 3 pc' (.invokevirtual idx)) (kk : ∀ r, osW Fi y cc nL ret hh R k' n' pc' lv (st' r) (f r)) : osW Fi y cc nL ret hh R k n pc lv stk (osbind (osrecv cis b g) f) := by
  intro p l e s m args below meth c B G z r z' hV hZ hF H locs ls hM hS hl
  obtain ⟨hx, hb, hml, hown, hr, hlk, htab, hst9, hnm⟩ := id B
  obtain ⟨v, z1, g0, g2⟩ := osbind_some hF
  obtain ⟨ci, fs, hz, hc, g1⟩ := osrecv_some g0
  obtain ⟨q9, hq9, hsel⟩ := hsl ci hc
  obtain ⟨hd, rfl⟩ := hd
  subst hk; subst hn1; subst hst
  have hts := hV.word (args := args)
  have hM0 := hMt l hst9 G z v z1 g1
  have cw : CallW R s args y.cls q9.1 idx y' cc' nL' ret' [.code y' cc' nL' ret'] { frames := fr, cells := mc, slots := ms, locals := lo } mc ms np :=
    ⟨⟨rfl, rfl, hfr, hlo, osOne hV hd'.1, List.mem_cons_self, hts _ hd'.1, hts _ hd'.2.1, hd'.2.2.1, hd'.len, hts _ h3⟩, hts _ h4, hts _ hsel⟩
  have hrc := va_recv (q0 := 0) hV.2.1 (va_P1 (show va_at G.1 vwCl (b, .inr (ci, fs)) H from hM.1 b _ hz)) hq9 rfl
  have hrun := va_runV (e := e) (below := below) (meth := meth) (H := H) (locs := locs) (cells := k) (slots := n) (rest := st) (g := F0 m pc ls (As.reverse ++ .ref b :: st)) ⟨hx, hb, hml, hown, hts⟩ hM0 cw ⟨osR.blind, hrc, fun U hU hW => ⟨rfl, osR.end hV hZ hM hS hU hW⟩⟩ rfl hn hl.1 rfl (lv_room hcat) hd ⟨hk2, hn2⟩
  refine osQc.next (rv := rv) (G := G) (r := v) (z := z1) hrun hS fun H1 locs1 hM1 hS1 => ?_
  rw [hsp v]
  exact kk v p l e s m args below meth c B G z1 r z' hV hZ g2 H1 locs1 ls hM1 hS1 hl
/-- .. a method that the receiver's class inherits -/
theorem os_callU {cis : List Nat} {x : MethodName} {owner : String} (hsl : osSl cis x y') (hd' : osMd y' cc' nL' ret' np) (hy : y' = ⟨owner, x.name, x.desc⟩) (h3 : Cond.methodLink y.cls idx x ∈ osX) (h5 : Cond.sameMethod x.cls owner x.name x.desc ∈ osX) (h4 : Cond.instanceMethod y' ∈ osX) (hMt : osMet y' cc' nL' ret' fr lo mc ms rv (.ref b :: As) g) (hn : As.length = np) (hst : stk = As.reverse ++ .ref b :: st) (hsp : ∀ r, (rv r).toList ++ st = st' r) (hcat : (st.map fun v => v.category).sum ≤ 8) (hfr : fr + 1 ≤ R.frames) (hlo : 8 + (nL' + 11) + lo ≤ R.locals) (hk : k + mc = k') (hk2 : k' ≤ R.cells) (hn1 : n + ms = n') (hn2 : n' ≤ R.slots) (hd : osD cc pc 3 pc' (.invokevirtual idx)) (kk : ∀ r, osW Fi y cc nL ret hh R k' n' pc' lv (st' r) (f r)) : osW Fi y cc nL ret hh R k n pc lv stk (osbind (osrecv cis b g) f) := by
  intro p l e s m args below meth c B G z r z' hV hZ hF H locs ls hM hS hl
  obtain ⟨hx, hb, hml, hown, hr, hlk, htab, hst9, hnm⟩ := id B
  obtain ⟨v, z1, g0, g2⟩ := osbind_some hF
  obtain ⟨ci, fs, hz, hc, g1⟩ := osrecv_some g0
  obtain ⟨q9, hq9, hsel⟩ := hsl ci hc
  obtain ⟨hd, rfl⟩ := hd
  subst hk; subst hn1; subst hst
  have hts := hV.word (args := args)
  have hM0 := hMt l hst9 G z v z1 g1
  have hyc : y'.cls = owner := by rw [hy]
  have hyd : y'.desc = x.desc := by rw [hy]
  have cw : va_CU R s args y.cls q9.1 owner idx x y' cc' nL' ret' [.code y' cc' nL' ret'] { frames := fr, cells := mc, slots := ms, locals := lo } mc ms np :=
    ⟨⟨rfl, rfl, hfr, hlo, osOne hV hd'.1, List.mem_cons_self⟩, hts _ hd'.1, hts _ hd'.2.1, by rw [← hyc]; exact hd'.2.2.1, by rw [← hyd]; exact hd'.len, hts _ h3, hts _ h5, by rw [← hy]; exact va_Decl.of (hts _ h4) (hts _ hd'.1), hts _ hsel, hts _ h4⟩
  have hrc := va_recv (q0 := 0) hV.2.1 (va_P1 (show va_at G.1 vwCl (b, .inr (ci, fs)) H from hM.1 b _ hz)) hq9 rfl
  have hrun := va_runU (e := e) (below := below) (meth := meth) (H := H) (locs := locs) (cells := k) (slots := n) (rest := st) (g := F0 m pc ls (As.reverse ++ .ref b :: st)) ⟨hx, hb, hml, hown, hts⟩ hM0 cw ⟨osR.blind, hrc, fun U hU hW => ⟨rfl, osR.end hV hZ hM hS hU hW⟩⟩ rfl hn hl.1 rfl (lv_room hcat) hd ⟨hk2, hn2⟩
  refine osQc.next (rv := rv) (G := G) (r := v) (z := z1) hrun hS fun H1 locs1 hM1 hS1 => ?_
  rw [hsp v]
  exact kk v p l e s m args below meth c B G z1 r z' hV hZ g2 H1 locs1 ls hM1 hS1 hl
/-- static methods -/
theorem os_callS (hd' : osMd y' cc' nL' ret' np) (h3 : Cond.methodLink y.cls idx y' ∈ osX) (h4 : Cond.static y' ∈ osX) (hMt : osMet y' cc' nL' ret' fr lo mc ms rv As g) (hn : As.length = np) (hst : stk = As.reverse ++ st) (hsp : ∀ r, (rv r).toList ++ st = st' r) (hcat : (st.map fun v => v.category).sum ≤ 8) (hfr : fr + 1 ≤ R.frames) (hlo : 8 + (nL' + 11) + lo ≤ R.locals) (hk : k + mc = k') (hk2 : k' ≤ R.cells) (hn1 : n + ms = n') (hn2 : n' ≤ R.slots) (hd : osD cc pc 3 pc' (.invokestatic idx)) (kk : ∀ r, osW Fi y cc nL ret hh R k' n' pc' lv (st' r) (f r)) : osW Fi y cc nL ret hh R k n pc lv stk (osbind g f) := by
  intro p l e s m args below meth c B G z r z' hV hZ hF H locs ls hM hS hl
  obtain ⟨hx, hb, hml, hown, hr, hlk, htab, hst9, hnm⟩ := id B
  obtain ⟨v, z1, g1, g2⟩ := osbind_some hF
  obtain ⟨hd, rfl⟩ := hd
  subst hk; subst hn1; subst hst
  have hts := hV.word (args := args)
  have hM0 := hMt l hst9 G z v z1 g1
  have cw : CallB R s args y.cls idx y' cc' nL' ret' [.code y' cc' nL' ret'] { frames := fr, cells := mc, slots := ms, locals := lo } mc ms np ∧ (Cond.static y').before args s = true :=
    ⟨⟨rfl, rfl, hfr, hlo, osOne hV hd'.1, List.mem_cons_self, hts _ hd'.1, hts _ hd'.2.1, hd'.2.2.1, hd'.len, hts _ h3⟩, hts _ h4⟩
  have hrun := va_runS (e := e) (below := below) (meth := meth) (H := H) (locs := locs) (cells := k) (slots := n) (rest := st) (g := F0 m pc ls (As.reverse ++ st)) ⟨hx, hb, hml, hown, hts⟩ hM0 cw ⟨osR.blind, fun U hU hW => ⟨rfl, osR.end hV hZ hM hS hU hW⟩⟩ rfl hn hl.1 rfl (lv_room hcat) hd ⟨hk2, hn2⟩
  refine osQc.next (rv := rv) (G := G) (r := v) (z := z1) hrun hS fun H1 locs1 hM1 hS1 => ?_
  rw [hsp v]
  exact kk v p l e s m args below meth c B G z1 r z' hV hZ g2 H1 locs1 ls hM1 hS1 hl
/-- .. private ones of a nest mate -/
theorem os_callSN {host : String} (hd' : osMd y' cc' nL' ret' np) (h3 : Cond.methodLinkNest y.cls idx y' host ∈ osX) (h4 : Cond.static y' ∈ osX) (hMt : osMet y' cc' nL' ret' fr lo mc ms rv As g) (hn : As.length = np) (hst : stk = As.reverse ++ st) (hsp : ∀ r, (rv r).toList ++ st = st' r) (hcat : (st.map fun v => v.category).sum ≤ 8) (hfr : fr + 1 ≤ R.frames) (hlo : 8 + (nL' + 11) + lo ≤ R.locals) (hk : k + mc = k') (hk2 : k' ≤ R.cells) (hn1 : n + ms = n') (hn2 : n' ≤ R.slots) (hd : osD cc pc 3 pc' (.invokestatic idx)) (kk : ∀ r, osW Fi y cc nL ret hh R k' n' pc' lv (st' r) (f r)) : osW Fi y cc nL ret hh R k n pc lv stk (osbind g f) := by
  intro p l e s m args below meth c B G z r z' hV hZ hF H locs ls hM hS hl
  obtain ⟨hx, hb, hml, hown, hr, hlk, htab, hst9, hnm⟩ := id B
  obtain ⟨v, z1, g1, g2⟩ := osbind_some hF
  obtain ⟨hd, rfl⟩ := hd
  subst hk; subst hn1; subst hst
  have hts := hV.word (args := args)
  have hM0 := hMt l hst9 G z v z1 g1
  have cw : va_CN R s args y.cls idx y' host cc' nL' ret' [.code y' cc' nL' ret'] { frames := fr, cells := mc, slots := ms, locals := lo } mc ms np ∧ (Cond.static y').before args s = true ∧ True :=
    ⟨⟨⟨rfl, rfl, hfr, hlo, osOne hV hd'.1, List.mem_cons_self⟩, hts _ hd'.1, hts _ hd'.2.1, hd'.2.2.1, hd'.len, hts _ h3⟩, hts _ h4, trivial⟩
  have hrun := va_runSN (e := e) (below := below) (meth := meth) (H := H) (locs := locs) (cells := k) (slots := n) (rest := st) (g := F0 m pc ls (As.reverse ++ st)) ⟨hx, hb, hml, hown, hts⟩ hM0 cw ⟨osR.blind, fun U hU hW => ⟨rfl, osR.end hV hZ hM hS hU hW⟩⟩ rfl hn hl.1 rfl (lv_room hcat) hd ⟨hk2, hn2⟩
  refine osQc.next (rv := rv) (G := G) (r := v) (z := z1) hrun hS fun H1 locs1 hM1 hS1 => ?_
  rw [hsp v]
  exact kk v p l e s m args below meth c B G z1 r z' hV hZ g2 H1 locs1 ls hM1 hS1 hl
/-- constructors -/
theorem os_callI (hd' : osMd y' cc' nL' none np) (hi : y'.name = "<init>") (h3 : Cond.methodLink y.cls idx y' ∈ osX) (h4 : Cond.instanceMethod y' ∈ osX) (hMt : osMet y' cc' nL' none fr lo mc ms rv (.ref b :: As) g) (hn : As.length = np) (hst : stk = As.reverse ++ .ref b :: st) (hsp : ∀ r, (rv r).toList ++ st = st' r) (hcat : (st.map fun v => v.category).sum ≤ 8) (hfr : fr + 1 ≤ R.frames) (hlo : 8 + (nL' + 11) + lo ≤ R.locals) (hk : k + mc = k') (hk2 : k' ≤ R.cells) (hn1 : n + ms = n') (hn2 : n' ≤ R.slots) (hd : osD cc pc 3 pc' (.invokespecial idx)) (kk : ∀ r, osW Fi y cc nL ret hh R k' n' pc' lv (st' r) (f r)) : osW Fi y cc nL ret hh R k n pc lv stk (osbind g f) := by
  intro p l e s m args below meth c B G z r z' hV hZ hF H locs ls hM hS hl
  obtain ⟨hx, hb, hml, hown, hr, hlk, htab, hst9, hnm⟩ := id B
  obtain ⟨v, z1, g1, g2⟩ := osbind_some hF
  obtain ⟨hd, rfl⟩ := hd
  subst hk; subst hn1; subst hst
  have hts := hV.word (args := args)
  have hM0 := hMt l hst9 G z v z1 g1
  have cw : CallB R s args y.cls idx y' cc' nL' none [.code y' cc' nL' none] { frames := fr, cells := mc, slots := ms, locals := lo } mc ms np ∧ y'.name = "<init>" ∧ (Cond.instanceMethod y').before args s = true :=
    ⟨⟨rfl, rfl, hfr, hlo, osOne hV hd'.1, List.mem_cons_self, hts _ hd'.1, hts _ hd'.2.1, hd'.2.2.1, hd'.len, hts _ h3⟩, hi, hts _ h4⟩
  have hrun := va_runI (e := e) (below := below) (meth := meth) (H := H) (locs := locs) (cells := k) (slots := n) (rest := st) (g := F0 m pc ls (As.reverse ++ .ref b :: st)) ⟨hx, hb, hml, hown, hts⟩ hM0 cw ⟨osR.blind, fun U hU hW => ⟨rfl, osR.end hV hZ hM hS hU hW⟩⟩ rfl hn hl.1 rfl (lv_room hcat) hd ⟨hk2, hn2⟩
  refine osQc.next (rv := rv) (G := G) (r := v) (z := z1) hrun hS fun H1 locs1 hM1 hS1 => ?_
  rw [hsp v]
  exact kk v p l e s m args below meth c B G z1 r z' hV hZ g2 H1 locs1 ls hM1 hS1 hl
theorem os_callIN {host : String} (hd' : osMd y' cc' nL' none np) (hi : y'.name = "<init>") (h3 : Cond.methodLinkNest y.cls idx y' host ∈ osX) (h4 : Cond.instanceMethod y' ∈ osX) (hMt : osMet y' cc' nL' none fr lo mc ms rv (.ref b :: As) g) (hn : As.length = np) (hst : stk = As.reverse ++ .ref b :: st) (hsp : ∀ r, (rv r).toList ++ st = st' r) (hcat : (st.map fun v => v.category).sum ≤ 8) (hfr : fr + 1 ≤ R.frames) (hlo : 8 + (nL' + 11) + lo ≤ R.locals) (hk : k + mc = k') (hk2 : k' ≤ R.cells) (hn1 : n + ms = n') (hn2 : n' ≤ R.slots) (hd : osD cc pc 3 pc' (.invokespecial idx)) (kk : ∀ r, osW Fi y cc nL ret hh R k' n' pc' lv (st' r) (f r)) : osW Fi y cc nL ret hh R k n pc lv stk (osbind g f) := by
  intro p l e s m args below meth c B G z r z' hV hZ hF H locs ls hM hS hl
  obtain ⟨hx, hb, hml, hown, hr, hlk, htab, hst9, hnm⟩ := id B
  obtain ⟨v, z1, g1, g2⟩ := osbind_some hF
  obtain ⟨hd, rfl⟩ := hd
  subst hk; subst hn1; subst hst
  have hts := hV.word (args := args)
  have hM0 := hMt l hst9 G z v z1 g1
  have cw : va_CN R s args y.cls idx y' host cc' nL' none [.code y' cc' nL' none] { frames := fr, cells := mc, slots := ms, locals := lo } mc ms np ∧ y'.name = "<init>" ∧ (Cond.instanceMethod y').before args s = true :=
    ⟨⟨⟨rfl, rfl, hfr, hlo, osOne hV hd'.1, List.mem_cons_self⟩, hts _ hd'.1, hts _ hd'.2.1, hd'.2.2.1, hd'.len, hts _ h3⟩, hi, hts _ h4⟩
  have hrun := va_runIN (e := e) (below := below) (meth := meth) (H := H) (locs := locs) (cells := k) (slots := n) (rest := st) (g := F0 m pc ls (As.reverse ++ .ref b :: st)) ⟨hx, hb, hml, hown, hts⟩ hM0 cw ⟨osR.blind, fun U hU hW => ⟨rfl, osR.end hV hZ hM hS hU hW⟩⟩ rfl hn hl.1 rfl (lv_room hcat) hd ⟨hk2, hn2⟩
  refine osQc.next (rv := rv) (G := G) (r := v) (z := z1) hrun hS fun H1 locs1 hM1 hS1 => ?_
  rw [hsp v]
  exact kk v p l e s m args below meth c B G z1 r z' hV hZ g2 H1 locs1 ls hM1 hS1 hl
/-- Object.<init> -/
theorem os_objInit (h1 : Cond.methodLink y.cls idx objectInit ∈ osX) (h2 : Cond.instanceMethod objectInit ∈ osX) (h3 : Cond.code objectInit ⟨#[0xb1]⟩ 1 none ∈ osX) (hcat : (st.map fun v => v.category).sum ≤ 8) (hfr : 1 ≤ R.frames) (hlo : 20 ≤ R.locals) (hd : osD cc pc 3 pc' (.invokespecial idx)) (kk : osW Fi y cc nL ret hh R k n pc' lv st F) : osW Fi y cc nL ret hh R k n pc lv (.ref b :: st) F := by
  intro p l e s m args below meth c B G z r z' hV hZ hF H locs ls hM hS hl
  obtain ⟨hx, hb, hml, hown, hr, hlk, htab, hst9, hnm⟩ := id B
  obtain ⟨hd, rfl⟩ := hd
  have hts := hV.word (args := args)
  refine W.objInit hx hb hown (hts _ h1) (hts _ h2) (hts _ h3) rfl (by rw [hml]; exact hl.1) rfl hd hfr (by show 2 * 0 + _ + 12 ≤ _; omega) ?_
  exact kk p l e s m args below meth c B G z r z' hV hZ hF H locs ls hM hS hl
end R
section E
variable {y : MethodName} {cc : ByteArray} {nL : Nat} {hh : List (Nat × Nat × Nat × Nat)} {R : Room} {k n mc ms : Nat} {pc : Nat} {lv : List (Nat × Value)}
theorem osEndF {G : osG} {z : osS} {s t : State} {H : Heap} {locs : List Loc} (hV : osV G s) (hZ : osZ G s s.heap) (hM : osMem G z H) (hS : va_S (osA G) s.heap H locs) (ht : t.heap = H) (hW : s.WarmedH t.vm) : osR G z t ∧ va_F (osA G) s t := ⟨osR.end hV hZ hM hS ht hW, hS.F ht⟩
theorem os_iret {v : Int32} (hk : k ≤ mc) (hn : n ≤ ms) (hd : decode cc pc = .ok (.ireturn, 1)) : osW (osFinM (fun r : Int32 => some (.int r)) mc ms) y cc nL (some .int) hh R k n pc lv [.int v] (osret v) := by
  intro p l e s m args below meth c B G z r z' hV hZ hF H locs ls hM hS hl
  obtain ⟨hx, hb, hml, hown, hr, hlk, htab, hst9, hnm⟩ := id B
  cases hF
  exact W.widen hk hn (W.iret hx hb hr (fun t ht hW => ⟨rfl, osEndF hV hZ hM hS ht hW⟩) hS.2.2 hd hlk)
def osretZ (v : Int32) : osM Int32 := fun _ z => if v = 0 ∨ v = 1 then some (v, z) else none
theorem os_zret {v : Int32} (hk : k ≤ mc) (hn : n ≤ ms) (hd : decode cc pc = .ok (.ireturn, 1)) : osW (osFinM (fun r : Int32 => some (.int r)) mc ms) y cc nL (some .boolean) hh R k n pc lv [.int v] (osretZ v) := by
  intro p l e s m args below meth c B G z r z' hV hZ hF H locs ls hM hS hl
  obtain ⟨hx, hb, hml, hown, hr, hlk, htab, hst9, hnm⟩ := id B
  have hv : v = 0 ∨ v = 1 := by
    by_cases h : v = 0 ∨ v = 1
    · exact h
    · unfold osretZ at hF; rw [if_neg h] at hF; cases hF
  unfold osretZ at hF
  rw [if_pos hv] at hF
  cases hF
  have hn9 : narrow .boolean (.int v) = .int v := by
    rcases hv with rfl | rfl <;> rfl
  exact W.widen hk hn (W.zret hx hb hr hn9 (fun t ht hW => ⟨rfl, osEndF hV hZ hM hS ht hW⟩) hS.2.2 hd hlk)
theorem os_lret {v : Int64} (hk : k ≤ mc) (hn : n ≤ ms) (hd : decode cc pc = .ok (.lreturn, 1)) : osW (osFinM (fun r : Int64 => some (.long r)) mc ms) y cc nL (some .long) hh R k n pc lv [.long v] (osret v) := by
  intro p l e s m args below meth c B G z r z' hV hZ hF H locs ls hM hS hl
  obtain ⟨hx, hb, hml, hown, hr, hlk, htab, hst9, hnm⟩ := id B
  cases hF
  exact W.widen hk hn (W.lret hx hb hr (fun t ht hW => ⟨rfl, osEndF hV hZ hM hS ht hW⟩) hS.2.2 hd hlk)
theorem os_fret {v : UInt32} (hk : k ≤ mc) (hn : n ≤ ms) (hd : decode cc pc = .ok (.freturn, 1)) : osW (osFinM (fun r : UInt32 => some (.float r)) mc ms) y cc nL (some .float) hh R k n pc lv [.float v] (osret v) := by
  intro p l e s m args below meth c B G z r z' hV hZ hF H locs ls hM hS hl
  obtain ⟨hx, hb, hml, hown, hr, hlk, htab, hst9, hnm⟩ := id B
  cases hF
  exact W.widen hk hn (W.fret hx hb hr (fun t ht hW => ⟨rfl, osEndF hV hZ hM hS ht hW⟩) hS.2.2 hd hlk)
theorem os_dret {v : UInt64} (hk : k ≤ mc) (hn : n ≤ ms) (hd : decode cc pc = .ok (.dreturn, 1)) : osW (osFinM (fun r : UInt64 => some (.double r)) mc ms) y cc nL (some .double) hh R k n pc lv [.double v] (osret v) := by
  intro p l e s m args below meth c B G z r z' hV hZ hF H locs ls hM hS hl
  obtain ⟨hx, hb, hml, hown, hr, hlk, htab, hst9, hnm⟩ := id B
  cases hF
  exact W.widen hk hn (W.dret hx hb hr (fun t ht hW => ⟨rfl, osEndF hV hZ hM hS ht hW⟩) hS.2.2 hd hlk)
theorem os_vret (hk : k ≤ mc) (hn : n ≤ ms) (hd : decode cc pc = .ok (.return_, 1)) : osW (osFinM (fun _ : Unit => none) mc ms) y cc nL none hh R k n pc lv [] (osret ()) := by
  intro p l e s m args below meth c B G z r z' hV hZ hF H locs ls hM hS hl
  obtain ⟨hx, hb, hml, hown, hr, hlk, htab, hst9, hnm⟩ := id B
  cases hF
  exact W.widen hk hn (W.vret hx hb hr (fun t ht hW => ⟨rfl, osEndF hV hZ hM hS ht hW⟩) hS.2.2 hd hlk)
end E
