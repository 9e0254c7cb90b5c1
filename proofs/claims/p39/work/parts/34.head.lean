/-! THE CLAIM OUT OF ONE WALK OF THE LAW'S BODY. Your part is whole_start (and what it stands on); all else here is the same for every law, but numbers. -/
def R_law : String := "OrderSettlerLaw"
def lw_P (b : Addr) (xs : List Int32) (args : Array Value) (s : State) : Prop := args = #[.ref b] ∧ s.IntsAt b xs ∧ xs.length ≤ 260 ∧ (Jvm.Cond.and given_1 narrow_1).before args s = true
def lw_Q (_ : Array Value) (s : State) (o : Outcome) (t : State) : Prop := o = .returned (some (.int 1)) ∧ Framed s o t [] 600086 7301442
def lw_Z (below : List Frame) (a : Array Value) (s : State) : State → Prop := fun t => ∃ o, t.status = .running ∧ Ended t below o ∧ lw_Q a s o t
/-- the law's own end, with 1 on the stack, nothing written that was there before, its room as the claim has it -/
theorem lw_ret {p : Program} {l : Launch} {e : Env} {s : State} {m : MethodId} {below : List Frame} {meth : Method} {c : Code} {b : Nat} (hx : p.tables.exec = Jvm.exec) (hb : c.code = code) (hr : meth.sig.returnType = ret) (hlocks : meth.locks = false) {pc : Nat} {H : Heap} {ls : Array Slot} (hdg : decode code pc = .ok (.ireturn, 1)) : W p l e room_1 s m #[Value.ref b] below meth c H [] 600086 7301442 (lw_Z below #[Value.ref b] s) (F0 m pc ls [.int 1]) := by
  intro T hT X
  obtain ⟨fs, hret, hrun, hended, hW, hframe⟩ := X.leave (v := some (.int 1)) (hlocks := hlocks) (fun h => by rw [hr] at h; cases h)
  have hmeth' : T.vm.method? m = some meth := X.method'
  refine ⟨T.setFrames fs, ?_, .returned (some (.int 1)), hrun, hended, rfl, ⟨_, rfl⟩, hW, hframe⟩
  jvm_step X.here [X.here.top, hx, hb, hdg, hmeth', hr, ret, narrow_b1]
  (try refine ⟨rfl, ?_⟩); (try refine ⟨rfl, ?_⟩)
  first | (intro acts; rw [hret _ acts rfl rfl rfl]) | rw [hret _ _ rfl rfl rfl]
  exact Steps.refl _
/-- what holds at the law's entry: the machine, the code, the tables' words (any of lw_tbl by 'hts w (by decide +kernel)'), the script of L ints xs at the cell b, what the Statement gives of the start (any of its parts by flat_of_before) -/
def lw_At (p : Program) (s : State) (m : MethodId) (meth : Method) (c : Code) (b L : Nat) (xs : Nat → Int32) : Prop :=
  p.tables.exec = Jvm.exec ∧ c.code = code ∧ meth.sig.returnType = ret ∧ c.maxLocals = 9 ∧ s.vm.findClass R_law = some m.cls ∧ (∀ w ∈ lw_tbl, w.before #[Value.ref b] s = true) ∧ va_X b L xs s s.heap ∧ b < s.heap.size ∧ meth.locks = false ∧ (Jvm.Cond.and given_1 narrow_1).before #[Value.ref b] s = true
set_option maxHeartbeats 4000000 in
/-- the law's walk, out of the plain function's answer -/
theorem os_whole {p : Program} {e : Env} {s : State} {m : MethodId} {below : List Frame} {meth : Method} {c : Code} (l : Launch) (hflags : l.flags = flags0) {b L : Nat} {xs : Nat → Int32} (C0 : lw_At p s m meth c b L xs) (hl0 : l.stackTraces = false) (htab : c.exceptionTable.toList = tableOf []) (hnm : meth.name = yL_law.name)
    (hpure : ∀ (G : osG) (B : Nat), osInj G → G.2.2.1 = B → ∃ (N : Nat) (z' : osS), qL_law N L xs G (fun _ => none, some B) = some ((1 : Int32), z')) : W p l e room_1 s m #[Value.ref b] below meth c s.heap [] 0 0 (lw_Z below #[Value.ref b] s) (entryFrame m ([Value.ref b] : List Value).toArray 9) := by
  obtain ⟨hx, hb, hr, hml, hown, hts, hX, hbl, hlocks, hgv⟩ := id C0
  obtain ⟨G, hV, hZ, hI, hG⟩ := os_start hts hgv
  obtain ⟨N, z', hq⟩ := hpure G s.heap.size hI hG
  have hl := lv_entry ([.ref b]) (n := 9) (Nat.le_of_ble_eq_true rfl)
  have hend : ∀ (k n : Nat) (lv : List (Nat × Value)), k ≤ 600086 → n ≤ 7301442 → osW (osFinL b L xs (fun below s => lw_Z below #[Value.ref b] s)) yL_law cL_law 9 (some .boolean) [] room_1 k n 270 lv [.int (1 : Int32)] (osret (1 : Int32)) := by
    intro k n lv hk hn p9 l9 e9 s9 m9 args9 below9 meth9 c9 B9 G9 z9 r9 z9' hV9 hZ9 hF9 H9 locs9 ls9 hM9 hS9 hl9
    refine osFinL_by fun h1 _ => ?_
    obtain ⟨hX9, hbl9, hbA9, rfl, hA9⟩ := h1
    obtain ⟨hx9, hb9, hml9, hown9, hr9, hlk9, htab9, hst9, hnm9⟩ := id B9
    refine va_forget (fun q hq => hA9 _ (hS9.2.2 q hq)) ?_
    refine W.widen (k := 600086) (n := 7301442) hk hn ?_
    have K := lw_ret (below := below9) (e := e9) (l := l9) (s := s9) (m := m9) (b := b) (H := H9) (ls := ls9) hx9 hb9 hr9 hlk9 (pc := 270) (hL_law_3.at 0 rfl rfl).1
    intro T hT X
    obtain ⟨t, a1, b1⟩ := K T hT X
    exact ⟨t, a1, fun _ _ => b1⟩
  have K := sL_law N L xs hend p l e s m #[.ref b] below meth c ⟨hx, hb, hml, hown, hr, hlocks, htab, hl0, hnm⟩ G _ _ z' hV hZ hq s.heap [] _ ⟨fun a e h => (nomatch h), fun k h => by cases h; rfl⟩ va_S.rf hl
  have hP : osPL b L xs (osA G) #[.ref b] s := ⟨hX, hbl, Nat.not_le.mpr (by rw [hG]; exact hbl), rfl, fun q h => by
    have h9 : G.2.2.1 ≤ q := h
    rw [hG] at h9; exact h9⟩
  rw [lg_entry_eq]
  intro T hT X
  obtain ⟨t, a1, b1⟩ := K T hT X
  exact ⟨t, a1, b1 hP rfl⟩
