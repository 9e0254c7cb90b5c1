/-! from the law's entry: what the tables and the statics give (by program) -/
theorem osSelPriv {s : State} {args : Array Value} {C : String} {n : Nat} {y x2 y2 : MethodName} (hi : (Cond.instantiable C n).before args s = true) (hpriv : (Cond.privateMethod y).before args s = true) (hinst : (Cond.instanceMethod y).before args s = true) (hsel : (Cond.selects C x2 y2).before args s = true) (hy2 : y2.cls = y.cls) (hy : y.cls ≠ "java/lang/invoke/MethodHandle" ∧ y.cls ≠ "java/lang/invoke/VarHandle") : (Cond.selects C y y).before args s = true := by
  obtain ⟨c, k, hc, hk, -, hniab, -, -⟩ := Cond.instantiable_spec hi
  obtain ⟨c2, r2, m2, q1, q2, q3, q4, kP, hkP, hkPi⟩ := Cond.selects_spec hsel
  obtain ⟨mk, methM, hnamed, hmethM, -, -⟩ := Cond.instanceMethod_spec hinst
  have hfound : s.methodFound? y.cls y.name y.desc = some mk := State.methodFound?_of_named hnamed hy
  have hcls : mk.cls = m2.cls := by
    have h1 := findClass_of_methodNamed hnamed
    have h2 := findClass_of_methodNamed q3
    rw [hy2] at h2
    exact Option.some.inj (h1.symm.trans h2)
  have hsel9 : selectMethod {} s.vm c mk = .method mk := selectMethod_private hmethM (Cond.privateMethod_at hpriv mk methM hnamed hmethM)
  simp only [Cond.before, Cond.holds, Cond.value, hc, hfound, hnamed, hsel9, hcls, hkP]
  simp
  exact hkPi
theorem osX_start {s : State} {args : Array Value} (hts : ∀ w ∈ lw_tbl, w.before args s = true) : ∀ w ∈ osX, w.before #[] s = true := by
  intro w hw
  obtain ⟨h1, h2⟩ := List.mem_filter.mp hw
  refine osOt_at (a := args) h2 (State.WarmedH.refl s) ?_
  rcases List.mem_append.mp h1 with h | h
  · rcases List.mem_cons.mp h with rfl | h
    · exact osSelPriv (n := 10) (x2 := ⟨"OrderSettler$MapReader", "begin", "([BI)V"⟩) (y2 := ⟨"OrderSettler$TextReader", "begin", "([BI)V"⟩) (hts _ (List.mem_of_getElem? (i := 200) (by decide +kernel))) (hts _ (List.mem_of_getElem? (i := 828) (by decide +kernel))) (hts _ (List.mem_of_getElem? (i := 829) (by decide +kernel))) (hts _ (List.mem_of_getElem? (i := 821) (by decide +kernel))) rfl ⟨by decide +kernel, by decide +kernel⟩
    · rcases List.mem_cons.mp h with rfl | h
      · exact osSelPriv (n := 10) (x2 := ⟨"OrderSettler$TurnReader", "begin", "([BI)V"⟩) (y2 := ⟨"OrderSettler$TextReader", "begin", "([BI)V"⟩) (hts _ (List.mem_of_getElem? (i := 250) (by decide +kernel))) (hts _ (List.mem_of_getElem? (i := 828) (by decide +kernel))) (hts _ (List.mem_of_getElem? (i := 829) (by decide +kernel))) (hts _ (List.mem_of_getElem? (i := 1016) (by decide +kernel))) rfl ⟨by decide +kernel, by decide +kernel⟩
      · cases h
  · exact hts w h
theorem osK_start {s : State} (hX : ∀ w ∈ osX, w.before #[] s = true) (hO : va_AO "OrderSettler$State" s) : ∃ (dD : va_G) (dA : Nat → ClassId), va_K dD vwCl [(dA 0, .int), (dA 1, .byte), (dA 2, .long), (dA 3, .boolean), (dA 4, .double), (dA 5, .object "OrderSettler$State"), (dA 6, .int)] s := by
  obtain ⟨c0, i0, k0⟩ := u_known hX osinX0 (hX _ wd379)
  obtain ⟨c1, i1, k1⟩ := u_known hX osinX1 (hX _ wd269)
  obtain ⟨c2, i2, k2⟩ := u_known hX osinX2 (hX _ wd275)
  obtain ⟨c3, i3, k3⟩ := u_known hX osinX3 (hX _ wd202)
  obtain ⟨c4, i4, k4⟩ := u_known hX osinX4 (hX _ wd186)
  obtain ⟨c5, i5, k5⟩ := u_known hX osinX5 (hX _ wd435)
  obtain ⟨c6, i6, k6⟩ := u_known hX osinX7 (hX _ wd252)
  obtain ⟨c7, i7, k7⟩ := u_known hX osinX9 (hX _ wd178)
  obtain ⟨c8, i8, k8⟩ := u_known hX osinX10 (hX _ wd1582)
  have arr : ∀ ty : FieldType, (Cond.arrayClass ty).before #[] s = true → ∃ c : ClassId, ArrOfT s c ty ∧ s.vm.findClass ("[" ++ ty.toString) = some c := by
    intro ty h
    obtain ⟨c, k, comp, h1, h2, h3⟩ := Cond.arrayClass_spec h
    exact ⟨c, fun n z => ⟨fun k h => (by cases h), k, h2, comp, h3⟩, h1⟩
  obtain ⟨aint, bint, eint⟩ := arr .int (hX _ wd345)
  obtain ⟨abyte, bbyte, ebyte⟩ := arr .byte (hX _ wd200)
  obtain ⟨along, blong, elong⟩ := arr .long (hX _ wd1732)
  obtain ⟨aboolean, bboolean, eboolean⟩ := arr .boolean (hX _ wd1733)
  obtain ⟨adouble, bdouble, edouble⟩ := arr .double (hX _ wd2298)
  obtain ⟨comp, cS, kS, s1, s2, s3, s4, s5⟩ := Cond.arrayOver_spec (va_AO.use (A := #[]) hO)
  have bS : ArrOfT s cS (.object "OrderSettler$State") := fun n z => ⟨fun k h => (by cases h), kS, s3, comp, s4⟩
  refine ⟨(fun k => match k with | 0 => c0 | 1 => c1 | 2 => c2 | 3 => c3 | 4 => c4 | 5 => c5 | 6 => c6 | 7 => c7 | _ => c8, fun k => match k with | 0 => i0 | 1 => i1 | 2 => i2 | 3 => i3 | 4 => i4 | 5 => i5 | 6 => i6 | 7 => i7 | _ => i8), fun k => match k with | 0 => aint | 1 => abyte | 2 => along | 3 => aboolean | 4 => adouble | 5 => cS | _ => aint, ?_, ?_⟩
  · intro c q hq
    match c, hq with
    | 0, hq => cases hq; exact k0
    | 1, hq => cases hq; exact k1
    | 2, hq => cases hq; exact k2
    | 3, hq => cases hq; exact k3
    | 4, hq => cases hq; exact k4
    | 5, hq => cases hq; exact k5
    | 6, hq => cases hq; exact k6
    | 7, hq => cases hq; exact k7
    | 8, hq => cases hq; exact k8
    | n + 9, hq => simp [vwCl] at hq
  · intro k q hq
    match k, hq with
    | 0, hq => cases hq; exact ⟨bint, eint⟩
    | 1, hq => cases hq; exact ⟨bbyte, ebyte⟩
    | 2, hq => cases hq; exact ⟨blong, elong⟩
    | 3, hq => cases hq; exact ⟨bboolean, eboolean⟩
    | 4, hq => cases hq; exact ⟨bdouble, edouble⟩
    | 5, hq => cases hq; exact ⟨bS, kS, comp, s3, s4, s1, s5⟩
    | 6, hq => cases hq; exact ⟨bint, eint⟩
    | n + 7, hq => simp at hq
theorem osEqR {args : Array Value} {s : State} {t u : Term} {a : Nat} (h : (Cond.eq t u).before args s = true) (hu : u.eval args s none [] s = some (.ref a)) : t.eval args s none [] s = some (.ref a) := by
  cases hv : t.eval args s none [] s with
  | none => simp [Cond.before, Cond.holds, Cond.value, hv] at h
  | some w =>
    simp only [Cond.before, Cond.holds, Cond.value, hv, hu] at h
    cases w <;> simp_all
/-- a text's parts -/
theorem osStr1 {args : Array Value} {s : State} {t : Term} {bs : List Int32} {A : Nat → Prop} {a : Nat} (hN : bs.length < 2 ^ 31) (ha : t.eval args s none [] s = some (.ref a)) (hex : (Cond.exactly t "java/lang/String").before args s = true) (hco : (Cond.eq (.field t "java/lang/String" "coder" "B") (.int 0)).before args s = true)
    (har : (Cond.arrayOf (.field t "java/lang/String" "value" "[B") .byte).before args s = true) (hle : (Cond.eq (.length (.field t "java/lang/String" "value" "[B")) (.int (Int32.ofNat bs.length))).before args s = true)
    (hel : ∀ j : Nat, j < bs.length → (Cond.eq (.elem (.field t "java/lang/String" "value" "[B") (.int (Int32.ofNat j))) (.int (bs.getD j 0))).before args s = true) (hA : ∀ a : Nat, a < s.heap.size → ¬ A a) :
    ∃ v : Nat, va_O "java/lang/String" a A s s.heap ∧ va_OF "java/lang/String" "coder" "B" (.int 0) a A s s.heap ∧ va_OF "java/lang/String" "value" "[B" (.ref v) a A s s.heap ∧ va_T .byte v bs.length (fun i => .int (bs.getD i 0)) A s s.heap := by
  obtain ⟨a9, c, cA, kA, q1, q2, q3, q4, q5, q6, -⟩ := Cond.exactly_spec hex
  cases ha.symm.trans q1
  obtain ⟨v, hv, hT⟩ := va_Tof (f := fun j => .int (bs.getD j 0)) (A := A) hN har (va_eqt hle) (fun j hj => va_eqt (hel j hj)) hA
  exact ⟨v, ⟨cA, q3, q5, by rw [q6]; exact q2, hA a (Array.getElem?_eq_some_iff.mp q3).1⟩, vk_OFof q1 (va_eqt hco) hA, vk_OFof q1 hv hA, hT⟩
def osGv : List Cond := flatC (Jvm.Cond.and given_1 narrow_1)
theorem osG_tx : ∀ q ∈ osTx, Cond.stringRef "OrderSettler" q.1 q.2 ∈ lw_tbl ∧ Cond.exactly (.string "OrderSettler" q.1) "java/lang/String" ∈ osGv := by decide +kernel
theorem osG_st : ∀ j, j < 6 → ∀ q ∈ osTx[j]?.toList, Cond.eq (.field (.string "OrderSettler" q.1) "java/lang/String" "coder" "B") (.int 0) ∈ osGv ∧ Cond.arrayOf (.field (.string "OrderSettler" q.1) "java/lang/String" "value" "[B") .byte ∈ osGv ∧ Cond.eq (.length (.field (.string "OrderSettler" q.1) "java/lang/String" "value" "[B")) (.int (Int32.ofNat (osTs.getD j []).length)) ∈ osGv := by decide +kernel
theorem osG_sk : ∀ j, j < 6 → ∀ q ∈ osTx[j]?.toList, ∀ k, k < (osTs.getD j []).length → Cond.eq (.elem (.field (.string "OrderSettler" q.1) "java/lang/String" "value" "[B") (.int (Int32.ofNat k))) (.int ((osTs.getD j []).getD k 0)) ∈ osGv := by decide +kernel
theorem osG_wd : ∀ j, j < 15 → ∀ n ∈ osWd[j]?.toList, ∀ v ∈ osPk[j]?.toList, Cond.laysStatic "OrderSettler$Word" n "LOrderSettler$Word;" ∈ lw_tbl ∧ Cond.exactly (.static "OrderSettler$Word" n "LOrderSettler$Word;") "OrderSettler$Word" ∈ osGv ∧ Cond.eq (.field (.static "OrderSettler$Word" n "LOrderSettler$Word;") "OrderSettler$Word" "packed" "J") (.long v) ∈ osGv ∧ Cond.eq (.elem (.static "OrderSettler$Word" "ALL" "[LOrderSettler$Word;") (.int (Int32.ofNat j))) (.static "OrderSettler$Word" n "LOrderSettler$Word;") ∈ osGv := by decide +kernel
theorem osG_ex : ∀ A ∈ osEx, ∀ B ∈ osEx, A ≠ B → Cond.not (.castable A B) ∈ osGv := by decide +kernel
theorem osEx_nodup : ∀ i, i < 4 → ∀ j, j < 4 → i ≠ j → osEx[i]? ≠ osEx[j]? := by decide +kernel
/-- words and texts lie apart -/
def osInj (G : osG) : Prop := (∀ i j, i < 15 → j < 15 → G.2.2.2.1 i = G.2.2.2.1 j → i = j) ∧ (∀ i j, i < 6 → j < 6 → G.2.2.2.2 i = G.2.2.2.2 j → i = j) ∧ (∀ i j, i < 6 → j < 6 → G.2.2.2.2 (100 + i) = G.2.2.2.2 (100 + j) → i = j)
theorem osPk_inj : ∀ i, i < 15 → ∀ j, j < 15 → osPk[i]? = osPk[j]? → i = j := by decide +kernel
theorem osTs_inj : ∀ i, i < 6 → ∀ j, j < 6 → (osTs.getD i []).length = (osTs.getD j []).length → (∀ k, k < 9 → (osTs.getD i []).getD k 0 = (osTs.getD j []).getD k 0) → i = j := by decide +kernel
theorem osTs_len : ∀ i, i < 6 → (osTs.getD i []).length ≤ 9 := by decide +kernel
theorem osTs_apart {i j t : Nat} {A : Nat → Prop} {s : State} {H : Heap} (hi : i < 6) (hj : j < 6) (h1 : va_T .byte t (osTs.getD i []).length (fun k => .int ((osTs.getD i []).getD k 0)) A s H) (h2 : va_T .byte t (osTs.getD j []).length (fun k => .int ((osTs.getD j []).getD k 0)) A s H) : i = j := by
  obtain ⟨c1, a1, -, -, -, a5, a6, -⟩ := h1
  obtain ⟨c2, b1, -, -, -, b5, b6, -⟩ := h2
  cases a1.symm.trans b1
  have hl1 := osTs_len i hi
  have hl2 := osTs_len j hj
  have hlen : (osTs.getD i []).length = (osTs.getD j []).length := by
    have h9 := a5.symm.trans b5
    have h10 := congrArg Int32.toNatClampNeg h9
    rw [Int32.toNatClampNeg_ofNat_of_lt (by omega), Int32.toNatClampNeg_ofNat_of_lt (by omega)] at h10
    exact h10
  refine osTs_inj i hi j hj hlen (fun k hk => ?_)
  by_cases hkl : k < (osTs.getD i []).length
  · have := (a6 k hkl).symm.trans (b6 k (by omega))
    exact Value.int.inj (Option.some.inj this)
  · show ((osTs.getD i [])[k]?).getD 0 = ((osTs.getD j [])[k]?).getD 0
    rw [List.getElem?_eq_none (by omega), List.getElem?_eq_none (by omega)]
theorem os_start {s : State} {args : Array Value} (hts : ∀ w ∈ lw_tbl, w.before args s = true) (hgv : (Jvm.Cond.and given_1 narrow_1).before args s = true) : ∃ G : osG, osV G s ∧ osZ G s s.heap ∧ osInj G ∧ G.2.2.1 = s.heap.size := by
  have hX := osX_start hts
  have hg : ∀ w ∈ osGv, w.before args s = true := flat_of_before _ hgv
  have hO : va_AO "OrderSettler$State" s := va_AO.of (hts _ (List.mem_of_getElem? (i := 375) (by decide +kernel)))
  obtain ⟨dD, dA, hK⟩ := osK_start hX hO
  have hA : ∀ a : Nat, a < s.heap.size → ¬ (s.heap.size ≤ a) := fun a h => Nat.not_le.mpr h
  -- the texts
  have htx0 : ∀ j : Nat, ∃ a : Nat, ∀ q : Nat × String, osTx[j]? = some q → vk_R "OrderSettler" q.1 q.2 a s ∧ (Term.string "OrderSettler" q.1).eval args s none [] s = some (.ref a) := by
    intro j
    cases hj : osTx[j]? with
    | none => exact ⟨0, fun q h => by cases h⟩
    | some q =>
      obtain ⟨h1, h2⟩ := osG_tx q (List.mem_of_getElem? hj)
      obtain ⟨a, c, cell, kk, e1, -⟩ := Cond.exactly_spec (hg _ h2)
      exact ⟨a, fun q' h => by cases h; exact ⟨vk_R.of (hts _ h1) e1, e1⟩⟩
  obtain ⟨tx, htx⟩ := Classical.axiomOfChoice htx0
  have hst0 : ∀ j : Nat, ∃ v : Nat, ∀ bs : List Int32, osTs[j]? = some bs → va_O "java/lang/String" (tx j) (fun q => s.heap.size ≤ q) s s.heap ∧ va_OF "java/lang/String" "coder" "B" (.int 0) (tx j) (fun q => s.heap.size ≤ q) s s.heap ∧ va_OF "java/lang/String" "value" "[B" (.ref v) (tx j) (fun q => s.heap.size ≤ q) s s.heap ∧ va_T .byte v bs.length (fun i => .int (bs.getD i 0)) (fun q => s.heap.size ≤ q) s s.heap := by
    intro j
    by_cases hj : j < 6
    · have hq : ∃ q, osTx[j]? = some q := by
        match j, hj with
        | 0, _ => exact ⟨_, rfl⟩
        | 1, _ => exact ⟨_, rfl⟩
        | 2, _ => exact ⟨_, rfl⟩
        | 3, _ => exact ⟨_, rfl⟩
        | 4, _ => exact ⟨_, rfl⟩
        | 5, _ => exact ⟨_, rfl⟩
      obtain ⟨q, hq⟩ := hq
      have hb := osTs_at hj
      obtain ⟨g1, g2, g3⟩ := osG_st j hj q (by rw [hq]; exact List.mem_cons_self)
      have g5 : (osTs.getD j []).length < 2 ^ 31 := Nat.lt_of_le_of_lt (osTs_len j hj) (by decide)
      obtain ⟨-, h2⟩ := osG_tx q (List.mem_of_getElem? hq)
      obtain ⟨v, hv⟩ := osStr1 (A := fun q => s.heap.size ≤ q) g5 (htx j q hq).2 (hg _ h2) (hg _ g1) (hg _ g2) (hg _ g3) (fun k hk => hg _ (osG_sk j hj q (by rw [hq]; exact List.mem_cons_self) k hk)) hA
      exact ⟨v, fun bs h => by cases hb.symm.trans h; exact hv⟩
    · refine ⟨0, fun bs h => ?_⟩
      have := (List.getElem?_eq_some_iff.mp h).1
      exact absurd (show j < 6 from this) hj
  obtain ⟨tv, htv⟩ := Classical.axiomOfChoice hst0
  -- the words
  have hw0 : ∀ j : Nat, ∃ a : Nat, ∀ (n : String) (v : Int64), osWd[j]? = some n → osPk[j]? = some v → (Term.static "OrderSettler$Word" n "LOrderSettler$Word;").eval args s none [] s = some (.ref a) := by
    intro j
    by_cases hj : j < 15
    · cases hn : osWd[j]? with
      | none => exact ⟨0, fun n v h => by cases h⟩
      | some n =>
        cases hv : osPk[j]? with
        | none => exact ⟨0, fun n v _ h => by cases h⟩
        | some v =>
          obtain ⟨-, g2, -⟩ := osG_wd j hj n (by rw [hn]; exact List.mem_cons_self) v (by rw [hv]; exact List.mem_cons_self)
          obtain ⟨a, c, cell, kk, e1, -⟩ := Cond.exactly_spec (hg _ g2)
          exact ⟨a, fun n' v' h1 h2 => by cases h1; exact e1⟩
    · refine ⟨0, fun n v h => ?_⟩
      have := (List.getElem?_eq_some_iff.mp h).1
      exact absurd (show j < 15 from this) hj
  obtain ⟨wd, hwd⟩ := Classical.axiomOfChoice hw0
  have hALL : ∃ a : Nat, (Term.static "OrderSettler$Word" "ALL" "[LOrderSettler$Word;").eval args s none [] s = some (.ref a) := by
    obtain ⟨a, c, cell, kk, e1, -⟩ := Cond.exactly_spec (hg (Cond.exactly (.static "OrderSettler$Word" "ALL" "[LOrderSettler$Word;") "[LOrderSettler$Word;") (by decide +kernel))
    exact ⟨a, e1⟩
  obtain ⟨aA, hALL⟩ := hALL
  have hpk : ∀ j, j < 15 → ∃ n v, osWd[j]? = some n ∧ osPk[j]? = some v := by
    intro j hj
    match j, hj with
    | 0, _ => exact ⟨_, _, rfl, rfl⟩
    | 1, _ => exact ⟨_, _, rfl, rfl⟩
    | 2, _ => exact ⟨_, _, rfl, rfl⟩
    | 3, _ => exact ⟨_, _, rfl, rfl⟩
    | 4, _ => exact ⟨_, _, rfl, rfl⟩
    | 5, _ => exact ⟨_, _, rfl, rfl⟩
    | 6, _ => exact ⟨_, _, rfl, rfl⟩
    | 7, _ => exact ⟨_, _, rfl, rfl⟩
    | 8, _ => exact ⟨_, _, rfl, rfl⟩
    | 9, _ => exact ⟨_, _, rfl, rfl⟩
    | 10, _ => exact ⟨_, _, rfl, rfl⟩
    | 11, _ => exact ⟨_, _, rfl, rfl⟩
    | 12, _ => exact ⟨_, _, rfl, rfl⟩
    | 13, _ => exact ⟨_, _, rfl, rfl⟩
    | 14, _ => exact ⟨_, _, rfl, rfl⟩
  refine ⟨(dD, dA, s.heap.size, fun j => if j = 15 then aA else wd j, fun j => if j < 100 then tx j else tv (j - 100)), ⟨hX, hK, ?_⟩, ⟨?_, ?_, ?_, ?_, ?_, ?_⟩, ?_, rfl⟩
  · intro j q hj
    have h22 : j < 100 := Nat.lt_of_lt_of_le (List.getElem?_eq_some_iff.mp hj).1 (by decide)
    show vk_R "OrderSettler" q.1 q.2 (if j < 100 then tx j else tv (j - 100)) s
    rw [if_pos h22]
    exact (htx j q hj).1
  · intro j n hn
    have hj : j < 15 := (List.getElem?_eq_some_iff.mp hn).1
    obtain ⟨n', v, e1, e2⟩ := hpk j hj
    cases hn.symm.trans e1
    obtain ⟨g1, -⟩ := osG_wd j hj n (by rw [hn]; exact List.mem_cons_self) v (by rw [e2]; exact List.mem_cons_self)
    show va_Z "OrderSettler$Word" n "LOrderSettler$Word;" (.ref (if j = 15 then aA else wd j)) _ s s.heap
    rw [if_neg (by omega)]
    exact va_Zof (hts _ g1) (hts _ (List.mem_of_getElem? (i := 166) (by decide +kernel))) (hwd j n v hn e2) hA
  · exact va_Zof (hts _ (List.mem_of_getElem? (i := 869) (by decide +kernel))) (hts _ (List.mem_of_getElem? (i := 166) (by decide +kernel))) hALL hA
  · intro j v hv
    have hj : j < 15 := (List.getElem?_eq_some_iff.mp hv).1
    obtain ⟨n, v', e1, e2⟩ := hpk j hj
    cases hv.symm.trans e2
    obtain ⟨-, -, g3, -⟩ := osG_wd j hj n (by rw [e1]; exact List.mem_cons_self) v (by rw [hv]; exact List.mem_cons_self)
    show osWc _ (if j = 15 then aA else wd j) v s s.heap
    rw [if_neg (by omega)]
    exact vk_OFof (A := fun q => s.heap.size ≤ q) (hwd j n v e1 hv) (va_eqtl (hg _ g3)) hA
  · exact vx_Zqof (hts _ (List.mem_of_getElem? (i := 739) (by decide +kernel))) (hts _ (List.mem_of_getElem? (i := 159) (by decide +kernel))) (hg _ (by decide +kernel)) hA
  · exact vx_Zqof (hts _ (List.mem_of_getElem? (i := 741) (by decide +kernel))) (hts _ (List.mem_of_getElem? (i := 159) (by decide +kernel))) (hg _ (by decide +kernel)) hA
  · refine ⟨?_, ?_, ?_, ?_, ?_, hO⟩
    · obtain ⟨t, ht, hT⟩ := va_Tof (args := args) (tm := .static "OrderSettler$Word" "ALL" "[LOrderSettler$Word;") (ty := .object "OrderSettler$Word") (N := 15) (f := fun j => .ref (if j = 15 then aA else wd j)) (A := fun q => s.heap.size ≤ q) (by decide) (hg _ (by decide +kernel)) (va_eqt (hg _ (by decide +kernel))) (fun j hj => by
        obtain ⟨n, v, e1, e2⟩ := hpk j hj
        obtain ⟨-, -, -, g4⟩ := osG_wd j hj n (by rw [e1]; exact List.mem_cons_self) v (by rw [e2]; exact List.mem_cons_self)
        rw [if_neg (by omega)]
        exact osEqR (hg _ g4) (hwd j n v e1 e2)) hA
      cases hALL.symm.trans ht
      exact hT
    · intro j bs hj
      have hj6 : j < 6 := (List.getElem?_eq_some_iff.mp hj).1
      show va_O "java/lang/String" (if j < 100 then tx j else tv (j - 100)) _ s s.heap ∧ va_OF "java/lang/String" "coder" "B" (.int 0) (if j < 100 then tx j else tv (j - 100)) _ s s.heap ∧ va_OF "java/lang/String" "value" "[B" (.ref (if 100 + j < 100 then tx (100 + j) else tv (100 + j - 100))) (if j < 100 then tx j else tv (j - 100)) _ s s.heap ∧ va_T .byte (if 100 + j < 100 then tx (100 + j) else tv (100 + j - 100)) bs.length (fun i => .int (bs.getD i 0)) _ s s.heap
      rw [if_pos (by omega), if_neg (by omega), show 100 + j - 100 = j by omega]
      exact htv j bs hj
    · exact va_Zof (hts _ (List.mem_of_getElem? (i := 664) (by decide +kernel))) (hts _ (List.mem_of_getElem? (i := 170) (by decide +kernel))) (va_eqt (hg _ (by decide +kernel))) hA
    · exact va_Zqof (hts _ (List.mem_of_getElem? (i := 680) (by decide +kernel))) (hts _ (List.mem_of_getElem? (i := 172) (by decide +kernel))) (hg _ (by decide +kernel)) hA
    · intro i j A B h1 h2 hij
      have hne : A ≠ B := fun e => osEx_nodup i (List.getElem?_eq_some_iff.mp h1).1 j (List.getElem?_eq_some_iff.mp h2).1 hij (by rw [h1, h2, e])
      exact va_Nc.of (hg _ (osG_ex A (List.mem_of_getElem? h1) B (List.mem_of_getElem? h2) hne))
  · refine ⟨?_, ?_, ?_⟩
    · intro i j hi hj e
      replace e : (if i = 15 then aA else wd i) = (if j = 15 then aA else wd j) := e
      rw [if_neg (by omega), if_neg (by omega)] at e
      obtain ⟨n1, v1, a1, a2⟩ := hpk i hi
      obtain ⟨n2, v2, b1, b2⟩ := hpk j hj
      obtain ⟨-, -, g3, -⟩ := osG_wd i hi n1 (by rw [a1]; exact List.mem_cons_self) v1 (by rw [a2]; exact List.mem_cons_self)
      obtain ⟨-, -, g4, -⟩ := osG_wd j hj n2 (by rw [b1]; exact List.mem_cons_self) v2 (by rw [b2]; exact List.mem_cons_self)
      obtain ⟨c1, k1, i1, f1, cell1, x1, -, x3, -, x5, -⟩ := vk_OFof (A := fun q => s.heap.size ≤ q) (hwd i n1 v1 a1 a2) (va_eqtl (hg _ g3)) hA
      obtain ⟨c2, k2, i2, f2, cell2, y1, -, y3, -, y5, -⟩ := vk_OFof (A := fun q => s.heap.size ≤ q) (hwd j n2 v2 b1 b2) (va_eqtl (hg _ g4)) hA
      cases x1.symm.trans y1
      rw [e] at x3
      cases x3.symm.trans y3
      have hv : v1 = v2 := by
        have := x5.symm.trans y5
        cases this; rfl
      subst hv
      exact osPk_inj i hi j hj (by rw [a2, b2])
    · intro i j hi hj e
      replace e : (if i < 100 then tx i else tv (i - 100)) = (if j < 100 then tx j else tv (j - 100)) := e
      rw [if_pos (by omega), if_pos (by omega)] at e
      obtain ⟨-, -, p3, p4⟩ := htv i _ (osTs_at hi)
      obtain ⟨-, -, r3, r4⟩ := htv j _ (osTs_at hj)
      obtain ⟨c1, k1, i1, f1, cell1, x1, -, x3, -, x5, -⟩ := p3
      obtain ⟨c2, k2, i2, f2, cell2, y1, -, y3, -, y5, -⟩ := r3
      cases x1.symm.trans y1
      rw [e] at x3
      cases x3.symm.trans y3
      have hv : tv i = tv j := Value.ref.inj (Option.some.inj (x5.symm.trans y5))
      rw [hv] at p4
      exact osTs_apart hi hj p4 r4
    · intro i j hi hj e
      replace e : (if 100 + i < 100 then tx (100 + i) else tv (100 + i - 100)) = (if 100 + j < 100 then tx (100 + j) else tv (100 + j - 100)) := e
      rw [if_neg (by omega), if_neg (by omega), show 100 + i - 100 = i by omega, show 100 + j - 100 = j by omega] at e
      obtain ⟨-, -, -, p4⟩ := htv i _ (osTs_at hi)
      obtain ⟨-, -, -, r4⟩ := htv j _ (osTs_at hj)
      rw [e] at p4
      exact osTs_apart hi hj p4 r4
