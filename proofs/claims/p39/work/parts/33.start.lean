/-! from the law's entry: what the tables and the statics give (by program) -/
theorem osSelPriv {s : State} {args : Array Value} {C : String} {n : Nat} {y x2 y2 : MethodName} (hi : (Cond.instantiable C n).before args s = true) (hpriv : (Cond.privateMethod y).before args s = true) (hinst : (Cond.instanceMethod y).before args s = true) (hsel : (Cond.selects C x2 y2).before args s = true) (hy2 : y2.cls = y.cls) (hy : y.cls ≠ "java/lang/invoke/MethodHandle" ∧ y.cls ≠ "java/lang/invoke/VarHandle") : (Cond.selects C y y).before args s = true := by
  obtain ⟨c, k, hc, hk, -, hniab, -, -⟩ := Cond.instantiable_spec hi
  obtain ⟨c2, r2, m2, q1, q2, q3, q4, kP, hkP, hkPi⟩ := Cond.selects_spec hsel
  obtain ⟨mk, methM, hnamed, hmethM, -, -⟩ := Cond.instanceMethod_spec hinst
  have hfound : s.methodFound? y.cls y.name y.desc = some mk := State.methodFound?_of_named hnamed hy
  have hcls : mk.cls = m2.cls := by
    have h1 := findClass_of_methodNamed hnamed
    have h2 := findClass_of_methodNamed q3
    rw [hy2] at h2
    exact Option.some.inj (h1.symm.trans h2)
  have hsel9 : selectMethod {} s.vm c mk = .method mk := selectMethod_private hmethM (Cond.privateMethod_at hpriv mk methM hnamed hmethM)
  simp only [Cond.before, Cond.holds, Cond.value, hc, hfound, hnamed, hsel9, hcls, hkP]
  simp
  exact hkPi
theorem osX_start {s : State} {args : Array Value} (hts : ∀ w ∈ lw_tbl, w.before args s = true) : ∀ w ∈ osX, w.before #[] s = true := by
  intro w hw
  obtain ⟨h1, h2⟩ := List.mem_filter.mp hw
  refine osOt_at (a := args) h2 (State.WarmedH.refl s) ?_
  rcases List.mem_append.mp h1 with h | h
  · rcases List.mem_cons.mp h with rfl | h
    · exact osSelPriv (n := 10) (x2 := ⟨"OrderSettler$MapReader", "begin", "([BI)V"⟩) (y2 := ⟨"OrderSettler$TextReader", "begin", "([BI)V"⟩) (hts _ (List.mem_of_getElem? (i := 99) (by decide +kernel))) (hts _ (List.mem_of_getElem? (i := 652) (by decide +kernel))) (hts _ (List.mem_of_getElem? (i := 653) (by decide +kernel))) (hts _ (List.mem_of_getElem? (i := 645) (by decide +kernel))) rfl ⟨by decide +kernel, by decide +kernel⟩
    · rcases List.mem_cons.mp h with rfl | h
      · exact osSelPriv (n := 10) (x2 := ⟨"OrderSettler$TurnReader", "begin", "([BI)V"⟩) (y2 := ⟨"OrderSettler$TextReader", "begin", "([BI)V"⟩) (hts _ (List.mem_of_getElem? (i := 149) (by decide +kernel))) (hts _ (List.mem_of_getElem? (i := 652) (by decide +kernel))) (hts _ (List.mem_of_getElem? (i := 653) (by decide +kernel))) (hts _ (List.mem_of_getElem? (i := 1111) (by decide +kernel))) rfl ⟨by decide +kernel, by decide +kernel⟩
      · rcases List.mem_cons.mp h with rfl | h
        · exact osSelPriv (n := 4) (x2 := ⟨"java/lang/AbstractStringBuilder", "isLatin1", "()Z"⟩) (y2 := ⟨"java/lang/AbstractStringBuilder", "isLatin1", "()Z"⟩) (hts _ (List.mem_of_getElem? (i := 829) (by decide +kernel))) (hts _ (List.mem_of_getElem? (i := 873) (by decide +kernel))) (hts _ (List.mem_of_getElem? (i := 874) (by decide +kernel))) (hts _ (List.mem_of_getElem? (i := 908) (by decide +kernel))) rfl ⟨by decide +kernel, by decide +kernel⟩
        · rcases List.mem_cons.mp h with rfl | h
          · exact osSelPriv (n := 4) (x2 := ⟨"java/lang/AbstractStringBuilder", "isLatin1", "()Z"⟩) (y2 := ⟨"java/lang/AbstractStringBuilder", "isLatin1", "()Z"⟩) (hts _ (List.mem_of_getElem? (i := 829) (by decide +kernel))) (hts _ (List.mem_of_getElem? (i := 877) (by decide +kernel))) (hts _ (List.mem_of_getElem? (i := 878) (by decide +kernel))) (hts _ (List.mem_of_getElem? (i := 908) (by decide +kernel))) rfl ⟨by decide +kernel, by decide +kernel⟩
          · rcases List.mem_cons.mp h with rfl | h
            · exact osSelPriv (n := 4) (x2 := ⟨"java/lang/AbstractStringBuilder", "isLatin1", "()Z"⟩) (y2 := ⟨"java/lang/AbstractStringBuilder", "isLatin1", "()Z"⟩) (hts _ (List.mem_of_getElem? (i := 829) (by decide +kernel))) (hts _ (List.mem_of_getElem? (i := 927) (by decide +kernel))) (hts _ (List.mem_of_getElem? (i := 928) (by decide +kernel))) (hts _ (List.mem_of_getElem? (i := 908) (by decide +kernel))) rfl ⟨by decide +kernel, by decide +kernel⟩
            · rcases List.mem_cons.mp h with rfl | h
              · exact osSelPriv (n := 4) (x2 := ⟨"java/lang/AbstractStringBuilder", "isLatin1", "()Z"⟩) (y2 := ⟨"java/lang/AbstractStringBuilder", "isLatin1", "()Z"⟩) (hts _ (List.mem_of_getElem? (i := 829) (by decide +kernel))) (hts _ (List.mem_of_getElem? (i := 931) (by decide +kernel))) (hts _ (List.mem_of_getElem? (i := 932) (by decide +kernel))) (hts _ (List.mem_of_getElem? (i := 908) (by decide +kernel))) rfl ⟨by decide +kernel, by decide +kernel⟩
              · cases h
  · exact hts w h
theorem osK_start {s : State} (hX : ∀ w ∈ osX, w.before #[] s = true) (hO : va_AO "OrderSettler$State" s) : ∃ (dD : va_G) (dA : Nat → ClassId), va_K dD vwCl [(dA 0, .int), (dA 1, .byte), (dA 2, .int), (dA 3, .int), (dA 4, .int), (dA 5, .object "OrderSettler$State"), (dA 6, .int)] s := by
  obtain ⟨c0, i0, k0⟩ := u_known hX osinX0 (hX _ wd282)
  obtain ⟨c1, i1, k1⟩ := u_known hX osinX1 (hX _ wd172)
  obtain ⟨c2, i2, k2⟩ := u_known hX osinX2 (hX _ wd178)
  obtain ⟨c3, i3, k3⟩ := u_known hX osinX3 (hX _ wd105)
  obtain ⟨c4, i4, k4⟩ := u_known hX osinX4 (hX _ wd91)
  obtain ⟨c5, i5, k5⟩ := u_known hX osinX5 (hX _ wd336)
  obtain ⟨c6, i6, k6⟩ := u_known hX osinX7 (hX _ wd155)
  obtain ⟨c7, i7, k7⟩ := u_known hX osinX9 (hX _ wd83)
  obtain ⟨c8, i8, k8⟩ := u_known hX osinJ0 (hX _ wd991)
  obtain ⟨c9, i9, k9⟩ := u_known hX osinJ4 (hX _ wd835)
  have arr : ∀ ty : FieldType, (Cond.arrayClass ty).before #[] s = true → ∃ c : ClassId, ArrOfT s c ty ∧ s.vm.findClass ("[" ++ ty.toString) = some c := by
    intro ty h
    obtain ⟨c, k, comp, h1, h2, h3⟩ := Cond.arrayClass_spec h
    exact ⟨c, fun n z => ⟨fun k h => (by cases h), k, h2, comp, h3⟩, h1⟩
  obtain ⟨aint, bint, eint⟩ := arr .int (hX _ wd248)
  obtain ⟨abyte, bbyte, ebyte⟩ := arr .byte (hX _ wd103)
  obtain ⟨comp, cS, kS, s1, s2, s3, s4, s5⟩ := Cond.arrayOver_spec (va_AO.use (A := #[]) hO)
  have bS : ArrOfT s cS (.object "OrderSettler$State") := fun n z => ⟨fun k h => (by cases h), kS, s3, comp, s4⟩
  refine ⟨(fun k => match k with | 0 => c0 | 1 => c1 | 2 => c2 | 3 => c3 | 4 => c4 | 5 => c5 | 6 => c6 | 7 => c7 | 8 => c8 | _ => c9, fun k => match k with | 0 => i0 | 1 => i1 | 2 => i2 | 3 => i3 | 4 => i4 | 5 => i5 | 6 => i6 | 7 => i7 | 8 => i8 | _ => i9), fun k => match k with | 0 => aint | 1 => abyte | 2 => aint | 3 => aint | 4 => aint | 5 => cS | _ => aint, ?_, ?_⟩
  · intro c q hq
    match c, hq with
    | 0, hq => cases hq; exact k0
    | 1, hq => cases hq; exact k1
    | 2, hq => cases hq; exact k2
    | 3, hq => cases hq; exact k3
    | 4, hq => cases hq; exact k4
    | 5, hq => cases hq; exact k5
    | 6, hq => cases hq; exact k6
    | 7, hq => cases hq; exact k7
    | 8, hq => cases hq; exact k8
    | 9, hq => cases hq; exact k9
    | n + 10, hq => simp [vwCl] at hq
  · intro k q hq
    match k, hq with
    | 0, hq => cases hq; exact ⟨bint, eint⟩
    | 1, hq => cases hq; exact ⟨bbyte, ebyte⟩
    | 2, hq => cases hq; exact ⟨bint, eint⟩
    | 3, hq => cases hq; exact ⟨bint, eint⟩
    | 4, hq => cases hq; exact ⟨bint, eint⟩
    | 5, hq => cases hq; exact ⟨bS, kS, comp, s3, s4, s1, s5⟩
    | 6, hq => cases hq; exact ⟨bint, eint⟩
    | n + 7, hq => simp at hq
theorem osEqR {args : Array Value} {s : State} {t u : Term} {a : Nat} (h : (Cond.eq t u).before args s = true) (hu : u.eval args s none [] s = some (.ref a)) : t.eval args s none [] s = some (.ref a) := by
  cases hv : t.eval args s none [] s with
  | none => simp [Cond.before, Cond.holds, Cond.value, hv] at h
  | some w =>
    simp only [Cond.before, Cond.holds, Cond.value, hv, hu] at h
    cases w <;> simp_all
/-- a text's parts -/
theorem osStr1 {args : Array Value} {s : State} {t : Term} {bs : List Int32} {A : Nat → Prop} {a : Nat} (hN : bs.length < 2 ^ 31) (ha : t.eval args s none [] s = some (.ref a)) (hex : (Cond.exactly t "java/lang/String").before args s = true) (hco : (Cond.eq (.field t "java/lang/String" "coder" "B") (.int 0)).before args s = true)
    (har : (Cond.arrayOf (.field t "java/lang/String" "value" "[B") .byte).before args s = true) (hle : (Cond.eq (.length (.field t "java/lang/String" "value" "[B")) (.int (Int32.ofNat bs.length))).before args s = true)
    (hel : ∀ j : Nat, j < bs.length → (Cond.eq (.elem (.field t "java/lang/String" "value" "[B") (.int (Int32.ofNat j))) (.int (bs.getD j 0))).before args s = true) (hA : ∀ a : Nat, a < s.heap.size → ¬ A a) :
    ∃ v : Nat, va_O "java/lang/String" a A s s.heap ∧ va_OF "java/lang/String" "coder" "B" (.int 0) a A s s.heap ∧ va_OF "java/lang/String" "value" "[B" (.ref v) a A s s.heap ∧ va_T .byte v bs.length (fun i => .int (bs.getD i 0)) A s s.heap := by
  obtain ⟨a9, c, cA, kA, q1, q2, q3, q4, q5, q6, -⟩ := Cond.exactly_spec hex
  cases ha.symm.trans q1
  obtain ⟨v, hv, hT⟩ := va_Tof (f := fun j => .int (bs.getD j 0)) (A := A) hN har (va_eqt hle) (fun j hj => va_eqt (hel j hj)) hA
  exact ⟨v, ⟨cA, q3, q5, by rw [q6]; exact q2, hA a (Array.getElem?_eq_some_iff.mp q3).1⟩, vk_OFof q1 (va_eqt hco) hA, vk_OFof q1 hv hA, hT⟩
def osGv : List Cond := flatC (Jvm.Cond.and given_1 narrow_1)
theorem osG_at {ws : List Cond} {ps : List Nat} (hp : ps.map (fun i => osGv[i]?) = ws.map some) : ∀ w ∈ ws, w ∈ osGv := by
  intro w hw
  obtain ⟨j, hj⟩ := List.getElem?_of_mem hw
  have h1 : (ps.map (fun i => osGv[i]?))[j]? = some (some w) := by rw [hp, List.getElem?_map, hj]; rfl
  rw [List.getElem?_map] at h1
  cases hi : ps[j]? with
  | none => rw [hi] at h1; cases h1
  | some i => rw [hi] at h1; exact List.mem_of_getElem? (Option.some.inj h1)
theorem osgt0 : ([289, 290, 291, 292, 293, 294, 295, 296] : List Nat).map (fun i => osGv[i]?) = ([.exactly (.string "OrderSettlerLaw" 46) "java/lang/String", .eq (.field (.string "OrderSettlerLaw" 46) "java/lang/String" "coder" "B") (.int 0), .arrayOf (.field (.string "OrderSettlerLaw" 46) "java/lang/String" "value" "[B") .byte, .eq (.length (.field (.string "OrderSettlerLaw" 46) "java/lang/String" "value" "[B")) (.int 4), .eq (.elem (.field (.string "OrderSettlerLaw" 46) "java/lang/String" "value" "[B") (.int 0)) (.int 115), .eq (.elem (.field (.string "OrderSettlerLaw" 46) "java/lang/String" "value" "[B") (.int 1)) (.int 101), .eq (.elem (.field (.string "OrderSettlerLaw" 46) "java/lang/String" "value" "[B") (.int 2)) (.int 97), .eq (.elem (.field (.string "OrderSettlerLaw" 46) "java/lang/String" "value" "[B") (.int 3)) (.int 32)] : List Cond).map some := by decide +kernel
theorem osgm0 : ∀ w ∈ ([.exactly (.string "OrderSettlerLaw" 46) "java/lang/String", .eq (.field (.string "OrderSettlerLaw" 46) "java/lang/String" "coder" "B") (.int 0), .arrayOf (.field (.string "OrderSettlerLaw" 46) "java/lang/String" "value" "[B") .byte, .eq (.length (.field (.string "OrderSettlerLaw" 46) "java/lang/String" "value" "[B")) (.int 4), .eq (.elem (.field (.string "OrderSettlerLaw" 46) "java/lang/String" "value" "[B") (.int 0)) (.int 115), .eq (.elem (.field (.string "OrderSettlerLaw" 46) "java/lang/String" "value" "[B") (.int 1)) (.int 101), .eq (.elem (.field (.string "OrderSettlerLaw" 46) "java/lang/String" "value" "[B") (.int 2)) (.int 97), .eq (.elem (.field (.string "OrderSettlerLaw" 46) "java/lang/String" "value" "[B") (.int 3)) (.int 32)] : List Cond), w ∈ osGv := osG_at osgt0
theorem osgt1 : ([297, 298, 299, 300, 301, 302, 303, 304, 305, 306] : List Nat).map (fun i => osGv[i]?) = ([.exactly (.string "OrderSettlerLaw" 48) "java/lang/String", .eq (.field (.string "OrderSettlerLaw" 48) "java/lang/String" "coder" "B") (.int 0), .arrayOf (.field (.string "OrderSettlerLaw" 48) "java/lang/String" "value" "[B") .byte, .eq (.length (.field (.string "OrderSettlerLaw" 48) "java/lang/String" "value" "[B")) (.int 6), .eq (.elem (.field (.string "OrderSettlerLaw" 48) "java/lang/String" "value" "[B") (.int 0)) (.int 99), .eq (.elem (.field (.string "OrderSettlerLaw" 48) "java/lang/String" "value" "[B") (.int 1)) (.int 111), .eq (.elem (.field (.string "OrderSettlerLaw" 48) "java/lang/String" "value" "[B") (.int 2)) (.int 97), .eq (.elem (.field (.string "OrderSettlerLaw" 48) "java/lang/String" "value" "[B") (.int 3)) (.int 115), .eq (.elem (.field (.string "OrderSettlerLaw" 48) "java/lang/String" "value" "[B") (.int 4)) (.int 116), .eq (.elem (.field (.string "OrderSettlerLaw" 48) "java/lang/String" "value" "[B") (.int 5)) (.int 32)] : List Cond).map some := by decide +kernel
theorem osgm1 : ∀ w ∈ ([.exactly (.string "OrderSettlerLaw" 48) "java/lang/String", .eq (.field (.string "OrderSettlerLaw" 48) "java/lang/String" "coder" "B") (.int 0), .arrayOf (.field (.string "OrderSettlerLaw" 48) "java/lang/String" "value" "[B") .byte, .eq (.length (.field (.string "OrderSettlerLaw" 48) "java/lang/String" "value" "[B")) (.int 6), .eq (.elem (.field (.string "OrderSettlerLaw" 48) "java/lang/String" "value" "[B") (.int 0)) (.int 99), .eq (.elem (.field (.string "OrderSettlerLaw" 48) "java/lang/String" "value" "[B") (.int 1)) (.int 111), .eq (.elem (.field (.string "OrderSettlerLaw" 48) "java/lang/String" "value" "[B") (.int 2)) (.int 97), .eq (.elem (.field (.string "OrderSettlerLaw" 48) "java/lang/String" "value" "[B") (.int 3)) (.int 115), .eq (.elem (.field (.string "OrderSettlerLaw" 48) "java/lang/String" "value" "[B") (.int 4)) (.int 116), .eq (.elem (.field (.string "OrderSettlerLaw" 48) "java/lang/String" "value" "[B") (.int 5)) (.int 32)] : List Cond), w ∈ osGv := osG_at osgt1
theorem osgt2 : ([307, 308, 309, 310, 311, 312, 313, 314, 315] : List Nat).map (fun i => osGv[i]?) = ([.exactly (.string "OrderSettlerLaw" 50) "java/lang/String", .eq (.field (.string "OrderSettlerLaw" 50) "java/lang/String" "coder" "B") (.int 0), .arrayOf (.field (.string "OrderSettlerLaw" 50) "java/lang/String" "value" "[B") .byte, .eq (.length (.field (.string "OrderSettlerLaw" 50) "java/lang/String" "value" "[B")) (.int 5), .eq (.elem (.field (.string "OrderSettlerLaw" 50) "java/lang/String" "value" "[B") (.int 0)) (.int 108), .eq (.elem (.field (.string "OrderSettlerLaw" 50) "java/lang/String" "value" "[B") (.int 1)) (.int 97), .eq (.elem (.field (.string "OrderSettlerLaw" 50) "java/lang/String" "value" "[B") (.int 2)) (.int 110), .eq (.elem (.field (.string "OrderSettlerLaw" 50) "java/lang/String" "value" "[B") (.int 3)) (.int 100), .eq (.elem (.field (.string "OrderSettlerLaw" 50) "java/lang/String" "value" "[B") (.int 4)) (.int 32)] : List Cond).map some := by decide +kernel
theorem osgm2 : ∀ w ∈ ([.exactly (.string "OrderSettlerLaw" 50) "java/lang/String", .eq (.field (.string "OrderSettlerLaw" 50) "java/lang/String" "coder" "B") (.int 0), .arrayOf (.field (.string "OrderSettlerLaw" 50) "java/lang/String" "value" "[B") .byte, .eq (.length (.field (.string "OrderSettlerLaw" 50) "java/lang/String" "value" "[B")) (.int 5), .eq (.elem (.field (.string "OrderSettlerLaw" 50) "java/lang/String" "value" "[B") (.int 0)) (.int 108), .eq (.elem (.field (.string "OrderSettlerLaw" 50) "java/lang/String" "value" "[B") (.int 1)) (.int 97), .eq (.elem (.field (.string "OrderSettlerLaw" 50) "java/lang/String" "value" "[B") (.int 2)) (.int 110), .eq (.elem (.field (.string "OrderSettlerLaw" 50) "java/lang/String" "value" "[B") (.int 3)) (.int 100), .eq (.elem (.field (.string "OrderSettlerLaw" 50) "java/lang/String" "value" "[B") (.int 4)) (.int 32)] : List Cond), w ∈ osGv := osG_at osgt2
theorem osgt3 : ([316, 317, 318, 319, 320, 321, 322, 323, 324, 325, 326, 327] : List Nat).map (fun i => osGv[i]?) = ([.exactly (.string "OrderSettlerLaw" 59) "java/lang/String", .eq (.field (.string "OrderSettlerLaw" 59) "java/lang/String" "coder" "B") (.int 0), .arrayOf (.field (.string "OrderSettlerLaw" 59) "java/lang/String" "value" "[B") .byte, .eq (.length (.field (.string "OrderSettlerLaw" 59) "java/lang/String" "value" "[B")) (.int 8), .eq (.elem (.field (.string "OrderSettlerLaw" 59) "java/lang/String" "value" "[B") (.int 0)) (.int 32), .eq (.elem (.field (.string "OrderSettlerLaw" 59) "java/lang/String" "value" "[B") (.int 1)) (.int 99), .eq (.elem (.field (.string "OrderSettlerLaw" 59) "java/lang/String" "value" "[B") (.int 2)) (.int 101), .eq (.elem (.field (.string "OrderSettlerLaw" 59) "java/lang/String" "value" "[B") (.int 3)) (.int 110), .eq (.elem (.field (.string "OrderSettlerLaw" 59) "java/lang/String" "value" "[B") (.int 4)) (.int 116), .eq (.elem (.field (.string "OrderSettlerLaw" 59) "java/lang/String" "value" "[B") (.int 5)) (.int 101), .eq (.elem (.field (.string "OrderSettlerLaw" 59) "java/lang/String" "value" "[B") (.int 6)) (.int 114), .eq (.elem (.field (.string "OrderSettlerLaw" 59) "java/lang/String" "value" "[B") (.int 7)) (.int 59)] : List Cond).map some := by decide +kernel
theorem osgm3 : ∀ w ∈ ([.exactly (.string "OrderSettlerLaw" 59) "java/lang/String", .eq (.field (.string "OrderSettlerLaw" 59) "java/lang/String" "coder" "B") (.int 0), .arrayOf (.field (.string "OrderSettlerLaw" 59) "java/lang/String" "value" "[B") .byte, .eq (.length (.field (.string "OrderSettlerLaw" 59) "java/lang/String" "value" "[B")) (.int 8), .eq (.elem (.field (.string "OrderSettlerLaw" 59) "java/lang/String" "value" "[B") (.int 0)) (.int 32), .eq (.elem (.field (.string "OrderSettlerLaw" 59) "java/lang/String" "value" "[B") (.int 1)) (.int 99), .eq (.elem (.field (.string "OrderSettlerLaw" 59) "java/lang/String" "value" "[B") (.int 2)) (.int 101), .eq (.elem (.field (.string "OrderSettlerLaw" 59) "java/lang/String" "value" "[B") (.int 3)) (.int 110), .eq (.elem (.field (.string "OrderSettlerLaw" 59) "java/lang/String" "value" "[B") (.int 4)) (.int 116), .eq (.elem (.field (.string "OrderSettlerLaw" 59) "java/lang/String" "value" "[B") (.int 5)) (.int 101), .eq (.elem (.field (.string "OrderSettlerLaw" 59) "java/lang/String" "value" "[B") (.int 6)) (.int 114), .eq (.elem (.field (.string "OrderSettlerLaw" 59) "java/lang/String" "value" "[B") (.int 7)) (.int 59)] : List Cond), w ∈ osGv := osG_at osgt3
theorem osgt4 : ([328, 329, 330, 331, 332] : List Nat).map (fun i => osGv[i]?) = ([.exactly (.string "OrderSettlerLaw" 61) "java/lang/String", .eq (.field (.string "OrderSettlerLaw" 61) "java/lang/String" "coder" "B") (.int 0), .arrayOf (.field (.string "OrderSettlerLaw" 61) "java/lang/String" "value" "[B") .byte, .eq (.length (.field (.string "OrderSettlerLaw" 61) "java/lang/String" "value" "[B")) (.int 1), .eq (.elem (.field (.string "OrderSettlerLaw" 61) "java/lang/String" "value" "[B") (.int 0)) (.int 59)] : List Cond).map some := by decide +kernel
theorem osgm4 : ∀ w ∈ ([.exactly (.string "OrderSettlerLaw" 61) "java/lang/String", .eq (.field (.string "OrderSettlerLaw" 61) "java/lang/String" "coder" "B") (.int 0), .arrayOf (.field (.string "OrderSettlerLaw" 61) "java/lang/String" "value" "[B") .byte, .eq (.length (.field (.string "OrderSettlerLaw" 61) "java/lang/String" "value" "[B")) (.int 1), .eq (.elem (.field (.string "OrderSettlerLaw" 61) "java/lang/String" "value" "[B") (.int 0)) (.int 59)] : List Cond), w ∈ osGv := osG_at osgt4
theorem osgt5 : ([333, 334, 335, 336, 337, 338, 339, 340, 341, 342, 343] : List Nat).map (fun i => osGv[i]?) = ([.exactly (.string "OrderSettlerLaw" 73) "java/lang/String", .eq (.field (.string "OrderSettlerLaw" 73) "java/lang/String" "coder" "B") (.int 0), .arrayOf (.field (.string "OrderSettlerLaw" 73) "java/lang/String" "value" "[B") .byte, .eq (.length (.field (.string "OrderSettlerLaw" 73) "java/lang/String" "value" "[B")) (.int 7), .eq (.elem (.field (.string "OrderSettlerLaw" 73) "java/lang/String" "value" "[B") (.int 0)) (.int 98), .eq (.elem (.field (.string "OrderSettlerLaw" 73) "java/lang/String" "value" "[B") (.int 1)) (.int 111), .eq (.elem (.field (.string "OrderSettlerLaw" 73) "java/lang/String" "value" "[B") (.int 2)) (.int 114), .eq (.elem (.field (.string "OrderSettlerLaw" 73) "java/lang/String" "value" "[B") (.int 3)) (.int 100), .eq (.elem (.field (.string "OrderSettlerLaw" 73) "java/lang/String" "value" "[B") (.int 4)) (.int 101), .eq (.elem (.field (.string "OrderSettlerLaw" 73) "java/lang/String" "value" "[B") (.int 5)) (.int 114), .eq (.elem (.field (.string "OrderSettlerLaw" 73) "java/lang/String" "value" "[B") (.int 6)) (.int 32)] : List Cond).map some := by decide +kernel
theorem osgm5 : ∀ w ∈ ([.exactly (.string "OrderSettlerLaw" 73) "java/lang/String", .eq (.field (.string "OrderSettlerLaw" 73) "java/lang/String" "coder" "B") (.int 0), .arrayOf (.field (.string "OrderSettlerLaw" 73) "java/lang/String" "value" "[B") .byte, .eq (.length (.field (.string "OrderSettlerLaw" 73) "java/lang/String" "value" "[B")) (.int 7), .eq (.elem (.field (.string "OrderSettlerLaw" 73) "java/lang/String" "value" "[B") (.int 0)) (.int 98), .eq (.elem (.field (.string "OrderSettlerLaw" 73) "java/lang/String" "value" "[B") (.int 1)) (.int 111), .eq (.elem (.field (.string "OrderSettlerLaw" 73) "java/lang/String" "value" "[B") (.int 2)) (.int 114), .eq (.elem (.field (.string "OrderSettlerLaw" 73) "java/lang/String" "value" "[B") (.int 3)) (.int 100), .eq (.elem (.field (.string "OrderSettlerLaw" 73) "java/lang/String" "value" "[B") (.int 4)) (.int 101), .eq (.elem (.field (.string "OrderSettlerLaw" 73) "java/lang/String" "value" "[B") (.int 5)) (.int 114), .eq (.elem (.field (.string "OrderSettlerLaw" 73) "java/lang/String" "value" "[B") (.int 6)) (.int 32)] : List Cond), w ∈ osGv := osG_at osgt5
theorem osgt6 : ([344, 345, 346, 347, 348] : List Nat).map (fun i => osGv[i]?) = ([.exactly (.string "OrderSettlerLaw" 75) "java/lang/String", .eq (.field (.string "OrderSettlerLaw" 75) "java/lang/String" "coder" "B") (.int 0), .arrayOf (.field (.string "OrderSettlerLaw" 75) "java/lang/String" "value" "[B") .byte, .eq (.length (.field (.string "OrderSettlerLaw" 75) "java/lang/String" "value" "[B")) (.int 1), .eq (.elem (.field (.string "OrderSettlerLaw" 75) "java/lang/String" "value" "[B") (.int 0)) (.int 32)] : List Cond).map some := by decide +kernel
theorem osgm6 : ∀ w ∈ ([.exactly (.string "OrderSettlerLaw" 75) "java/lang/String", .eq (.field (.string "OrderSettlerLaw" 75) "java/lang/String" "coder" "B") (.int 0), .arrayOf (.field (.string "OrderSettlerLaw" 75) "java/lang/String" "value" "[B") .byte, .eq (.length (.field (.string "OrderSettlerLaw" 75) "java/lang/String" "value" "[B")) (.int 1), .eq (.elem (.field (.string "OrderSettlerLaw" 75) "java/lang/String" "value" "[B") (.int 0)) (.int 32)] : List Cond), w ∈ osGv := osG_at osgt6
theorem osgt7 : ([349, 350, 351, 352, 353, 354, 355, 356, 357, 358] : List Nat).map (fun i => osGv[i]?) = ([.exactly (.string "OrderSettlerLaw" 67) "java/lang/String", .eq (.field (.string "OrderSettlerLaw" 67) "java/lang/String" "coder" "B") (.int 0), .arrayOf (.field (.string "OrderSettlerLaw" 67) "java/lang/String" "value" "[B") .byte, .eq (.length (.field (.string "OrderSettlerLaw" 67) "java/lang/String" "value" "[B")) (.int 6), .eq (.elem (.field (.string "OrderSettlerLaw" 67) "java/lang/String" "value" "[B") (.int 0)) (.int 112), .eq (.elem (.field (.string "OrderSettlerLaw" 67) "java/lang/String" "value" "[B") (.int 1)) (.int 111), .eq (.elem (.field (.string "OrderSettlerLaw" 67) "java/lang/String" "value" "[B") (.int 2)) (.int 119), .eq (.elem (.field (.string "OrderSettlerLaw" 67) "java/lang/String" "value" "[B") (.int 3)) (.int 101), .eq (.elem (.field (.string "OrderSettlerLaw" 67) "java/lang/String" "value" "[B") (.int 4)) (.int 114), .eq (.elem (.field (.string "OrderSettlerLaw" 67) "java/lang/String" "value" "[B") (.int 5)) (.int 32)] : List Cond).map some := by decide +kernel
theorem osgm7 : ∀ w ∈ ([.exactly (.string "OrderSettlerLaw" 67) "java/lang/String", .eq (.field (.string "OrderSettlerLaw" 67) "java/lang/String" "coder" "B") (.int 0), .arrayOf (.field (.string "OrderSettlerLaw" 67) "java/lang/String" "value" "[B") .byte, .eq (.length (.field (.string "OrderSettlerLaw" 67) "java/lang/String" "value" "[B")) (.int 6), .eq (.elem (.field (.string "OrderSettlerLaw" 67) "java/lang/String" "value" "[B") (.int 0)) (.int 112), .eq (.elem (.field (.string "OrderSettlerLaw" 67) "java/lang/String" "value" "[B") (.int 1)) (.int 111), .eq (.elem (.field (.string "OrderSettlerLaw" 67) "java/lang/String" "value" "[B") (.int 2)) (.int 119), .eq (.elem (.field (.string "OrderSettlerLaw" 67) "java/lang/String" "value" "[B") (.int 3)) (.int 101), .eq (.elem (.field (.string "OrderSettlerLaw" 67) "java/lang/String" "value" "[B") (.int 4)) (.int 114), .eq (.elem (.field (.string "OrderSettlerLaw" 67) "java/lang/String" "value" "[B") (.int 5)) (.int 32)] : List Cond), w ∈ osGv := osG_at osgt7
theorem osgt8 : ([359, 360, 361, 362, 363, 364, 365, 366, 367, 368] : List Nat).map (fun i => osGv[i]?) = ([.exactly (.string "OrderSettlerLaw" 77) "java/lang/String", .eq (.field (.string "OrderSettlerLaw" 77) "java/lang/String" "coder" "B") (.int 0), .arrayOf (.field (.string "OrderSettlerLaw" 77) "java/lang/String" "value" "[B") .byte, .eq (.length (.field (.string "OrderSettlerLaw" 77) "java/lang/String" "value" "[B")) (.int 6), .eq (.elem (.field (.string "OrderSettlerLaw" 77) "java/lang/String" "value" "[B") (.int 0)) (.int 102), .eq (.elem (.field (.string "OrderSettlerLaw" 77) "java/lang/String" "value" "[B") (.int 1)) (.int 108), .eq (.elem (.field (.string "OrderSettlerLaw" 77) "java/lang/String" "value" "[B") (.int 2)) (.int 101), .eq (.elem (.field (.string "OrderSettlerLaw" 77) "java/lang/String" "value" "[B") (.int 3)) (.int 101), .eq (.elem (.field (.string "OrderSettlerLaw" 77) "java/lang/String" "value" "[B") (.int 4)) (.int 116), .eq (.elem (.field (.string "OrderSettlerLaw" 77) "java/lang/String" "value" "[B") (.int 5)) (.int 32)] : List Cond).map some := by decide +kernel
theorem osgm8 : ∀ w ∈ ([.exactly (.string "OrderSettlerLaw" 77) "java/lang/String", .eq (.field (.string "OrderSettlerLaw" 77) "java/lang/String" "coder" "B") (.int 0), .arrayOf (.field (.string "OrderSettlerLaw" 77) "java/lang/String" "value" "[B") .byte, .eq (.length (.field (.string "OrderSettlerLaw" 77) "java/lang/String" "value" "[B")) (.int 6), .eq (.elem (.field (.string "OrderSettlerLaw" 77) "java/lang/String" "value" "[B") (.int 0)) (.int 102), .eq (.elem (.field (.string "OrderSettlerLaw" 77) "java/lang/String" "value" "[B") (.int 1)) (.int 108), .eq (.elem (.field (.string "OrderSettlerLaw" 77) "java/lang/String" "value" "[B") (.int 2)) (.int 101), .eq (.elem (.field (.string "OrderSettlerLaw" 77) "java/lang/String" "value" "[B") (.int 3)) (.int 101), .eq (.elem (.field (.string "OrderSettlerLaw" 77) "java/lang/String" "value" "[B") (.int 4)) (.int 116), .eq (.elem (.field (.string "OrderSettlerLaw" 77) "java/lang/String" "value" "[B") (.int 5)) (.int 32)] : List Cond), w ∈ osGv := osG_at osgt8
theorem osgt9 : ([369, 370, 371, 372, 373, 374, 375, 376, 377] : List Nat).map (fun i => osGv[i]?) = ([.exactly (.string "OrderSettlerLaw" 79) "java/lang/String", .eq (.field (.string "OrderSettlerLaw" 79) "java/lang/String" "coder" "B") (.int 0), .arrayOf (.field (.string "OrderSettlerLaw" 79) "java/lang/String" "value" "[B") .byte, .eq (.length (.field (.string "OrderSettlerLaw" 79) "java/lang/String" "value" "[B")) (.int 5), .eq (.elem (.field (.string "OrderSettlerLaw" 79) "java/lang/String" "value" "[B") (.int 0)) (.int 97), .eq (.elem (.field (.string "OrderSettlerLaw" 79) "java/lang/String" "value" "[B") (.int 1)) (.int 114), .eq (.elem (.field (.string "OrderSettlerLaw" 79) "java/lang/String" "value" "[B") (.int 2)) (.int 109), .eq (.elem (.field (.string "OrderSettlerLaw" 79) "java/lang/String" "value" "[B") (.int 3)) (.int 121), .eq (.elem (.field (.string "OrderSettlerLaw" 79) "java/lang/String" "value" "[B") (.int 4)) (.int 32)] : List Cond).map some := by decide +kernel
theorem osgm9 : ∀ w ∈ ([.exactly (.string "OrderSettlerLaw" 79) "java/lang/String", .eq (.field (.string "OrderSettlerLaw" 79) "java/lang/String" "coder" "B") (.int 0), .arrayOf (.field (.string "OrderSettlerLaw" 79) "java/lang/String" "value" "[B") .byte, .eq (.length (.field (.string "OrderSettlerLaw" 79) "java/lang/String" "value" "[B")) (.int 5), .eq (.elem (.field (.string "OrderSettlerLaw" 79) "java/lang/String" "value" "[B") (.int 0)) (.int 97), .eq (.elem (.field (.string "OrderSettlerLaw" 79) "java/lang/String" "value" "[B") (.int 1)) (.int 114), .eq (.elem (.field (.string "OrderSettlerLaw" 79) "java/lang/String" "value" "[B") (.int 2)) (.int 109), .eq (.elem (.field (.string "OrderSettlerLaw" 79) "java/lang/String" "value" "[B") (.int 3)) (.int 121), .eq (.elem (.field (.string "OrderSettlerLaw" 79) "java/lang/String" "value" "[B") (.int 4)) (.int 32)] : List Cond), w ∈ osGv := osG_at osgt9
theorem osgt10 : ([430, 431, 432, 433, 434, 435, 436, 437, 438, 439, 440, 441, 442] : List Nat).map (fun i => osGv[i]?) = ([.exactly (.string "OrderSettlerLaw" 81) "java/lang/String", .eq (.field (.string "OrderSettlerLaw" 81) "java/lang/String" "coder" "B") (.int 0), .arrayOf (.field (.string "OrderSettlerLaw" 81) "java/lang/String" "value" "[B") .byte, .eq (.length (.field (.string "OrderSettlerLaw" 81) "java/lang/String" "value" "[B")) (.int 9), .eq (.elem (.field (.string "OrderSettlerLaw" 81) "java/lang/String" "value" "[B") (.int 0)) (.int 32), .eq (.elem (.field (.string "OrderSettlerLaw" 81) "java/lang/String" "value" "[B") (.int 1)) (.int 115), .eq (.elem (.field (.string "OrderSettlerLaw" 81) "java/lang/String" "value" "[B") (.int 2)) (.int 117), .eq (.elem (.field (.string "OrderSettlerLaw" 81) "java/lang/String" "value" "[B") (.int 3)) (.int 112), .eq (.elem (.field (.string "OrderSettlerLaw" 81) "java/lang/String" "value" "[B") (.int 4)) (.int 112), .eq (.elem (.field (.string "OrderSettlerLaw" 81) "java/lang/String" "value" "[B") (.int 5)) (.int 111), .eq (.elem (.field (.string "OrderSettlerLaw" 81) "java/lang/String" "value" "[B") (.int 6)) (.int 114), .eq (.elem (.field (.string "OrderSettlerLaw" 81) "java/lang/String" "value" "[B") (.int 7)) (.int 116), .eq (.elem (.field (.string "OrderSettlerLaw" 81) "java/lang/String" "value" "[B") (.int 8)) (.int 32)] : List Cond).map some := by decide +kernel
theorem osgm10 : ∀ w ∈ ([.exactly (.string "OrderSettlerLaw" 81) "java/lang/String", .eq (.field (.string "OrderSettlerLaw" 81) "java/lang/String" "coder" "B") (.int 0), .arrayOf (.field (.string "OrderSettlerLaw" 81) "java/lang/String" "value" "[B") .byte, .eq (.length (.field (.string "OrderSettlerLaw" 81) "java/lang/String" "value" "[B")) (.int 9), .eq (.elem (.field (.string "OrderSettlerLaw" 81) "java/lang/String" "value" "[B") (.int 0)) (.int 32), .eq (.elem (.field (.string "OrderSettlerLaw" 81) "java/lang/String" "value" "[B") (.int 1)) (.int 115), .eq (.elem (.field (.string "OrderSettlerLaw" 81) "java/lang/String" "value" "[B") (.int 2)) (.int 117), .eq (.elem (.field (.string "OrderSettlerLaw" 81) "java/lang/String" "value" "[B") (.int 3)) (.int 112), .eq (.elem (.field (.string "OrderSettlerLaw" 81) "java/lang/String" "value" "[B") (.int 4)) (.int 112), .eq (.elem (.field (.string "OrderSettlerLaw" 81) "java/lang/String" "value" "[B") (.int 5)) (.int 111), .eq (.elem (.field (.string "OrderSettlerLaw" 81) "java/lang/String" "value" "[B") (.int 6)) (.int 114), .eq (.elem (.field (.string "OrderSettlerLaw" 81) "java/lang/String" "value" "[B") (.int 7)) (.int 116), .eq (.elem (.field (.string "OrderSettlerLaw" 81) "java/lang/String" "value" "[B") (.int 8)) (.int 32)] : List Cond), w ∈ osGv := osG_at osgt10
theorem osgt11 : ([443, 444, 445, 446, 447, 448, 449, 450] : List Nat).map (fun i => osGv[i]?) = ([.exactly (.string "OrderSettlerLaw" 83) "java/lang/String", .eq (.field (.string "OrderSettlerLaw" 83) "java/lang/String" "coder" "B") (.int 0), .arrayOf (.field (.string "OrderSettlerLaw" 83) "java/lang/String" "value" "[B") .byte, .eq (.length (.field (.string "OrderSettlerLaw" 83) "java/lang/String" "value" "[B")) (.int 4), .eq (.elem (.field (.string "OrderSettlerLaw" 83) "java/lang/String" "value" "[B") (.int 0)) (.int 32), .eq (.elem (.field (.string "OrderSettlerLaw" 83) "java/lang/String" "value" "[B") (.int 1)) (.int 116), .eq (.elem (.field (.string "OrderSettlerLaw" 83) "java/lang/String" "value" "[B") (.int 2)) (.int 111), .eq (.elem (.field (.string "OrderSettlerLaw" 83) "java/lang/String" "value" "[B") (.int 3)) (.int 32)] : List Cond).map some := by decide +kernel
theorem osgm11 : ∀ w ∈ ([.exactly (.string "OrderSettlerLaw" 83) "java/lang/String", .eq (.field (.string "OrderSettlerLaw" 83) "java/lang/String" "coder" "B") (.int 0), .arrayOf (.field (.string "OrderSettlerLaw" 83) "java/lang/String" "value" "[B") .byte, .eq (.length (.field (.string "OrderSettlerLaw" 83) "java/lang/String" "value" "[B")) (.int 4), .eq (.elem (.field (.string "OrderSettlerLaw" 83) "java/lang/String" "value" "[B") (.int 0)) (.int 32), .eq (.elem (.field (.string "OrderSettlerLaw" 83) "java/lang/String" "value" "[B") (.int 1)) (.int 116), .eq (.elem (.field (.string "OrderSettlerLaw" 83) "java/lang/String" "value" "[B") (.int 2)) (.int 111), .eq (.elem (.field (.string "OrderSettlerLaw" 83) "java/lang/String" "value" "[B") (.int 3)) (.int 32)] : List Cond), w ∈ osGv := osG_at osgt11
theorem osgt12 : ([451, 452, 453, 454, 455, 456, 457, 458, 459, 460, 461, 462] : List Nat).map (fun i => osGv[i]?) = ([.exactly (.string "OrderSettlerLaw" 85) "java/lang/String", .eq (.field (.string "OrderSettlerLaw" 85) "java/lang/String" "coder" "B") (.int 0), .arrayOf (.field (.string "OrderSettlerLaw" 85) "java/lang/String" "value" "[B") .byte, .eq (.length (.field (.string "OrderSettlerLaw" 85) "java/lang/String" "value" "[B")) (.int 8), .eq (.elem (.field (.string "OrderSettlerLaw" 85) "java/lang/String" "value" "[B") (.int 0)) (.int 32), .eq (.elem (.field (.string "OrderSettlerLaw" 85) "java/lang/String" "value" "[B") (.int 1)) (.int 99), .eq (.elem (.field (.string "OrderSettlerLaw" 85) "java/lang/String" "value" "[B") (.int 2)) (.int 111), .eq (.elem (.field (.string "OrderSettlerLaw" 85) "java/lang/String" "value" "[B") (.int 3)) (.int 110), .eq (.elem (.field (.string "OrderSettlerLaw" 85) "java/lang/String" "value" "[B") (.int 4)) (.int 118), .eq (.elem (.field (.string "OrderSettlerLaw" 85) "java/lang/String" "value" "[B") (.int 5)) (.int 111), .eq (.elem (.field (.string "OrderSettlerLaw" 85) "java/lang/String" "value" "[B") (.int 6)) (.int 121), .eq (.elem (.field (.string "OrderSettlerLaw" 85) "java/lang/String" "value" "[B") (.int 7)) (.int 32)] : List Cond).map some := by decide +kernel
theorem osgm12 : ∀ w ∈ ([.exactly (.string "OrderSettlerLaw" 85) "java/lang/String", .eq (.field (.string "OrderSettlerLaw" 85) "java/lang/String" "coder" "B") (.int 0), .arrayOf (.field (.string "OrderSettlerLaw" 85) "java/lang/String" "value" "[B") .byte, .eq (.length (.field (.string "OrderSettlerLaw" 85) "java/lang/String" "value" "[B")) (.int 8), .eq (.elem (.field (.string "OrderSettlerLaw" 85) "java/lang/String" "value" "[B") (.int 0)) (.int 32), .eq (.elem (.field (.string "OrderSettlerLaw" 85) "java/lang/String" "value" "[B") (.int 1)) (.int 99), .eq (.elem (.field (.string "OrderSettlerLaw" 85) "java/lang/String" "value" "[B") (.int 2)) (.int 111), .eq (.elem (.field (.string "OrderSettlerLaw" 85) "java/lang/String" "value" "[B") (.int 3)) (.int 110), .eq (.elem (.field (.string "OrderSettlerLaw" 85) "java/lang/String" "value" "[B") (.int 4)) (.int 118), .eq (.elem (.field (.string "OrderSettlerLaw" 85) "java/lang/String" "value" "[B") (.int 5)) (.int 111), .eq (.elem (.field (.string "OrderSettlerLaw" 85) "java/lang/String" "value" "[B") (.int 6)) (.int 121), .eq (.elem (.field (.string "OrderSettlerLaw" 85) "java/lang/String" "value" "[B") (.int 7)) (.int 32)] : List Cond), w ∈ osGv := osG_at osgt12
theorem osgt13 : ([463, 464, 465, 466, 467, 468, 469, 470, 471, 472] : List Nat).map (fun i => osGv[i]?) = ([.exactly (.string "OrderSettlerLaw" 87) "java/lang/String", .eq (.field (.string "OrderSettlerLaw" 87) "java/lang/String" "coder" "B") (.int 0), .arrayOf (.field (.string "OrderSettlerLaw" 87) "java/lang/String" "value" "[B") .byte, .eq (.length (.field (.string "OrderSettlerLaw" 87) "java/lang/String" "value" "[B")) (.int 6), .eq (.elem (.field (.string "OrderSettlerLaw" 87) "java/lang/String" "value" "[B") (.int 0)) (.int 32), .eq (.elem (.field (.string "OrderSettlerLaw" 87) "java/lang/String" "value" "[B") (.int 1)) (.int 104), .eq (.elem (.field (.string "OrderSettlerLaw" 87) "java/lang/String" "value" "[B") (.int 2)) (.int 111), .eq (.elem (.field (.string "OrderSettlerLaw" 87) "java/lang/String" "value" "[B") (.int 3)) (.int 108), .eq (.elem (.field (.string "OrderSettlerLaw" 87) "java/lang/String" "value" "[B") (.int 4)) (.int 100), .eq (.elem (.field (.string "OrderSettlerLaw" 87) "java/lang/String" "value" "[B") (.int 5)) (.int 59)] : List Cond).map some := by decide +kernel
theorem osgm13 : ∀ w ∈ ([.exactly (.string "OrderSettlerLaw" 87) "java/lang/String", .eq (.field (.string "OrderSettlerLaw" 87) "java/lang/String" "coder" "B") (.int 0), .arrayOf (.field (.string "OrderSettlerLaw" 87) "java/lang/String" "value" "[B") .byte, .eq (.length (.field (.string "OrderSettlerLaw" 87) "java/lang/String" "value" "[B")) (.int 6), .eq (.elem (.field (.string "OrderSettlerLaw" 87) "java/lang/String" "value" "[B") (.int 0)) (.int 32), .eq (.elem (.field (.string "OrderSettlerLaw" 87) "java/lang/String" "value" "[B") (.int 1)) (.int 104), .eq (.elem (.field (.string "OrderSettlerLaw" 87) "java/lang/String" "value" "[B") (.int 2)) (.int 111), .eq (.elem (.field (.string "OrderSettlerLaw" 87) "java/lang/String" "value" "[B") (.int 3)) (.int 108), .eq (.elem (.field (.string "OrderSettlerLaw" 87) "java/lang/String" "value" "[B") (.int 4)) (.int 100), .eq (.elem (.field (.string "OrderSettlerLaw" 87) "java/lang/String" "value" "[B") (.int 5)) (.int 59)] : List Cond), w ∈ osGv := osG_at osgt13
theorem osgt14 : ([666, 667, 668, 669, 670, 671, 672, 673, 674, 675] : List Nat).map (fun i => osGv[i]?) = ([.exactly (.string "OrderSettlerLaw" 168) "java/lang/String", .eq (.field (.string "OrderSettlerLaw" 168) "java/lang/String" "coder" "B") (.int 0), .arrayOf (.field (.string "OrderSettlerLaw" 168) "java/lang/String" "value" "[B") .byte, .eq (.length (.field (.string "OrderSettlerLaw" 168) "java/lang/String" "value" "[B")) (.int 6), .eq (.elem (.field (.string "OrderSettlerLaw" 168) "java/lang/String" "value" "[B") (.int 0)) (.int 98), .eq (.elem (.field (.string "OrderSettlerLaw" 168) "java/lang/String" "value" "[B") (.int 1)) (.int 117), .eq (.elem (.field (.string "OrderSettlerLaw" 168) "java/lang/String" "value" "[B") (.int 2)) (.int 105), .eq (.elem (.field (.string "OrderSettlerLaw" 168) "java/lang/String" "value" "[B") (.int 3)) (.int 108), .eq (.elem (.field (.string "OrderSettlerLaw" 168) "java/lang/String" "value" "[B") (.int 4)) (.int 100), .eq (.elem (.field (.string "OrderSettlerLaw" 168) "java/lang/String" "value" "[B") (.int 5)) (.int 32)] : List Cond).map some := by decide +kernel
theorem osgm14 : ∀ w ∈ ([.exactly (.string "OrderSettlerLaw" 168) "java/lang/String", .eq (.field (.string "OrderSettlerLaw" 168) "java/lang/String" "coder" "B") (.int 0), .arrayOf (.field (.string "OrderSettlerLaw" 168) "java/lang/String" "value" "[B") .byte, .eq (.length (.field (.string "OrderSettlerLaw" 168) "java/lang/String" "value" "[B")) (.int 6), .eq (.elem (.field (.string "OrderSettlerLaw" 168) "java/lang/String" "value" "[B") (.int 0)) (.int 98), .eq (.elem (.field (.string "OrderSettlerLaw" 168) "java/lang/String" "value" "[B") (.int 1)) (.int 117), .eq (.elem (.field (.string "OrderSettlerLaw" 168) "java/lang/String" "value" "[B") (.int 2)) (.int 105), .eq (.elem (.field (.string "OrderSettlerLaw" 168) "java/lang/String" "value" "[B") (.int 3)) (.int 108), .eq (.elem (.field (.string "OrderSettlerLaw" 168) "java/lang/String" "value" "[B") (.int 4)) (.int 100), .eq (.elem (.field (.string "OrderSettlerLaw" 168) "java/lang/String" "value" "[B") (.int 5)) (.int 32)] : List Cond), w ∈ osGv := osG_at osgt14
theorem osgt15 : ([676, 677, 678, 679, 680, 681, 682, 683, 684, 685] : List Nat).map (fun i => osGv[i]?) = ([.exactly (.string "OrderSettlerLaw" 170) "java/lang/String", .eq (.field (.string "OrderSettlerLaw" 170) "java/lang/String" "coder" "B") (.int 0), .arrayOf (.field (.string "OrderSettlerLaw" 170) "java/lang/String" "value" "[B") .byte, .eq (.length (.field (.string "OrderSettlerLaw" 170) "java/lang/String" "value" "[B")) (.int 6), .eq (.elem (.field (.string "OrderSettlerLaw" 170) "java/lang/String" "value" "[B") (.int 0)) (.int 32), .eq (.elem (.field (.string "OrderSettlerLaw" 170) "java/lang/String" "value" "[B") (.int 1)) (.int 97), .eq (.elem (.field (.string "OrderSettlerLaw" 170) "java/lang/String" "value" "[B") (.int 2)) (.int 114), .eq (.elem (.field (.string "OrderSettlerLaw" 170) "java/lang/String" "value" "[B") (.int 3)) (.int 109), .eq (.elem (.field (.string "OrderSettlerLaw" 170) "java/lang/String" "value" "[B") (.int 4)) (.int 121), .eq (.elem (.field (.string "OrderSettlerLaw" 170) "java/lang/String" "value" "[B") (.int 5)) (.int 59)] : List Cond).map some := by decide +kernel
theorem osgm15 : ∀ w ∈ ([.exactly (.string "OrderSettlerLaw" 170) "java/lang/String", .eq (.field (.string "OrderSettlerLaw" 170) "java/lang/String" "coder" "B") (.int 0), .arrayOf (.field (.string "OrderSettlerLaw" 170) "java/lang/String" "value" "[B") .byte, .eq (.length (.field (.string "OrderSettlerLaw" 170) "java/lang/String" "value" "[B")) (.int 6), .eq (.elem (.field (.string "OrderSettlerLaw" 170) "java/lang/String" "value" "[B") (.int 0)) (.int 32), .eq (.elem (.field (.string "OrderSettlerLaw" 170) "java/lang/String" "value" "[B") (.int 1)) (.int 97), .eq (.elem (.field (.string "OrderSettlerLaw" 170) "java/lang/String" "value" "[B") (.int 2)) (.int 114), .eq (.elem (.field (.string "OrderSettlerLaw" 170) "java/lang/String" "value" "[B") (.int 3)) (.int 109), .eq (.elem (.field (.string "OrderSettlerLaw" 170) "java/lang/String" "value" "[B") (.int 4)) (.int 121), .eq (.elem (.field (.string "OrderSettlerLaw" 170) "java/lang/String" "value" "[B") (.int 5)) (.int 59)] : List Cond), w ∈ osGv := osG_at osgt15
theorem osgt16 : ([686, 687, 688, 689, 690, 691, 692, 693, 694, 695, 696] : List Nat).map (fun i => osGv[i]?) = ([.exactly (.string "OrderSettlerLaw" 172) "java/lang/String", .eq (.field (.string "OrderSettlerLaw" 172) "java/lang/String" "coder" "B") (.int 0), .arrayOf (.field (.string "OrderSettlerLaw" 172) "java/lang/String" "value" "[B") .byte, .eq (.length (.field (.string "OrderSettlerLaw" 172) "java/lang/String" "value" "[B")) (.int 7), .eq (.elem (.field (.string "OrderSettlerLaw" 172) "java/lang/String" "value" "[B") (.int 0)) (.int 114), .eq (.elem (.field (.string "OrderSettlerLaw" 172) "java/lang/String" "value" "[B") (.int 1)) (.int 101), .eq (.elem (.field (.string "OrderSettlerLaw" 172) "java/lang/String" "value" "[B") (.int 2)) (.int 109), .eq (.elem (.field (.string "OrderSettlerLaw" 172) "java/lang/String" "value" "[B") (.int 3)) (.int 111), .eq (.elem (.field (.string "OrderSettlerLaw" 172) "java/lang/String" "value" "[B") (.int 4)) (.int 118), .eq (.elem (.field (.string "OrderSettlerLaw" 172) "java/lang/String" "value" "[B") (.int 5)) (.int 101), .eq (.elem (.field (.string "OrderSettlerLaw" 172) "java/lang/String" "value" "[B") (.int 6)) (.int 32)] : List Cond).map some := by decide +kernel
theorem osgm16 : ∀ w ∈ ([.exactly (.string "OrderSettlerLaw" 172) "java/lang/String", .eq (.field (.string "OrderSettlerLaw" 172) "java/lang/String" "coder" "B") (.int 0), .arrayOf (.field (.string "OrderSettlerLaw" 172) "java/lang/String" "value" "[B") .byte, .eq (.length (.field (.string "OrderSettlerLaw" 172) "java/lang/String" "value" "[B")) (.int 7), .eq (.elem (.field (.string "OrderSettlerLaw" 172) "java/lang/String" "value" "[B") (.int 0)) (.int 114), .eq (.elem (.field (.string "OrderSettlerLaw" 172) "java/lang/String" "value" "[B") (.int 1)) (.int 101), .eq (.elem (.field (.string "OrderSettlerLaw" 172) "java/lang/String" "value" "[B") (.int 2)) (.int 109), .eq (.elem (.field (.string "OrderSettlerLaw" 172) "java/lang/String" "value" "[B") (.int 3)) (.int 111), .eq (.elem (.field (.string "OrderSettlerLaw" 172) "java/lang/String" "value" "[B") (.int 4)) (.int 118), .eq (.elem (.field (.string "OrderSettlerLaw" 172) "java/lang/String" "value" "[B") (.int 5)) (.int 101), .eq (.elem (.field (.string "OrderSettlerLaw" 172) "java/lang/String" "value" "[B") (.int 6)) (.int 32)] : List Cond), w ∈ osGv := osG_at osgt16
theorem osgt17 : ([207] : List Nat).map (fun i => osGv[i]?) = ([.exactly (.string "OrderSettler" 80) "java/lang/String"] : List Cond).map some := by decide +kernel
theorem osgm17 : ∀ w ∈ ([.exactly (.string "OrderSettler" 80) "java/lang/String"] : List Cond), w ∈ osGv := osG_at osgt17
theorem osgt18 : ([265] : List Nat).map (fun i => osGv[i]?) = ([.exactly (.string "OrderSettler" 101) "java/lang/String"] : List Cond).map some := by decide +kernel
theorem osgm18 : ∀ w ∈ ([.exactly (.string "OrderSettler" 101) "java/lang/String"] : List Cond), w ∈ osGv := osG_at osgt18
theorem osgt19 : ([473] : List Nat).map (fun i => osGv[i]?) = ([.exactly (.string "OrderSettler" 118) "java/lang/String"] : List Cond).map some := by decide +kernel
theorem osgm19 : ∀ w ∈ ([.exactly (.string "OrderSettler" 118) "java/lang/String"] : List Cond), w ∈ osGv := osG_at osgt19
theorem osgt20 : ([610] : List Nat).map (fun i => osGv[i]?) = ([.exactly (.string "OrderSettler" 264) "java/lang/String"] : List Cond).map some := by decide +kernel
theorem osgm20 : ∀ w ∈ ([.exactly (.string "OrderSettler" 264) "java/lang/String"] : List Cond), w ∈ osGv := osG_at osgt20
theorem osgt21 : ([585] : List Nat).map (fun i => osGv[i]?) = ([.exactly (.string "OrderSettler" 280) "java/lang/String"] : List Cond).map some := by decide +kernel
theorem osgm21 : ∀ w ∈ ([.exactly (.string "OrderSettler" 280) "java/lang/String"] : List Cond), w ∈ osGv := osG_at osgt21
theorem osgt22 : ([235] : List Nat).map (fun i => osGv[i]?) = ([.exactly (.string "OrderSettler" 357) "java/lang/String"] : List Cond).map some := by decide +kernel
theorem osgm22 : ∀ w ∈ ([.exactly (.string "OrderSettler" 357) "java/lang/String"] : List Cond), w ∈ osGv := osG_at osgt22
theorem osgt23 : ([403] : List Nat).map (fun i => osGv[i]?) = ([.exactly (.string "OrderSettler" 359) "java/lang/String"] : List Cond).map some := by decide +kernel
theorem osgm23 : ∀ w ∈ ([.exactly (.string "OrderSettler" 359) "java/lang/String"] : List Cond), w ∈ osGv := osG_at osgt23
theorem osgt24 : ([378] : List Nat).map (fun i => osGv[i]?) = ([.exactly (.string "OrderSettler" 364) "java/lang/String"] : List Cond).map some := by decide +kernel
theorem osgm24 : ∀ w ∈ ([.exactly (.string "OrderSettler" 364) "java/lang/String"] : List Cond), w ∈ osGv := osG_at osgt24
theorem osgt25 : ([640] : List Nat).map (fun i => osGv[i]?) = ([.exactly (.string "OrderSettler" 366) "java/lang/String"] : List Cond).map some := by decide +kernel
theorem osgm25 : ∀ w ∈ ([.exactly (.string "OrderSettler" 366) "java/lang/String"] : List Cond), w ∈ osGv := osG_at osgt25
theorem osgt26 : ([498] : List Nat).map (fun i => osGv[i]?) = ([.exactly (.string "OrderSettler" 368) "java/lang/String"] : List Cond).map some := by decide +kernel
theorem osgm26 : ∀ w ∈ ([.exactly (.string "OrderSettler" 368) "java/lang/String"] : List Cond), w ∈ osGv := osG_at osgt26
theorem osgt27 : ([534] : List Nat).map (fun i => osGv[i]?) = ([.exactly (.string "OrderSettler" 370) "java/lang/String"] : List Cond).map some := by decide +kernel
theorem osgm27 : ∀ w ∈ ([.exactly (.string "OrderSettler" 370) "java/lang/String"] : List Cond), w ∈ osGv := osG_at osgt27
theorem osgt28 : ([562] : List Nat).map (fun i => osGv[i]?) = ([.exactly (.string "OrderSettler" 376) "java/lang/String"] : List Cond).map some := by decide +kernel
theorem osgm28 : ∀ w ∈ ([.exactly (.string "OrderSettler" 376) "java/lang/String"] : List Cond), w ∈ osGv := osG_at osgt28
theorem osgr0 : Cond.stringRef "OrderSettlerLaw" 46 "sea " ∈ lw_tbl := List.mem_of_getElem? (i := 858) (by decide +kernel)
theorem osgr1 : Cond.stringRef "OrderSettlerLaw" 48 "coast " ∈ lw_tbl := List.mem_of_getElem? (i := 859) (by decide +kernel)
theorem osgr2 : Cond.stringRef "OrderSettlerLaw" 50 "land " ∈ lw_tbl := List.mem_of_getElem? (i := 860) (by decide +kernel)
theorem osgr3 : Cond.stringRef "OrderSettlerLaw" 59 " center;" ∈ lw_tbl := List.mem_of_getElem? (i := 973) (by decide +kernel)
theorem osgr4 : Cond.stringRef "OrderSettlerLaw" 61 ";" ∈ lw_tbl := List.mem_of_getElem? (i := 974) (by decide +kernel)
theorem osgr5 : Cond.stringRef "OrderSettlerLaw" 73 "border " ∈ lw_tbl := List.mem_of_getElem? (i := 978) (by decide +kernel)
theorem osgr6 : Cond.stringRef "OrderSettlerLaw" 75 " " ∈ lw_tbl := List.mem_of_getElem? (i := 979) (by decide +kernel)
theorem osgr7 : Cond.stringRef "OrderSettlerLaw" 67 "power " ∈ lw_tbl := List.mem_of_getElem? (i := 1037) (by decide +kernel)
theorem osgr8 : Cond.stringRef "OrderSettlerLaw" 77 "fleet " ∈ lw_tbl := List.mem_of_getElem? (i := 1041) (by decide +kernel)
theorem osgr9 : Cond.stringRef "OrderSettlerLaw" 79 "army " ∈ lw_tbl := List.mem_of_getElem? (i := 1042) (by decide +kernel)
theorem osgr10 : Cond.stringRef "OrderSettlerLaw" 81 " support " ∈ lw_tbl := List.mem_of_getElem? (i := 1085) (by decide +kernel)
theorem osgr11 : Cond.stringRef "OrderSettlerLaw" 83 " to " ∈ lw_tbl := List.mem_of_getElem? (i := 1086) (by decide +kernel)
theorem osgr12 : Cond.stringRef "OrderSettlerLaw" 85 " convoy " ∈ lw_tbl := List.mem_of_getElem? (i := 1087) (by decide +kernel)
theorem osgr13 : Cond.stringRef "OrderSettlerLaw" 87 " hold;" ∈ lw_tbl := List.mem_of_getElem? (i := 1088) (by decide +kernel)
theorem osgr14 : Cond.stringRef "OrderSettlerLaw" 168 "build " ∈ lw_tbl := List.mem_of_getElem? (i := 1492) (by decide +kernel)
theorem osgr15 : Cond.stringRef "OrderSettlerLaw" 170 " army;" ∈ lw_tbl := List.mem_of_getElem? (i := 1493) (by decide +kernel)
theorem osgr16 : Cond.stringRef "OrderSettlerLaw" 172 "remove " ∈ lw_tbl := List.mem_of_getElem? (i := 1494) (by decide +kernel)
theorem osgr17 : Cond.stringRef "OrderSettler" 80 "the input buffer is full" ∈ lw_tbl := List.mem_of_getElem? (i := 582) (by decide +kernel)
theorem osgr18 : Cond.stringRef "OrderSettler" 101 "the map has an error" ∈ lw_tbl := List.mem_of_getElem? (i := 819) (by decide +kernel)
theorem osgr19 : Cond.stringRef "OrderSettler" 118 "the text has an error" ∈ lw_tbl := List.mem_of_getElem? (i := 1261) (by decide +kernel)
theorem osgr20 : Cond.stringRef "OrderSettler" 264 "no dislodged unit is there" ∈ lw_tbl := List.mem_of_getElem? (i := 1454) (by decide +kernel)
theorem osgr21 : Cond.stringRef "OrderSettler" 280 "nothing can be undone" ∈ lw_tbl := List.mem_of_getElem? (i := 1441) (by decide +kernel)
theorem osgr22 : Cond.stringRef "OrderSettler" 357 "the length is out of range" ∈ lw_tbl := List.mem_of_getElem? (i := 629) (by decide +kernel)
theorem osgr23 : Cond.stringRef "OrderSettler" 359 "there is no such report" ∈ lw_tbl := List.mem_of_getElem? (i := 1075) (by decide +kernel)
theorem osgr24 : Cond.stringRef "OrderSettler" 364 "there is no such area" ∈ lw_tbl := List.mem_of_getElem? (i := 1064) (by decide +kernel)
theorem osgr25 : Cond.stringRef "OrderSettler" 366 "there is no such power" ∈ lw_tbl := List.mem_of_getElem? (i := 1484) (by decide +kernel)
theorem osgr26 : Cond.stringRef "OrderSettler" 368 "there is no unit at such an area" ∈ lw_tbl := List.mem_of_getElem? (i := 1274) (by decide +kernel)
theorem osgr27 : Cond.stringRef "OrderSettler" 370 "the phase is another one" ∈ lw_tbl := List.mem_of_getElem? (i := 1279) (by decide +kernel)
theorem osgr28 : Cond.stringRef "OrderSettler" 376 "nothing was settled" ∈ lw_tbl := List.mem_of_getElem? (i := 1430) (by decide +kernel)
theorem osG_tx : ∀ q ∈ osTx, Cond.stringRef q.1 q.2.1 q.2.2 ∈ lw_tbl ∧ Cond.exactly (.string q.1 q.2.1) "java/lang/String" ∈ osGv := List.forall_mem_cons.mpr ⟨⟨osgr0, osgm0 _ (List.mem_of_getElem? (i := 0) rfl)⟩, List.forall_mem_cons.mpr ⟨⟨osgr1, osgm1 _ (List.mem_of_getElem? (i := 0) rfl)⟩, List.forall_mem_cons.mpr ⟨⟨osgr2, osgm2 _ (List.mem_of_getElem? (i := 0) rfl)⟩, List.forall_mem_cons.mpr ⟨⟨osgr3, osgm3 _ (List.mem_of_getElem? (i := 0) rfl)⟩, List.forall_mem_cons.mpr ⟨⟨osgr4, osgm4 _ (List.mem_of_getElem? (i := 0) rfl)⟩, List.forall_mem_cons.mpr ⟨⟨osgr5, osgm5 _ (List.mem_of_getElem? (i := 0) rfl)⟩, List.forall_mem_cons.mpr ⟨⟨osgr6, osgm6 _ (List.mem_of_getElem? (i := 0) rfl)⟩, List.forall_mem_cons.mpr ⟨⟨osgr7, osgm7 _ (List.mem_of_getElem? (i := 0) rfl)⟩, List.forall_mem_cons.mpr ⟨⟨osgr8, osgm8 _ (List.mem_of_getElem? (i := 0) rfl)⟩, List.forall_mem_cons.mpr ⟨⟨osgr9, osgm9 _ (List.mem_of_getElem? (i := 0) rfl)⟩, List.forall_mem_cons.mpr ⟨⟨osgr10, osgm10 _ (List.mem_of_getElem? (i := 0) rfl)⟩, List.forall_mem_cons.mpr ⟨⟨osgr11, osgm11 _ (List.mem_of_getElem? (i := 0) rfl)⟩, List.forall_mem_cons.mpr ⟨⟨osgr12, osgm12 _ (List.mem_of_getElem? (i := 0) rfl)⟩, List.forall_mem_cons.mpr ⟨⟨osgr13, osgm13 _ (List.mem_of_getElem? (i := 0) rfl)⟩, List.forall_mem_cons.mpr ⟨⟨osgr14, osgm14 _ (List.mem_of_getElem? (i := 0) rfl)⟩, List.forall_mem_cons.mpr ⟨⟨osgr15, osgm15 _ (List.mem_of_getElem? (i := 0) rfl)⟩, List.forall_mem_cons.mpr ⟨⟨osgr16, osgm16 _ (List.mem_of_getElem? (i := 0) rfl)⟩, List.forall_mem_cons.mpr ⟨⟨osgr17, osgm17 _ (List.mem_of_getElem? (i := 0) rfl)⟩, List.forall_mem_cons.mpr ⟨⟨osgr18, osgm18 _ (List.mem_of_getElem? (i := 0) rfl)⟩, List.forall_mem_cons.mpr ⟨⟨osgr19, osgm19 _ (List.mem_of_getElem? (i := 0) rfl)⟩, List.forall_mem_cons.mpr ⟨⟨osgr20, osgm20 _ (List.mem_of_getElem? (i := 0) rfl)⟩, List.forall_mem_cons.mpr ⟨⟨osgr21, osgm21 _ (List.mem_of_getElem? (i := 0) rfl)⟩, List.forall_mem_cons.mpr ⟨⟨osgr22, osgm22 _ (List.mem_of_getElem? (i := 0) rfl)⟩, List.forall_mem_cons.mpr ⟨⟨osgr23, osgm23 _ (List.mem_of_getElem? (i := 0) rfl)⟩, List.forall_mem_cons.mpr ⟨⟨osgr24, osgm24 _ (List.mem_of_getElem? (i := 0) rfl)⟩, List.forall_mem_cons.mpr ⟨⟨osgr25, osgm25 _ (List.mem_of_getElem? (i := 0) rfl)⟩, List.forall_mem_cons.mpr ⟨⟨osgr26, osgm26 _ (List.mem_of_getElem? (i := 0) rfl)⟩, List.forall_mem_cons.mpr ⟨⟨osgr27, osgm27 _ (List.mem_of_getElem? (i := 0) rfl)⟩, List.forall_mem_cons.mpr ⟨⟨osgr28, osgm28 _ (List.mem_of_getElem? (i := 0) rfl)⟩, fun _ h => absurd h List.not_mem_nil⟩⟩⟩⟩⟩⟩⟩⟩⟩⟩⟩⟩⟩⟩⟩⟩⟩⟩⟩⟩⟩⟩⟩⟩⟩⟩⟩⟩⟩
theorem osG_st : ∀ j, j < 17 → ∀ q ∈ osTx[j]?.toList, Cond.eq (.field (.string q.1 q.2.1) "java/lang/String" "coder" "B") (.int 0) ∈ osGv ∧ Cond.arrayOf (.field (.string q.1 q.2.1) "java/lang/String" "value" "[B") .byte ∈ osGv ∧ Cond.eq (.length (.field (.string q.1 q.2.1) "java/lang/String" "value" "[B")) (.int (Int32.ofNat (osTs.getD j []).length)) ∈ osGv := by
  intro j hj q hq
  match j, hj, hq with
  | 0, _, hq => cases List.mem_singleton.mp hq; exact ⟨osgm0 _ (List.mem_of_getElem? (i := 1) rfl), osgm0 _ (List.mem_of_getElem? (i := 2) rfl), osgm0 _ (List.mem_of_getElem? (i := 3) rfl)⟩
  | 1, _, hq => cases List.mem_singleton.mp hq; exact ⟨osgm1 _ (List.mem_of_getElem? (i := 1) rfl), osgm1 _ (List.mem_of_getElem? (i := 2) rfl), osgm1 _ (List.mem_of_getElem? (i := 3) rfl)⟩
  | 2, _, hq => cases List.mem_singleton.mp hq; exact ⟨osgm2 _ (List.mem_of_getElem? (i := 1) rfl), osgm2 _ (List.mem_of_getElem? (i := 2) rfl), osgm2 _ (List.mem_of_getElem? (i := 3) rfl)⟩
  | 3, _, hq => cases List.mem_singleton.mp hq; exact ⟨osgm3 _ (List.mem_of_getElem? (i := 1) rfl), osgm3 _ (List.mem_of_getElem? (i := 2) rfl), osgm3 _ (List.mem_of_getElem? (i := 3) rfl)⟩
  | 4, _, hq => cases List.mem_singleton.mp hq; exact ⟨osgm4 _ (List.mem_of_getElem? (i := 1) rfl), osgm4 _ (List.mem_of_getElem? (i := 2) rfl), osgm4 _ (List.mem_of_getElem? (i := 3) rfl)⟩
  | 5, _, hq => cases List.mem_singleton.mp hq; exact ⟨osgm5 _ (List.mem_of_getElem? (i := 1) rfl), osgm5 _ (List.mem_of_getElem? (i := 2) rfl), osgm5 _ (List.mem_of_getElem? (i := 3) rfl)⟩
  | 6, _, hq => cases List.mem_singleton.mp hq; exact ⟨osgm6 _ (List.mem_of_getElem? (i := 1) rfl), osgm6 _ (List.mem_of_getElem? (i := 2) rfl), osgm6 _ (List.mem_of_getElem? (i := 3) rfl)⟩
  | 7, _, hq => cases List.mem_singleton.mp hq; exact ⟨osgm7 _ (List.mem_of_getElem? (i := 1) rfl), osgm7 _ (List.mem_of_getElem? (i := 2) rfl), osgm7 _ (List.mem_of_getElem? (i := 3) rfl)⟩
  | 8, _, hq => cases List.mem_singleton.mp hq; exact ⟨osgm8 _ (List.mem_of_getElem? (i := 1) rfl), osgm8 _ (List.mem_of_getElem? (i := 2) rfl), osgm8 _ (List.mem_of_getElem? (i := 3) rfl)⟩
  | 9, _, hq => cases List.mem_singleton.mp hq; exact ⟨osgm9 _ (List.mem_of_getElem? (i := 1) rfl), osgm9 _ (List.mem_of_getElem? (i := 2) rfl), osgm9 _ (List.mem_of_getElem? (i := 3) rfl)⟩
  | 10, _, hq => cases List.mem_singleton.mp hq; exact ⟨osgm10 _ (List.mem_of_getElem? (i := 1) rfl), osgm10 _ (List.mem_of_getElem? (i := 2) rfl), osgm10 _ (List.mem_of_getElem? (i := 3) rfl)⟩
  | 11, _, hq => cases List.mem_singleton.mp hq; exact ⟨osgm11 _ (List.mem_of_getElem? (i := 1) rfl), osgm11 _ (List.mem_of_getElem? (i := 2) rfl), osgm11 _ (List.mem_of_getElem? (i := 3) rfl)⟩
  | 12, _, hq => cases List.mem_singleton.mp hq; exact ⟨osgm12 _ (List.mem_of_getElem? (i := 1) rfl), osgm12 _ (List.mem_of_getElem? (i := 2) rfl), osgm12 _ (List.mem_of_getElem? (i := 3) rfl)⟩
  | 13, _, hq => cases List.mem_singleton.mp hq; exact ⟨osgm13 _ (List.mem_of_getElem? (i := 1) rfl), osgm13 _ (List.mem_of_getElem? (i := 2) rfl), osgm13 _ (List.mem_of_getElem? (i := 3) rfl)⟩
  | 14, _, hq => cases List.mem_singleton.mp hq; exact ⟨osgm14 _ (List.mem_of_getElem? (i := 1) rfl), osgm14 _ (List.mem_of_getElem? (i := 2) rfl), osgm14 _ (List.mem_of_getElem? (i := 3) rfl)⟩
  | 15, _, hq => cases List.mem_singleton.mp hq; exact ⟨osgm15 _ (List.mem_of_getElem? (i := 1) rfl), osgm15 _ (List.mem_of_getElem? (i := 2) rfl), osgm15 _ (List.mem_of_getElem? (i := 3) rfl)⟩
  | 16, _, hq => cases List.mem_singleton.mp hq; exact ⟨osgm16 _ (List.mem_of_getElem? (i := 1) rfl), osgm16 _ (List.mem_of_getElem? (i := 2) rfl), osgm16 _ (List.mem_of_getElem? (i := 3) rfl)⟩
  | n + 17, hj, _ => omega
theorem osG_sk : ∀ j, j < 17 → ∀ q ∈ osTx[j]?.toList, ∀ k, k < (osTs.getD j []).length → Cond.eq (.elem (.field (.string q.1 q.2.1) "java/lang/String" "value" "[B") (.int (Int32.ofNat k))) (.int ((osTs.getD j []).getD k 0)) ∈ osGv := by
  intro j hj q hq k hk
  match j, hj, hq, hk with
  | 0, _, hq, hk =>
    cases List.mem_singleton.mp hq
    match k, hk with
    | 0, _ => exact osgm0 _ (List.mem_of_getElem? (i := 4) rfl)
    | 1, _ => exact osgm0 _ (List.mem_of_getElem? (i := 5) rfl)
    | 2, _ => exact osgm0 _ (List.mem_of_getElem? (i := 6) rfl)
    | 3, _ => exact osgm0 _ (List.mem_of_getElem? (i := 7) rfl)
    | n + 4, hk => exact absurd hk (Nat.not_lt.mpr (Nat.le_add_left _ _))
  | 1, _, hq, hk =>
    cases List.mem_singleton.mp hq
    match k, hk with
    | 0, _ => exact osgm1 _ (List.mem_of_getElem? (i := 4) rfl)
    | 1, _ => exact osgm1 _ (List.mem_of_getElem? (i := 5) rfl)
    | 2, _ => exact osgm1 _ (List.mem_of_getElem? (i := 6) rfl)
    | 3, _ => exact osgm1 _ (List.mem_of_getElem? (i := 7) rfl)
    | 4, _ => exact osgm1 _ (List.mem_of_getElem? (i := 8) rfl)
    | 5, _ => exact osgm1 _ (List.mem_of_getElem? (i := 9) rfl)
    | n + 6, hk => exact absurd hk (Nat.not_lt.mpr (Nat.le_add_left _ _))
  | 2, _, hq, hk =>
    cases List.mem_singleton.mp hq
    match k, hk with
    | 0, _ => exact osgm2 _ (List.mem_of_getElem? (i := 4) rfl)
    | 1, _ => exact osgm2 _ (List.mem_of_getElem? (i := 5) rfl)
    | 2, _ => exact osgm2 _ (List.mem_of_getElem? (i := 6) rfl)
    | 3, _ => exact osgm2 _ (List.mem_of_getElem? (i := 7) rfl)
    | 4, _ => exact osgm2 _ (List.mem_of_getElem? (i := 8) rfl)
    | n + 5, hk => exact absurd hk (Nat.not_lt.mpr (Nat.le_add_left _ _))
  | 3, _, hq, hk =>
    cases List.mem_singleton.mp hq
    match k, hk with
    | 0, _ => exact osgm3 _ (List.mem_of_getElem? (i := 4) rfl)
    | 1, _ => exact osgm3 _ (List.mem_of_getElem? (i := 5) rfl)
    | 2, _ => exact osgm3 _ (List.mem_of_getElem? (i := 6) rfl)
    | 3, _ => exact osgm3 _ (List.mem_of_getElem? (i := 7) rfl)
    | 4, _ => exact osgm3 _ (List.mem_of_getElem? (i := 8) rfl)
    | 5, _ => exact osgm3 _ (List.mem_of_getElem? (i := 9) rfl)
    | 6, _ => exact osgm3 _ (List.mem_of_getElem? (i := 10) rfl)
    | 7, _ => exact osgm3 _ (List.mem_of_getElem? (i := 11) rfl)
    | n + 8, hk => exact absurd hk (Nat.not_lt.mpr (Nat.le_add_left _ _))
  | 4, _, hq, hk =>
    cases List.mem_singleton.mp hq
    match k, hk with
    | 0, _ => exact osgm4 _ (List.mem_of_getElem? (i := 4) rfl)
    | n + 1, hk => exact absurd hk (Nat.not_lt.mpr (Nat.le_add_left _ _))
  | 5, _, hq, hk =>
    cases List.mem_singleton.mp hq
    match k, hk with
    | 0, _ => exact osgm5 _ (List.mem_of_getElem? (i := 4) rfl)
    | 1, _ => exact osgm5 _ (List.mem_of_getElem? (i := 5) rfl)
    | 2, _ => exact osgm5 _ (List.mem_of_getElem? (i := 6) rfl)
    | 3, _ => exact osgm5 _ (List.mem_of_getElem? (i := 7) rfl)
    | 4, _ => exact osgm5 _ (List.mem_of_getElem? (i := 8) rfl)
    | 5, _ => exact osgm5 _ (List.mem_of_getElem? (i := 9) rfl)
    | 6, _ => exact osgm5 _ (List.mem_of_getElem? (i := 10) rfl)
    | n + 7, hk => exact absurd hk (Nat.not_lt.mpr (Nat.le_add_left _ _))
  | 6, _, hq, hk =>
    cases List.mem_singleton.mp hq
    match k, hk with
    | 0, _ => exact osgm6 _ (List.mem_of_getElem? (i := 4) rfl)
    | n + 1, hk => exact absurd hk (Nat.not_lt.mpr (Nat.le_add_left _ _))
  | 7, _, hq, hk =>
    cases List.mem_singleton.mp hq
    match k, hk with
    | 0, _ => exact osgm7 _ (List.mem_of_getElem? (i := 4) rfl)
    | 1, _ => exact osgm7 _ (List.mem_of_getElem? (i := 5) rfl)
    | 2, _ => exact osgm7 _ (List.mem_of_getElem? (i := 6) rfl)
    | 3, _ => exact osgm7 _ (List.mem_of_getElem? (i := 7) rfl)
    | 4, _ => exact osgm7 _ (List.mem_of_getElem? (i := 8) rfl)
    | 5, _ => exact osgm7 _ (List.mem_of_getElem? (i := 9) rfl)
    | n + 6, hk => exact absurd hk (Nat.not_lt.mpr (Nat.le_add_left _ _))
  | 8, _, hq, hk =>
    cases List.mem_singleton.mp hq
    match k, hk with
    | 0, _ => exact osgm8 _ (List.mem_of_getElem? (i := 4) rfl)
    | 1, _ => exact osgm8 _ (List.mem_of_getElem? (i := 5) rfl)
    | 2, _ => exact osgm8 _ (List.mem_of_getElem? (i := 6) rfl)
    | 3, _ => exact osgm8 _ (List.mem_of_getElem? (i := 7) rfl)
    | 4, _ => exact osgm8 _ (List.mem_of_getElem? (i := 8) rfl)
    | 5, _ => exact osgm8 _ (List.mem_of_getElem? (i := 9) rfl)
    | n + 6, hk => exact absurd hk (Nat.not_lt.mpr (Nat.le_add_left _ _))
  | 9, _, hq, hk =>
    cases List.mem_singleton.mp hq
    match k, hk with
    | 0, _ => exact osgm9 _ (List.mem_of_getElem? (i := 4) rfl)
    | 1, _ => exact osgm9 _ (List.mem_of_getElem? (i := 5) rfl)
    | 2, _ => exact osgm9 _ (List.mem_of_getElem? (i := 6) rfl)
    | 3, _ => exact osgm9 _ (List.mem_of_getElem? (i := 7) rfl)
    | 4, _ => exact osgm9 _ (List.mem_of_getElem? (i := 8) rfl)
    | n + 5, hk => exact absurd hk (Nat.not_lt.mpr (Nat.le_add_left _ _))
  | 10, _, hq, hk =>
    cases List.mem_singleton.mp hq
    match k, hk with
    | 0, _ => exact osgm10 _ (List.mem_of_getElem? (i := 4) rfl)
    | 1, _ => exact osgm10 _ (List.mem_of_getElem? (i := 5) rfl)
    | 2, _ => exact osgm10 _ (List.mem_of_getElem? (i := 6) rfl)
    | 3, _ => exact osgm10 _ (List.mem_of_getElem? (i := 7) rfl)
    | 4, _ => exact osgm10 _ (List.mem_of_getElem? (i := 8) rfl)
    | 5, _ => exact osgm10 _ (List.mem_of_getElem? (i := 9) rfl)
    | 6, _ => exact osgm10 _ (List.mem_of_getElem? (i := 10) rfl)
    | 7, _ => exact osgm10 _ (List.mem_of_getElem? (i := 11) rfl)
    | 8, _ => exact osgm10 _ (List.mem_of_getElem? (i := 12) rfl)
    | n + 9, hk => exact absurd hk (Nat.not_lt.mpr (Nat.le_add_left _ _))
  | 11, _, hq, hk =>
    cases List.mem_singleton.mp hq
    match k, hk with
    | 0, _ => exact osgm11 _ (List.mem_of_getElem? (i := 4) rfl)
    | 1, _ => exact osgm11 _ (List.mem_of_getElem? (i := 5) rfl)
    | 2, _ => exact osgm11 _ (List.mem_of_getElem? (i := 6) rfl)
    | 3, _ => exact osgm11 _ (List.mem_of_getElem? (i := 7) rfl)
    | n + 4, hk => exact absurd hk (Nat.not_lt.mpr (Nat.le_add_left _ _))
  | 12, _, hq, hk =>
    cases List.mem_singleton.mp hq
    match k, hk with
    | 0, _ => exact osgm12 _ (List.mem_of_getElem? (i := 4) rfl)
    | 1, _ => exact osgm12 _ (List.mem_of_getElem? (i := 5) rfl)
    | 2, _ => exact osgm12 _ (List.mem_of_getElem? (i := 6) rfl)
    | 3, _ => exact osgm12 _ (List.mem_of_getElem? (i := 7) rfl)
    | 4, _ => exact osgm12 _ (List.mem_of_getElem? (i := 8) rfl)
    | 5, _ => exact osgm12 _ (List.mem_of_getElem? (i := 9) rfl)
    | 6, _ => exact osgm12 _ (List.mem_of_getElem? (i := 10) rfl)
    | 7, _ => exact osgm12 _ (List.mem_of_getElem? (i := 11) rfl)
    | n + 8, hk => exact absurd hk (Nat.not_lt.mpr (Nat.le_add_left _ _))
  | 13, _, hq, hk =>
    cases List.mem_singleton.mp hq
    match k, hk with
    | 0, _ => exact osgm13 _ (List.mem_of_getElem? (i := 4) rfl)
    | 1, _ => exact osgm13 _ (List.mem_of_getElem? (i := 5) rfl)
    | 2, _ => exact osgm13 _ (List.mem_of_getElem? (i := 6) rfl)
    | 3, _ => exact osgm13 _ (List.mem_of_getElem? (i := 7) rfl)
    | 4, _ => exact osgm13 _ (List.mem_of_getElem? (i := 8) rfl)
    | 5, _ => exact osgm13 _ (List.mem_of_getElem? (i := 9) rfl)
    | n + 6, hk => exact absurd hk (Nat.not_lt.mpr (Nat.le_add_left _ _))
  | 14, _, hq, hk =>
    cases List.mem_singleton.mp hq
    match k, hk with
    | 0, _ => exact osgm14 _ (List.mem_of_getElem? (i := 4) rfl)
    | 1, _ => exact osgm14 _ (List.mem_of_getElem? (i := 5) rfl)
    | 2, _ => exact osgm14 _ (List.mem_of_getElem? (i := 6) rfl)
    | 3, _ => exact osgm14 _ (List.mem_of_getElem? (i := 7) rfl)
    | 4, _ => exact osgm14 _ (List.mem_of_getElem? (i := 8) rfl)
    | 5, _ => exact osgm14 _ (List.mem_of_getElem? (i := 9) rfl)
    | n + 6, hk => exact absurd hk (Nat.not_lt.mpr (Nat.le_add_left _ _))
  | 15, _, hq, hk =>
    cases List.mem_singleton.mp hq
    match k, hk with
    | 0, _ => exact osgm15 _ (List.mem_of_getElem? (i := 4) rfl)
    | 1, _ => exact osgm15 _ (List.mem_of_getElem? (i := 5) rfl)
    | 2, _ => exact osgm15 _ (List.mem_of_getElem? (i := 6) rfl)
    | 3, _ => exact osgm15 _ (List.mem_of_getElem? (i := 7) rfl)
    | 4, _ => exact osgm15 _ (List.mem_of_getElem? (i := 8) rfl)
    | 5, _ => exact osgm15 _ (List.mem_of_getElem? (i := 9) rfl)
    | n + 6, hk => exact absurd hk (Nat.not_lt.mpr (Nat.le_add_left _ _))
  | 16, _, hq, hk =>
    cases List.mem_singleton.mp hq
    match k, hk with
    | 0, _ => exact osgm16 _ (List.mem_of_getElem? (i := 4) rfl)
    | 1, _ => exact osgm16 _ (List.mem_of_getElem? (i := 5) rfl)
    | 2, _ => exact osgm16 _ (List.mem_of_getElem? (i := 6) rfl)
    | 3, _ => exact osgm16 _ (List.mem_of_getElem? (i := 7) rfl)
    | 4, _ => exact osgm16 _ (List.mem_of_getElem? (i := 8) rfl)
    | 5, _ => exact osgm16 _ (List.mem_of_getElem? (i := 9) rfl)
    | 6, _ => exact osgm16 _ (List.mem_of_getElem? (i := 10) rfl)
    | n + 7, hk => exact absurd hk (Nat.not_lt.mpr (Nat.le_add_left _ _))
  | n + 17, hj, _, _ => omega
theorem osG_wd : ∀ j, j < 15 → ∀ n ∈ osWd[j]?.toList, ∀ v ∈ osPk[j]?.toList, Cond.laysStatic "OrderSettler$Word" n "LOrderSettler$Word;" ∈ lw_tbl ∧ Cond.exactly (.static "OrderSettler$Word" n "LOrderSettler$Word;") "OrderSettler$Word" ∈ osGv ∧ Cond.eq (.field (.static "OrderSettler$Word" n "LOrderSettler$Word;") "OrderSettler$Word" "packed" "J") (.long v) ∈ osGv ∧ Cond.eq (.elem (.static "OrderSettler$Word" "ALL" "[LOrderSettler$Word;") (.int (Int32.ofNat j))) (.static "OrderSettler$Word" n "LOrderSettler$Word;") ∈ osGv := by decide +kernel

/-- words and texts lie apart -/
def osInj (G : osG) : Prop := (∀ i j, i < 15 → j < 15 → G.2.2.2.1 i = G.2.2.2.1 j → i = j) ∧ (∀ i j, i < 17 → j < 17 → G.2.2.2.2 i = G.2.2.2.2 j → i = j) ∧ (∀ i j, i < 17 → j < 17 → G.2.2.2.2 (100 + i) = G.2.2.2.2 (100 + j) → i = j) ∧ ∀ i, i < 17 → G.2.2.2.2 i < G.2.2.1 ∧ G.2.2.2.2 (100 + i) < G.2.2.1
theorem osPk_inj : ∀ i, i < 15 → ∀ j, j < 15 → osPk[i]? = osPk[j]? → i = j := by decide +kernel
theorem osTs_inj : ∀ i, i < 17 → ∀ j, j < 17 → (osTs.getD i []).length = (osTs.getD j []).length → (∀ k, k < 9 → (osTs.getD i []).getD k 0 = (osTs.getD j []).getD k 0) → i = j := by decide +kernel
theorem osTs_len : ∀ i, i < 17 → (osTs.getD i []).length ≤ 9 := by decide +kernel
theorem osTs_apart {i j t : Nat} {A : Nat → Prop} {s : State} {H : Heap} (hi : i < 17) (hj : j < 17) (h1 : va_T .byte t (osTs.getD i []).length (fun k => .int ((osTs.getD i []).getD k 0)) A s H) (h2 : va_T .byte t (osTs.getD j []).length (fun k => .int ((osTs.getD j []).getD k 0)) A s H) : i = j := by
  obtain ⟨c1, a1, -, -, -, a5, a6, -⟩ := h1
  obtain ⟨c2, b1, -, -, -, b5, b6, -⟩ := h2
  cases a1.symm.trans b1
  have hl1 := osTs_len i hi
  have hl2 := osTs_len j hj
  have hlen : (osTs.getD i []).length = (osTs.getD j []).length := by
    have h9 := a5.symm.trans b5
    have h10 := congrArg Int32.toNatClampNeg h9
    rw [Int32.toNatClampNeg_ofNat_of_lt (by omega), Int32.toNatClampNeg_ofNat_of_lt (by omega)] at h10
    exact h10
  refine osTs_inj i hi j hj hlen (fun k hk => ?_)
  by_cases hkl : k < (osTs.getD i []).length
  · have := (a6 k hkl).symm.trans (b6 k (by omega))
    exact Value.int.inj (Option.some.inj this)
  · show ((osTs.getD i [])[k]?).getD 0 = ((osTs.getD j [])[k]?).getD 0
    rw [List.getElem?_eq_none (by omega), List.getElem?_eq_none (by omega)]
theorem os_start {s : State} {args : Array Value} (hts : ∀ w ∈ lw_tbl, w.before args s = true) (hgv : (Jvm.Cond.and given_1 narrow_1).before args s = true) : ∃ G : osG, osV G s ∧ osZ G s s.heap ∧ osInj G ∧ G.2.2.1 = s.heap.size := by
  have hX := osX_start hts
  have hg : ∀ w ∈ osGv, w.before args s = true := flat_of_before _ hgv
  have hO : va_AO "OrderSettler$State" s := va_AO.of (hts _ (List.mem_of_getElem? (i := 274) (by decide +kernel)))
  obtain ⟨dD, dA, hK⟩ := osK_start hX hO
  have hA : ∀ a : Nat, a < s.heap.size → ¬ (s.heap.size ≤ a) := fun a h => Nat.not_le.mpr h
  -- the texts
  have htx0 : ∀ j : Nat, ∃ a : Nat, ∀ q : String × Nat × String, osTx[j]? = some q → vk_R q.1 q.2.1 q.2.2 a s ∧ (Term.string q.1 q.2.1).eval args s none [] s = some (.ref a) := by
    intro j
    cases hj : osTx[j]? with
    | none => exact ⟨0, fun q h => by cases h⟩
    | some q =>
      obtain ⟨h1, h2⟩ := osG_tx q (List.mem_of_getElem? hj)
      obtain ⟨a, c, cell, kk, e1, -⟩ := Cond.exactly_spec (hg _ h2)
      exact ⟨a, fun q' h => by cases h; exact ⟨vk_R.of (hts _ h1) e1, e1⟩⟩
  obtain ⟨tx, htx⟩ := Classical.axiomOfChoice htx0
  have hst0 : ∀ j : Nat, ∃ v : Nat, ∀ bs : List Int32, osTs[j]? = some bs → va_O "java/lang/String" (tx j) (fun q => s.heap.size ≤ q) s s.heap ∧ va_OF "java/lang/String" "coder" "B" (.int 0) (tx j) (fun q => s.heap.size ≤ q) s s.heap ∧ va_OF "java/lang/String" "value" "[B" (.ref v) (tx j) (fun q => s.heap.size ≤ q) s s.heap ∧ va_T .byte v bs.length (fun i => .int (bs.getD i 0)) (fun q => s.heap.size ≤ q) s s.heap := by
    intro j
    by_cases hj : j < 17
    · have hq : ∃ q, osTx[j]? = some q := by
        match j, hj with
        | 0, _ => exact ⟨_, rfl⟩
        | 1, _ => exact ⟨_, rfl⟩
        | 2, _ => exact ⟨_, rfl⟩
        | 3, _ => exact ⟨_, rfl⟩
        | 4, _ => exact ⟨_, rfl⟩
        | 5, _ => exact ⟨_, rfl⟩
        | 6, _ => exact ⟨_, rfl⟩
        | 7, _ => exact ⟨_, rfl⟩
        | 8, _ => exact ⟨_, rfl⟩
        | 9, _ => exact ⟨_, rfl⟩
        | 10, _ => exact ⟨_, rfl⟩
        | 11, _ => exact ⟨_, rfl⟩
        | 12, _ => exact ⟨_, rfl⟩
        | 13, _ => exact ⟨_, rfl⟩
        | 14, _ => exact ⟨_, rfl⟩
        | 15, _ => exact ⟨_, rfl⟩
        | 16, _ => exact ⟨_, rfl⟩
        | n + 17, hj => exact absurd hj (by omega)
      obtain ⟨q, hq⟩ := hq
      have hb := osTs_at hj
      obtain ⟨g1, g2, g3⟩ := osG_st j hj q (by rw [hq]; exact List.mem_cons_self)
      have g5 : (osTs.getD j []).length < 2 ^ 31 := Nat.lt_of_le_of_lt (osTs_len j hj) (by decide)
      obtain ⟨-, h2⟩ := osG_tx q (List.mem_of_getElem? hq)
      obtain ⟨v, hv⟩ := osStr1 (A := fun q => s.heap.size ≤ q) g5 (htx j q hq).2 (hg _ h2) (hg _ g1) (hg _ g2) (hg _ g3) (fun k hk => hg _ (osG_sk j hj q (by rw [hq]; exact List.mem_cons_self) k hk)) hA
      exact ⟨v, fun bs h => by cases hb.symm.trans h; exact hv⟩
    · refine ⟨0, fun bs h => ?_⟩
      have := (List.getElem?_eq_some_iff.mp h).1
      exact absurd (show j < 17 from this) hj
  obtain ⟨tv, htv⟩ := Classical.axiomOfChoice hst0
  -- the words
  have hw0 : ∀ j : Nat, ∃ a : Nat, ∀ (n : String) (v : Int64), osWd[j]? = some n → osPk[j]? = some v → (Term.static "OrderSettler$Word" n "LOrderSettler$Word;").eval args s none [] s = some (.ref a) := by
    intro j
    by_cases hj : j < 15
    · cases hn : osWd[j]? with
      | none => exact ⟨0, fun n v h => by cases h⟩
      | some n =>
        cases hv : osPk[j]? with
        | none => exact ⟨0, fun n v _ h => by cases h⟩
        | some v =>
          obtain ⟨-, g2, -⟩ := osG_wd j hj n (by rw [hn]; exact List.mem_cons_self) v (by rw [hv]; exact List.mem_cons_self)
          obtain ⟨a, c, cell, kk, e1, -⟩ := Cond.exactly_spec (hg _ g2)
          exact ⟨a, fun n' v' h1 h2 => by cases h1; exact e1⟩
    · refine ⟨0, fun n v h => ?_⟩
      have := (List.getElem?_eq_some_iff.mp h).1
      exact absurd (show j < 15 from this) hj
  obtain ⟨wd, hwd⟩ := Classical.axiomOfChoice hw0
  have hALL : ∃ a : Nat, (Term.static "OrderSettler$Word" "ALL" "[LOrderSettler$Word;").eval args s none [] s = some (.ref a) := by
    obtain ⟨a, c, cell, kk, e1, -⟩ := Cond.exactly_spec (hg (Cond.exactly (.static "OrderSettler$Word" "ALL" "[LOrderSettler$Word;") "[LOrderSettler$Word;") (by decide +kernel))
    exact ⟨a, e1⟩
  obtain ⟨aA, hALL⟩ := hALL
  have hpk : ∀ j, j < 15 → ∃ n v, osWd[j]? = some n ∧ osPk[j]? = some v := by
    intro j hj
    match j, hj with
    | 0, _ => exact ⟨_, _, rfl, rfl⟩
    | 1, _ => exact ⟨_, _, rfl, rfl⟩
    | 2, _ => exact ⟨_, _, rfl, rfl⟩
    | 3, _ => exact ⟨_, _, rfl, rfl⟩
    | 4, _ => exact ⟨_, _, rfl, rfl⟩
    | 5, _ => exact ⟨_, _, rfl, rfl⟩
    | 6, _ => exact ⟨_, _, rfl, rfl⟩
    | 7, _ => exact ⟨_, _, rfl, rfl⟩
    | 8, _ => exact ⟨_, _, rfl, rfl⟩
    | 9, _ => exact ⟨_, _, rfl, rfl⟩
    | 10, _ => exact ⟨_, _, rfl, rfl⟩
    | 11, _ => exact ⟨_, _, rfl, rfl⟩
    | 12, _ => exact ⟨_, _, rfl, rfl⟩
    | 13, _ => exact ⟨_, _, rfl, rfl⟩
    | 14, _ => exact ⟨_, _, rfl, rfl⟩
  refine ⟨(dD, dA, s.heap.size, fun j => if j = 15 then aA else wd j, fun j => if j < 100 then tx j else tv (j - 100)), ⟨hX, hK, ?_⟩, ⟨?_, ?_, ?_, ?_, ?_, ?_⟩, ?_, rfl⟩
  · intro j q hj
    have h22 : j < 100 := Nat.lt_of_lt_of_le (List.getElem?_eq_some_iff.mp hj).1 (by decide)
    show vk_R q.1 q.2.1 q.2.2 (if j < 100 then tx j else tv (j - 100)) s
    rw [if_pos h22]
    exact (htx j q hj).1
  · intro j n hn
    have hj : j < 15 := (List.getElem?_eq_some_iff.mp hn).1
    obtain ⟨n', v, e1, e2⟩ := hpk j hj
    cases hn.symm.trans e1
    obtain ⟨g1, -⟩ := osG_wd j hj n (by rw [hn]; exact List.mem_cons_self) v (by rw [e2]; exact List.mem_cons_self)
    show va_Z "OrderSettler$Word" n "LOrderSettler$Word;" (.ref (if j = 15 then aA else wd j)) _ s s.heap
    rw [if_neg (by omega)]
    exact va_Zof (hts _ g1) (hts _ (List.mem_of_getElem? (i := 73) (by decide +kernel))) (hwd j n v hn e2) hA
  · exact va_Zof (hts _ (List.mem_of_getElem? (i := 693) (by decide +kernel))) (hts _ (List.mem_of_getElem? (i := 73) (by decide +kernel))) hALL hA
  · intro j v hv
    have hj : j < 15 := (List.getElem?_eq_some_iff.mp hv).1
    obtain ⟨n, v', e1, e2⟩ := hpk j hj
    cases hv.symm.trans e2
    obtain ⟨-, -, g3, -⟩ := osG_wd j hj n (by rw [e1]; exact List.mem_cons_self) v (by rw [hv]; exact List.mem_cons_self)
    show osWc _ (if j = 15 then aA else wd j) v s s.heap
    rw [if_neg (by omega)]
    exact vk_OFof (A := fun q => s.heap.size ≤ q) (hwd j n v e1 hv) (va_eqtl (hg _ g3)) hA
  · exact vx_Zqof (hts _ (List.mem_of_getElem? (i := 568) (by decide +kernel))) (hts _ (List.mem_of_getElem? (i := 67) (by decide +kernel))) (hg _ (by decide +kernel)) hA
  · exact vx_Zqof (hts _ (List.mem_of_getElem? (i := 570) (by decide +kernel))) (hts _ (List.mem_of_getElem? (i := 67) (by decide +kernel))) (hg _ (by decide +kernel)) hA
  · refine ⟨?_, ?_, ?_, ?_, ?_, hO⟩
    · obtain ⟨t, ht, hT⟩ := va_Tof (args := args) (tm := .static "OrderSettler$Word" "ALL" "[LOrderSettler$Word;") (ty := .object "OrderSettler$Word") (N := 15) (f := fun j => .ref (if j = 15 then aA else wd j)) (A := fun q => s.heap.size ≤ q) (by decide) (hg _ (by decide +kernel)) (va_eqt (hg _ (by decide +kernel))) (fun j hj => by
        obtain ⟨n, v, e1, e2⟩ := hpk j hj
        obtain ⟨-, -, -, g4⟩ := osG_wd j hj n (by rw [e1]; exact List.mem_cons_self) v (by rw [e2]; exact List.mem_cons_self)
        rw [if_neg (by omega)]
        exact osEqR (hg _ g4) (hwd j n v e1 e2)) hA
      cases hALL.symm.trans ht
      exact hT
    · intro j bs hj
      have hj17 : j < 17 := (List.getElem?_eq_some_iff.mp hj).1
      show va_O "java/lang/String" (if j < 100 then tx j else tv (j - 100)) _ s s.heap ∧ va_OF "java/lang/String" "coder" "B" (.int 0) (if j < 100 then tx j else tv (j - 100)) _ s s.heap ∧ va_OF "java/lang/String" "value" "[B" (.ref (if 100 + j < 100 then tx (100 + j) else tv (100 + j - 100))) (if j < 100 then tx j else tv (j - 100)) _ s s.heap ∧ va_T .byte (if 100 + j < 100 then tx (100 + j) else tv (100 + j - 100)) bs.length (fun i => .int (bs.getD i 0)) _ s s.heap
      rw [if_pos (by omega), if_neg (by omega), show 100 + j - 100 = j by omega]
      exact htv j bs hj
    · exact va_Zof (hts _ (List.mem_of_getElem? (i := 498) (by decide +kernel))) (hts _ (List.mem_of_getElem? (i := 59) (by decide +kernel))) (va_eqt (hg _ (by decide +kernel))) hA
    · exact va_Zqof (hts _ (List.mem_of_getElem? (i := 514) (by decide +kernel))) (hts _ (List.mem_of_getElem? (i := 65) (by decide +kernel))) (hg _ (by decide +kernel)) hA
    · trivial
  · refine ⟨?_, ?_, ?_, ?_⟩
    · intro i j hi hj e
      replace e : (if i = 15 then aA else wd i) = (if j = 15 then aA else wd j) := e
      rw [if_neg (by omega), if_neg (by omega)] at e
      obtain ⟨n1, v1, a1, a2⟩ := hpk i hi
      obtain ⟨n2, v2, b1, b2⟩ := hpk j hj
      obtain ⟨-, -, g3, -⟩ := osG_wd i hi n1 (by rw [a1]; exact List.mem_cons_self) v1 (by rw [a2]; exact List.mem_cons_self)
      obtain ⟨-, -, g4, -⟩ := osG_wd j hj n2 (by rw [b1]; exact List.mem_cons_self) v2 (by rw [b2]; exact List.mem_cons_self)
      obtain ⟨c1, k1, i1, f1, cell1, x1, -, x3, -, x5, -⟩ := vk_OFof (A := fun q => s.heap.size ≤ q) (hwd i n1 v1 a1 a2) (va_eqtl (hg _ g3)) hA
      obtain ⟨c2, k2, i2, f2, cell2, y1, -, y3, -, y5, -⟩ := vk_OFof (A := fun q => s.heap.size ≤ q) (hwd j n2 v2 b1 b2) (va_eqtl (hg _ g4)) hA
      cases x1.symm.trans y1
      rw [e] at x3
      cases x3.symm.trans y3
      have hv : v1 = v2 := by
        have := x5.symm.trans y5
        cases this; rfl
      subst hv
      exact osPk_inj i hi j hj (by rw [a2, b2])
    · intro i j hi hj e
      replace e : (if i < 100 then tx i else tv (i - 100)) = (if j < 100 then tx j else tv (j - 100)) := e
      rw [if_pos (by omega), if_pos (by omega)] at e
      obtain ⟨-, -, p3, p4⟩ := htv i _ (osTs_at hi)
      obtain ⟨-, -, r3, r4⟩ := htv j _ (osTs_at hj)
      obtain ⟨c1, k1, i1, f1, cell1, x1, -, x3, -, x5, -⟩ := p3
      obtain ⟨c2, k2, i2, f2, cell2, y1, -, y3, -, y5, -⟩ := r3
      cases x1.symm.trans y1
      rw [e] at x3
      cases x3.symm.trans y3
      have hv : tv i = tv j := Value.ref.inj (Option.some.inj (x5.symm.trans y5))
      rw [hv] at p4
      exact osTs_apart hi hj p4 r4
    · intro i j hi hj e
      replace e : (if 100 + i < 100 then tx (100 + i) else tv (100 + i - 100)) = (if 100 + j < 100 then tx (100 + j) else tv (100 + j - 100)) := e
      rw [if_neg (by omega), if_neg (by omega), show 100 + i - 100 = i by omega, show 100 + j - 100 = j by omega] at e
      obtain ⟨-, -, -, p4⟩ := htv i _ (osTs_at hi)
      obtain ⟨-, -, -, r4⟩ := htv j _ (osTs_at hj)
      rw [e] at p4
      exact osTs_apart hi hj p4 r4
    · intro i hi
      show (if i < 100 then tx i else tv (i - 100)) < s.heap.size ∧ (if 100 + i < 100 then tx (100 + i) else tv (100 + i - 100)) < s.heap.size
      rw [if_pos (by omega), if_neg (by omega), show 100 + i - 100 = i by omega]
      obtain ⟨⟨c1, a1, -⟩, -, -, c2, a2, -⟩ := htv i _ (osTs_at hi)
      exact ⟨(Array.getElem?_eq_some_iff.mp a1).1, (Array.getElem?_eq_some_iff.mp a2).1⟩
