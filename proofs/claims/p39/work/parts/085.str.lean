/-! constant arrays and texts -/
def oswlen (a : Nat) : osM Int32 := fun G z => if a = G.2.2.2.1 15 then some (15, z) else none
def oswld (a : Nat) (i : Int32) : osM Nat := fun G z => if a = G.2.2.2.1 15 ∧ osin i 15 then some (G.2.2.2.1 i.toNatClampNeg, z) else none
def osfind (G : osG) (k a : Nat) : Option Nat := (List.range 17).find? (fun j => G.2.2.2.2 (k + j) == a)
theorem osfind_some {G : osG} {k a j : Nat} (h : osfind G k a = some j) : j < 17 ∧ G.2.2.2.2 (k + j) = a := by
  unfold osfind at h
  have h1 := List.mem_of_find?_eq_some h
  have h2 := List.find?_some h
  exact ⟨List.mem_range.mp h1, beq_iff_eq.mp h2⟩
theorem osTs_at {j : Nat} (h : j < 17) : osTs[j]? = some (osTs.getD j []) := by
  match j, h with
  | 0, _ => rfl
  | 1, _ => rfl
  | 2, _ => rfl
  | 3, _ => rfl
  | 4, _ => rfl
  | 5, _ => rfl
  | 6, _ => rfl
  | 7, _ => rfl
  | 8, _ => rfl
  | 9, _ => rfl
  | 10, _ => rfl
  | 11, _ => rfl
  | 12, _ => rfl
  | 13, _ => rfl
  | 14, _ => rfl
  | 15, _ => rfl
  | 16, _ => rfl
  | n + 17, h => omega
def ossval (a : Nat) : osM Nat := fun G z => match osfind G 0 a with
  | some j => some (G.2.2.2.2 (100 + j), z)
  | none => osgR [8] 0 a G z
def osscod (a : Nat) : osM Int32 := fun G z => match osfind G 0 a with
  | some _ => some (0, z)
  | none => osgI [8] 1 a G z
def osblen (a : Nat) : osM Int32 := fun G z => match osfind G 100 a with
  | some j => some (Int32.ofNat (osTs.getD j []).length, z)
  | none => oslen a G z
def osbld (a : Nat) (i : Int32) : osM Int32 := fun G z => match osfind G 100 a with
  | some j => if osin i (osTs.getD j []).length then some ((osTs.getD j []).getD i.toNatClampNeg 0, z) else none
  | none => osaI 1 a i G z
def ostext (j : Nat) : osM Nat := fun G z => some (G.2.2.2.2 j, z)
def osonstr {α : Type} (a : Nat) (g : osM α) : osM α := fun G z => match osfind G 0 a with
  | some _ => g G z
  | none => osrecv [8] a g G z
theorem osfind_cs {α : Type} {G : osG} {k a : Nat} {f : Nat → Option α} {e : Option α} {r : α} (h : (match osfind G k a with | some j => f j | none => e) = some r) : (∃ j, j < 17 ∧ G.2.2.2.2 (k + j) = a ∧ f j = some r) ∨ e = some r := by
  cases hq : osfind G k a with
  | none => rw [hq] at h; exact Or.inr h
  | some j =>
    rw [hq] at h
    obtain ⟨h1, h2⟩ := osfind_some hq
    exact Or.inl ⟨j, h1, h2, h⟩
def osretB (v : Int32) : osM Int32 := fun _ z => if v.toInt8.toInt32 = v then some (v, z) else none
def osretC (v : Int32) : osM Int32 := fun _ z => if v.toUInt32.toUInt16.toUInt32.toInt32 = v then some (v, z) else none
section R
variable {ρ : Type} {Fi : osF ρ} {y : MethodName} {cc : ByteArray} {nL : Nat} {ret : Option FieldType} {hh : List (Nat × Nat × Nat × Nat)} {R : Room} {k n k' n' : Nat} {pc pc' : Nat} {lv : List (Nat × Value)} {st : List Value} {F : osM ρ}
theorem os_wlen {a : Nat} {f : Int32 → osM ρ} (hd : osD cc pc 1 pc' .arraylength) (kk : ∀ v, osW Fi y cc nL ret hh R k n pc' lv (.int v :: st) (f v)) : osW Fi y cc nL ret hh R k n pc lv (.ref a :: st) (osbind (oswlen a) f) := by
  intro p l e s m args below meth c B G z r z' hV hZ hF H locs ls hM hS hl
  obtain ⟨hx, hb, hml, hown, hr, hlk, htab, hst, hnm⟩ := id B
  obtain ⟨v, z1, g1, g2⟩ := osbind_some hF
  obtain ⟨hd, rfl⟩ := hd
  unfold oswlen at g1
  by_cases hc : a = G.2.2.2.1 15
  · rw [if_pos hc] at g1
    cases g1
    subst hc
    exact va_tlen hx hb hZ.2.2.2.2.2.1 hS (v := 15) rfl hd (kk 15 p l e s m args below meth c B G z r z' hV hZ g2 H locs ls hM hS hl)
  · rw [if_neg hc] at g1; cases g1
theorem os_wld {a : Nat} {i : Int32} {f : Nat → osM ρ} (hd : osD cc pc 1 pc' .aaload) (kk : ∀ v, osW Fi y cc nL ret hh R k n pc' lv (.ref v :: st) (f v)) : osW Fi y cc nL ret hh R k n pc lv (.int i :: .ref a :: st) (osbind (oswld a i) f) := by
  intro p l e s m args below meth c B G z r z' hV hZ hF H locs ls hM hS hl
  obtain ⟨hx, hb, hml, hown, hr, hlk, htab, hst, hnm⟩ := id B
  obtain ⟨v, z1, g1, g2⟩ := osbind_some hF
  obtain ⟨hd, rfl⟩ := hd
  unfold oswld at g1
  by_cases hc : a = G.2.2.2.1 15 ∧ osin i 15
  · rw [if_pos hc] at g1
    cases g1
    obtain ⟨rfl, hin⟩ := hc
    exact vb_tq hx hb hZ.2.2.2.2.2.1 hS hin rfl hd (kk _ p l e s m args below meth c B G z r z' hV hZ g2 H locs ls hM hS hl)
  · rw [if_neg hc] at g1; cases g1
theorem os_sval {a idx : Nat} {f : Nat → osM ρ} (hw : Cond.fieldLink y.cls idx "java/lang/String" "value" "[B" ∈ osX) (hf : osFd y.cls idx [8] 0 (.array .byte) true) (hd : osD cc pc 3 pc' (.getfield idx)) (kk : ∀ v, osW Fi y cc nL ret hh R k n pc' lv (.ref v :: st) (f v)) : osW Fi y cc nL ret hh R k n pc lv (.ref a :: st) (osbind (ossval a) f) := by
  intro p l e s m args below meth c B G z r z' hV hZ hF H locs ls hM hS hl
  obtain ⟨hx, hb, hml, hown, hr, hlk, htab, hst, hnm⟩ := id B
  obtain ⟨v, z1, g1, g2⟩ := osbind_some hF
  rcases osfind_cs g1 with ⟨j, hj, hja, g3⟩ | g3
  · obtain ⟨hd, rfl⟩ := hd
    cases g3
    rw [Nat.zero_add] at hja
    subst hja
    exact vk_getf hx hb (hZ.2.2.2.2.2.2.1 j _ (osTs_at hj)).2.2.1 hS hown (hV.word _ hw) (fun _ h => h) hd (kk _ p l e s m args below meth c B G z r z' hV hZ g2 H locs ls hM hS hl)
  · obtain ⟨h3, rfl⟩ := osgR_some g3
    exact os_getV hf hd z1 h3 B hV hM (kk v p l e s m args below meth c B G z1 r z' hV hZ g2 H locs ls hM hS hl)
theorem os_scod {a idx : Nat} {f : Int32 → osM ρ} (hw : Cond.fieldLink y.cls idx "java/lang/String" "coder" "B" ∈ osX) (hf : osFd y.cls idx [8] 1 .byte true) (hd : osD cc pc 3 pc' (.getfield idx)) (kk : ∀ v, osW Fi y cc nL ret hh R k n pc' lv (.int v :: st) (f v)) : osW Fi y cc nL ret hh R k n pc lv (.ref a :: st) (osbind (osscod a) f) := by
  intro p l e s m args below meth c B G z r z' hV hZ hF H locs ls hM hS hl
  obtain ⟨hx, hb, hml, hown, hr, hlk, htab, hst, hnm⟩ := id B
  obtain ⟨v, z1, g1, g2⟩ := osbind_some hF
  rcases osfind_cs g1 with ⟨j, hj, hja, g3⟩ | g3
  · obtain ⟨hd, rfl⟩ := hd
    cases g3
    rw [Nat.zero_add] at hja
    subst hja
    exact vk_getf hx hb (hZ.2.2.2.2.2.2.1 j _ (osTs_at hj)).2.1 hS hown (hV.word _ hw) (fun _ h => h) hd (kk _ p l e s m args below meth c B G z r z' hV hZ g2 H locs ls hM hS hl)
  · obtain ⟨h3, rfl⟩ := osgI_some g3
    exact os_getV hf hd z1 h3 B hV hM (kk v p l e s m args below meth c B G z1 r z' hV hZ g2 H locs ls hM hS hl)
theorem os_blen {a : Nat} {f : Int32 → osM ρ} (hd : osD cc pc 1 pc' .arraylength) (kk : ∀ v, osW Fi y cc nL ret hh R k n pc' lv (.int v :: st) (f v)) : osW Fi y cc nL ret hh R k n pc lv (.ref a :: st) (osbind (osblen a) f) := by
  intro p l e s m args below meth c B G z r z' hV hZ hF H locs ls hM hS hl
  obtain ⟨v, z1, g1, g2⟩ := osbind_some hF
  rcases osfind_cs g1 with ⟨j, hj, hja, g3⟩ | g3
  · obtain ⟨hx, hb, hml, hown, hr, hlk, htab, hst, hnm⟩ := id B
    obtain ⟨hd, rfl⟩ := hd
    cases g3
    subst hja
    exact va_tlen hx hb (hZ.2.2.2.2.2.2.1 j _ (osTs_at hj)).2.2.2 hS rfl hd (kk _ p l e s m args below meth c B G z r z' hV hZ g2 H locs ls hM hS hl)
  · exact os_arraylength hd kk p l e s m args below meth c B G z r z' hV hZ (show osbind (oslen a) f G z = _ by unfold osbind; rw [g3]; exact g2) H locs ls hM hS hl
theorem os_bld {a : Nat} {i : Int32} {f : Int32 → osM ρ} (hd : osD cc pc 1 pc' .baload) (kk : ∀ v, osW Fi y cc nL ret hh R k n pc' lv (.int v :: st) (f v)) : osW Fi y cc nL ret hh R k n pc lv (.int i :: .ref a :: st) (osbind (osbld a i) f) := by
  intro p l e s m args below meth c B G z r z' hV hZ hF H locs ls hM hS hl
  obtain ⟨v, z1, g1, g2⟩ := osbind_some hF
  rcases osfind_cs g1 with ⟨j, hj, hja, g3⟩ | g3
  · obtain ⟨hx, hb, hml, hown, hr, hlk, htab, hst, hnm⟩ := id B
    obtain ⟨hd, rfl⟩ := hd
    by_cases hin : osin i (osTs.getD j []).length
    · rw [if_pos hin] at g3
      cases g3
      subst hja
      exact va_tb hx hb (hZ.2.2.2.2.2.2.1 j _ (osTs_at hj)).2.2.2 hS hin rfl hd (kk _ p l e s m args below meth c B G z r z' hV hZ g2 H locs ls hM hS hl)
    · rw [if_neg hin] at g3
      cases g3
  · exact os_baload hd kk p l e s m args below meth c B G z r z' hV hZ (show osbind (osaI 1 a i) f G z = _ by unfold osbind; rw [g3]; exact g2) H locs ls hM hS hl
theorem os_compact {idx : Nat} (hw : Cond.fieldLink y.cls idx "java/lang/String" "COMPACT_STRINGS" "Z" ∈ osX) (hd : osD cc pc 3 pc' (.getstatic idx)) (kk : osW Fi y cc nL ret hh R k n pc' lv (.int (1 : Int32) :: st) F) : osW Fi y cc nL ret hh R k n pc lv st F := by
  intro p l e s m args below meth c B G z r z' hV hZ hF H locs ls hM hS hl
  obtain ⟨hx, hb, hml, hown, hr, hlk, htab, hst, hnm⟩ := id B
  obtain ⟨hd, rfl⟩ := hd
  exact va_gets hx hb hZ.2.2.2.2.2.2.2.1 hS hown (hV.word _ hw) (fun x hx => hx) hd (kk p l e s m args below meth c B G z r z' hV hZ hF H locs ls hM hS hl)
theorem os_sioobe {idx : Nat} (hw : Cond.fieldLink y.cls idx "jdk/internal/util/Preconditions" "SIOOBE_FORMATTER" "Ljava/util/function/BiFunction;" ∈ osX) (hd : osD cc pc 3 pc' (.getstatic idx)) (kk : ∀ v : Value, (v = .null ∨ ∃ t : Nat, v = .ref t) → osW Fi y cc nL ret hh R k n pc' lv (v :: st) F) : osW Fi y cc nL ret hh R k n pc lv st F := by
  intro p l e s m args below meth c B G z r z' hV hZ hF H locs ls hM hS hl
  obtain ⟨hx, hb, hml, hown, hr, hlk, htab, hst, hnm⟩ := id B
  obtain ⟨hd, rfl⟩ := hd
  rcases hZ.2.2.2.2.2.2.2.2.1 with hq | ⟨t, hq⟩
  · exact va_gets hx hb hq hS hown (hV.word _ hw) (fun x hx => hx) hd (kk .null (Or.inl rfl) p l e s m args below meth c B G z r z' hV hZ hF H locs ls hM hS hl)
  · exact va_gets hx hb hq hS hown (hV.word _ hw) (fun x hx => hx) hd (kk (.ref t) (Or.inr ⟨t, rfl⟩) p l e s m args below meth c B G z r z' hV hZ hF H locs ls hM hS hl)
theorem os_text {j : Nat} {q : String × Nat × String} {f : Nat → osM ρ} (hj : osTx[j]? = some q) (hy : y.cls = q.1) (hd : osD cc pc 2 pc' (.ldc q.2.1)) (kk : ∀ v, osW Fi y cc nL ret hh R k n pc' lv (.ref v :: st) (f v)) : osW Fi y cc nL ret hh R k n pc lv st (osbind (ostext j) f) := by
  intro p l e s m args below meth c B G z r z' hV hZ hF H locs ls hM hS hl
  obtain ⟨hx, hb, hml, hown, hr, hlk, htab, hst, hnm⟩ := id B
  obtain ⟨v, z1, g1, g2⟩ := osbind_some hF
  cases g1
  obtain ⟨hd, rfl⟩ := hd
  have hR := hV.2.2 j q hj
  rw [hy] at hown
  intro T hT X
  obtain ⟨t, a1, b1⟩ := kk _ p l e s m args below meth c B G z r z' hV hZ g2 H locs ls hM hS hl T hT X
  exact ⟨t, X.ldcString hx hown hR.1 hR.2 (g := F0 m pc ls st) rfl (by rw [hb]; exact hd) t a1, b1⟩
theorem os_i2c {x : Int32} (hd : osD cc pc 1 pc' .i2c) (kk : osW Fi y cc nL ret hh R k n pc' lv (.int ((x.toUInt32 % 65536).toInt32) :: st) F) : osW Fi y cc nL ret hh R k n pc lv (.int x :: st) F := by
  intro p l e s m args below meth c B G z r z' hV hZ hF H locs ls hM hS hl
  obtain ⟨hx, hb, hml, hown, hr, hlk, htab, hst, hnm⟩ := id B
  obtain ⟨hd, rfl⟩ := hd
  exact lv_i2c hx hb hd rfl (kk p l e s m args below meth c B G z r z' hV hZ hF H locs ls hM hS hl)
theorem os_no {F : osM ρ} (h : F = osno) : osW Fi y cc nL ret hh R k n pc lv st F := by
  intro p l e s m args below meth c B G z r z' hV hZ hF
  rw [h] at hF
  cases hF
end R
section S
variable {ρ : Type} {Fi : osF ρ} {y : MethodName} {cc : ByteArray} {nL : Nat} {ret : Option FieldType} {hh : List (Nat × Nat × Nat × Nat)} {R : Room} {k n k' n' : Nat} {pc pc' : Nat} {lv : List (Nat × Value)} {st : List Value} {F : osM ρ}
variable {α : Type} {rv : α → Option Value} {y' : MethodName} {cc' : ByteArray} {nL' : Nat} {ret' : Option FieldType} {fr lo mc ms np idx b : Nat} {As : List Value} {g : osM α} {f : α → osM ρ} {stk : List Value} {st' : α → List Value}
/-- a method of a text -/
theorem os_callStr (hsl : Cond.selects "java/lang/String" y' y' ∈ osX) (hd' : osMd y' cc' nL' ret' np) (h3 : Cond.methodLink y.cls idx y' ∈ osX) (h4 : Cond.instanceMethod y' ∈ osX) (hMt : osMet y' cc' nL' ret' fr lo mc ms rv (.ref b :: As) g) (hn : As.length = np) (hst : stk = As.reverse ++ .ref b :: st) (hsp : ∀ r, (rv r).toList ++ st = st' r) (hcat : (st.map fun v => v.category).sum ≤ 8) (hfr : fr + 1 ≤ R.frames) (hlo : 8 + (nL' + 11) + lo ≤ R.locals) (hk : k + mc = k') (hk2 : k' ≤ R.cells) (hn1 : n + ms = n') (hn2 : n' ≤ R.slots) (hd : osD cc pc 3 pc' (.invokevirtual idx)) (kk : ∀ r, osW Fi y cc nL ret hh R k' n' pc' lv (st' r) (f r)) : osW Fi y cc nL ret hh R k n pc lv stk (osbind (osonstr b g) f) := by
  intro p l e s m args below meth c B G z r z' hV hZ hF H locs ls hM hS hl
  obtain ⟨hx, hb, hml, hown, hr, hlk, htab, hst9, hnm⟩ := id B
  obtain ⟨v, z1, g0, g2⟩ := osbind_some hF
  obtain ⟨hd, rfl⟩ := hd
  subst hk; subst hn1; subst hst
  have hts := hV.word (args := args)
  obtain ⟨g1, hrc⟩ : g G z = some (v, z1) ∧ ∃ cell : Cell, H[b]? = some cell ∧ cell.vm.isStatics = false ∧ s.vm.findClass "java/lang/String" = some cell.cls := by
    rcases osfind_cs g0 with ⟨j, hj, hja, g1⟩ | g1
    · rw [Nat.zero_add] at hja
      obtain ⟨cell, h1, h2, h5, -⟩ := (hZ.2.2.2.2.2.2.1 j _ (osTs_at hj)).1.kept hS.2.1
      subst hja
      exact ⟨g1, cell, h1, h2, h5⟩
    · obtain ⟨ci, fs, hz, hc, g2⟩ := osrecv_some g1
      cases List.mem_singleton.mp hc
      exact ⟨g2, va_recv (q0 := 0) hV.2.1 (va_P1 (show va_at G.1 vwCl (b, .inr (8, fs)) H from hM.1 b _ hz)) (show vwCl[8]? = some (RJ0, TJ0, 4) from rfl) rfl⟩
  have hM0 := hMt l hst9 G z v z1 g1
  have cw : CallW R s args y.cls "java/lang/String" idx y' cc' nL' ret' [.code y' cc' nL' ret'] { frames := fr, cells := mc, slots := ms, locals := lo } mc ms np :=
    ⟨⟨rfl, rfl, hfr, hlo, osOne hV hd'.1, List.mem_cons_self, hts _ hd'.1, hts _ hd'.2.1, hd'.2.2.1, hd'.len, hts _ h3⟩, hts _ h4, hts _ hsl⟩
  have hrun := va_runV (e := e) (below := below) (meth := meth) (H := H) (locs := locs) (cells := k) (slots := n) (rest := st) (g := F0 m pc ls (As.reverse ++ .ref b :: st)) ⟨hx, hb, hml, hown, hts⟩ hM0 cw ⟨osR.blind, hrc, fun U hU hW => ⟨rfl, osR.end hV hZ hM hS hU hW⟩⟩ rfl hn hl.1 rfl (lv_room hcat) hd ⟨hk2, hn2⟩
  refine osQc.next (rv := rv) (G := G) (r := v) (z := z1) hrun hS fun H1 locs1 hM1 hS1 => ?_
  rw [hsp v]
  exact kk v p l e s m args below meth c B G z1 r z' hV hZ g2 H1 locs1 ls hM1 hS1 hl
end S
section E
variable {y : MethodName} {cc : ByteArray} {nL : Nat} {hh : List (Nat × Nat × Nat × Nat)} {R : Room} {k n mc ms : Nat} {pc : Nat} {lv : List (Nat × Value)}
theorem os_bret {v : Int32} (hk : k ≤ mc) (hn : n ≤ ms) (hd : decode cc pc = .ok (.ireturn, 1)) : osW (osFinM (fun r : Int32 => some (.int r)) mc ms) y cc nL (some .byte) hh R k n pc lv [.int v] (osretB v) := by
  intro p l e s m args below meth c B G z r z' hV hZ hF H locs ls hM hS hl
  obtain ⟨hx, hb, hml, hown, hr, hlk, htab, hst9, hnm⟩ := id B
  unfold osretB at hF
  by_cases hv : v.toInt8.toInt32 = v
  · rw [if_pos hv] at hF
    cases hF
    exact W.widen hk hn (W.zret hx hb hr (show Value.int v.toInt8.toInt32 = .int v by rw [hv]) (fun t ht hW => ⟨rfl, osEndF hV hZ hM hS ht hW⟩) hS.2.2 hd hlk)
  · rw [if_neg hv] at hF; cases hF
theorem os_cret {v : Int32} (hk : k ≤ mc) (hn : n ≤ ms) (hd : decode cc pc = .ok (.ireturn, 1)) : osW (osFinM (fun r : Int32 => some (.int r)) mc ms) y cc nL (some .char) hh R k n pc lv [.int v] (osretC v) := by
  intro p l e s m args below meth c B G z r z' hV hZ hF H locs ls hM hS hl
  obtain ⟨hx, hb, hml, hown, hr, hlk, htab, hst9, hnm⟩ := id B
  unfold osretC at hF
  by_cases hv : v.toUInt32.toUInt16.toUInt32.toInt32 = v
  · rw [if_pos hv] at hF
    cases hF
    exact W.widen hk hn (W.zret hx hb hr (show Value.int v.toUInt32.toUInt16.toUInt32.toInt32 = .int v by rw [hv]) (fun t ht hW => ⟨rfl, osEndF hV hZ hM hS ht hW⟩) hS.2.2 hd hlk)
  · rw [if_neg hv] at hF; cases hF
end E
