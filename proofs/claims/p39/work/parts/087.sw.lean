/-! a switch of two keys; new rows of states; the heap's size forgotten -/
section R
variable {ρ : Type} {Fi : osF ρ} {y : MethodName} {cc : ByteArray} {nL : Nat} {ret : Option FieldType} {hh : List (Nat × Nat × Nat × Nat)} {R : Room} {k n k' n' : Nat} {pc pc' : Nat} {lv : List (Nat × Value)} {st : List Value} {F : osM ρ}
theorem os_lookup2 {a b oa ob dflt : Int} {len ta tb td : Nat} {x : Int32} {Fa Fb Fd : osM ρ} (hab : a < b) (hta : (pc : Int) + oa = (ta : Int)) (htb : (pc : Int) + ob = (tb : Int)) (htd : (pc : Int) + dflt = (td : Int)) (hd : osD cc pc len pc' (.lookupswitch dflt #[(a, oa), (b, ob)])) (ka : osW Fi y cc nL ret hh R k n ta lv st Fa) (kb : osW Fi y cc nL ret hh R k n tb lv st Fb) (kd : osW Fi y cc nL ret hh R k n td lv st Fd) : osW Fi y cc nL ret hh R k n pc lv (.int x :: st) (osite (x.toInt = a) Fa (osite (x.toInt = b) Fb Fd)) := by
  intro p l e s m args below meth c B G z r z' hV hZ hF H locs ls hM hS hl
  obtain ⟨hx, hb, hml, hown, hr, hlk, htab, hst, hnm⟩ := id B
  have hq := osite_some hF
  have hp : ((#[(a, oa), (b, ob)] : Array (Int × Int)).toList.zip ((#[(a, oa), (b, ob)] : Array (Int × Int)).toList.drop 1)).all (fun (a, next) => a.1 < next.1) = true := by simp [hab]
  by_cases h1 : x.toInt = a
  · exact lv_lookup (off := oa) hx hb hd.1 hp (by simp [Op.lookupswitch.offset, h1]) hta (ka p l e s m args below meth c B G z r z' hV hZ (hq.1 h1) H locs ls hM hS hl)
  · have hq2 := osite_some (hq.2 h1)
    by_cases h2 : x.toInt = b
    · exact lv_lookup (off := ob) hx hb hd.1 hp (by simp [Op.lookupswitch.offset, h2]; intro h; omega) htb (kb p l e s m args below meth c B G z r z' hV hZ (hq2.1 h2) H locs ls hM hS hl)
    · exact lv_lookup (off := dflt) hx hb hd.1 hp (by simp [Op.lookupswitch.offset]; omega) htd (kd p l e s m args below meth c B G z r z' hV hZ (hq2.2 h2) H locs ls hM hS hl)
theorem os_anewarray {i : Int32} {t N idx : Nat} {C : String} {f : Nat → osM ρ} (hC : C = "OrderSettler$State") (ht : t = 5) (hw : Cond.classLink y.cls idx C ∈ osX) (hi : ¬ i < 0) (hN : i.toNatClampNeg = N) (hby : N * 4 ≤ 536870912) (hk : k + 1 ≤ R.cells) (hn : n + N ≤ R.slots) (hd : osD cc pc 3 pc' (.anewarray idx)) (kk : ∀ q, osW Fi y cc nL ret hh R (k + 1) (n + N) pc' lv (.ref q :: st) (f q)) : osW Fi y cc nL ret hh R k n pc lv (.int i :: st) (osbind (osnew (.inl (t, (N, .inr (.inr (.inr (.inr fun _ => none))))))) f) := by
  intro p l e s m args below meth c B G z r z' hV hZ hF H locs ls hM hS hl
  obtain ⟨hx, hb, hml, hown, hr, hlk, htab, hst, hnm⟩ := id B
  obtain ⟨q, z1, g1, g2⟩ := osbind_some hF
  obtain ⟨hz, hA, rfl⟩ := osnew_some g1
  obtain ⟨hd, rfl⟩ := hd
  subst ht; subst hC; subst hN
  have hts := hV.word (args := args)
  have hsz := hM.2 q hz
  refine W.anew hx hb hown (hts _ hw) (va_AO.use hZ.2.2.2.2.2.2.2.2.2.2) rfl hd rfl hi hby hk hn fun cA kA comp f1 f2 f3 f4 => ?_
  have ht := osTys_at (G := G) (t := 5) (ty := .object "OrderSettler$State") rfl
  have hra := (hV.2.1.2 5 _ ht).2
  have hcA : s.vm.findClass ("[" ++ (FieldType.object "OrderSettler$State").toString) = some (G.2.1 5) := by
    obtain ⟨kA9, comp9, r1, r2, r3, r4⟩ := hra
    exact r4
  have hce : cA = G.2.1 5 := Option.some.inj (f1.symm.trans hcA)
  subst hce
  have e1 : (H.push ({ cls := G.2.1 5, slots := Array.replicate i.toNatClampNeg .null, vm := .none } : Cell))[q]? = some (vp_cell (G.2.1 5) (i.toNatClampNeg, .inr (.inr (.inr (.inr fun _ => none))))) := by
    rw [← hsz, Array.getElem?_push_size, vp_cell_q, ← arrV_new]
    rfl
  have e2 : (H.push ({ cls := G.2.1 5, slots := Array.replicate i.toNatClampNeg .null, vm := .none } : Cell)).size = q + 1 := by rw [Array.size_push, hsz]
  have e3 : ∀ b : Nat, b < q → (H.push ({ cls := G.2.1 5, slots := Array.replicate i.toNatClampNeg .null, vm := .none } : Cell))[b]? = H[b]? := fun b hb9 => by rw [Array.getElem?_push, if_neg (by omega)]
  rw [hsz]
  exact kk q p l e s m args below meth c B G _ r z' hV hZ g2 _ locs ls (hM.new hz e2 e3 ⟨e1, show (5 : Nat) < 7 by decide⟩) (osS_new hS hsz e2 e3) hl
/-- from here on the heap's size isn't known -/
def osforget : osM Unit := fun _ z => some ((), (z.1, none))
theorem os_forget (kk : osW Fi y cc nL ret hh R k n pc lv st F) : osW Fi y cc nL ret hh R k n pc lv st (osbind osforget fun _ => F) := by
  intro p l e s m args below meth c B G z r z' hV hZ hF H locs ls hM hS hl
  obtain ⟨v, z1, g1, g2⟩ := osbind_some hF
  cases g1
  exact kk p l e s m args below meth c B G _ r z' hV hZ g2 H locs ls ⟨hM.1, fun k h => by cases h⟩ hS hl
end R
def oshand (L : List (Nat × Int32)) : Nat → osM Int32 := fun j => match L.find? (fun x => x.1 == j) with
  | some x => osret x.2
  | none => osno
theorem oshand_no (L : List (Nat × Int32)) : ∀ j, j ∉ L.map (·.1) → oshand L j = osno := by
  intro j hj
  unfold oshand
  cases h : L.find? (fun x => x.1 == j) with
  | none => rfl
  | some x =>
    have h1 := List.mem_of_find?_eq_some h
    have h2 := List.find?_some h
    exact absurd (List.mem_map.mpr ⟨x, h1, beq_iff_eq.mp h2⟩) hj
theorem oshand_no2 (L : List (Nat × Int32)) {ks : List Nat} (hk : ks = L.map (·.1)) : ∀ j, j ∉ ks → oshand L j = osno := by
  rw [hk]; exact oshand_no L
theorem osW.toF {ρ : Type} {Fi : osF ρ} {y : MethodName} {cc : ByteArray} {nL : Nat} {ret : Option FieldType} {hh : List (Nat × Nat × Nat × Nat)} {R : Room} {k n pc : Nat} {lv : List (Nat × Value)} {st : List Value} {F F9 : osM ρ} (h : F = F9) (kk : osW Fi y cc nL ret hh R k n pc lv st F9) : osW Fi y cc nL ret hh R k n pc lv st F := by
  rw [h]; exact kk
/-! the law's own end and its script -/
/-- what the law's walk knows of its script at the start -/
def osPL (b L : Nat) (xs : Nat → Int32) (A : Nat → Prop) (args : Array Value) (s : State) : Prop := va_X b L xs s s.heap ∧ b < s.heap.size ∧ ¬ A b ∧ args = #[.ref b] ∧ ∀ q, A q → s.heap.size ≤ q
def osFinL (b L : Nat) (xs : Nat → Int32) (Qf : List Frame → State → State → Prop) : osF Int32 := fun G r _ below args s => fun t => osPL b L xs (osA G) args s → r = 1 → Qf below s t
def ossld (L : Nat) (xs : Nat → Int32) (i : Int32) : osM Int32 := fun _ z => if osin i L then some (xs i.toNatClampNeg, z) else none
def osslen2 (L : Nat) : osM Int32 := fun _ z => if L < 2147483648 then some (Int32.ofNat L, z) else none
section L
variable {b L : Nat} {xs : Nat → Int32} {Qf : List Frame → State → State → Prop} {y : MethodName} {cc : ByteArray} {nL : Nat} {ret : Option FieldType} {hh : List (Nat × Nat × Nat × Nat)} {R : Room} {k n k' n' : Nat} {pc pc' : Nat} {lv : List (Nat × Value)} {st : List Value} {F : osM Int32}
theorem osFinL_by {p : Program} {l : Launch} {e : Env} {s : State} {m : MethodId} {args : Array Value} {below : List Frame} {meth : Method} {c : Code} {H : Heap} {locs : List Loc} {G : osG} {r : Int32} {z' : osS} {g : JFrame} (h : osPL b L xs (osA G) args s → r = 1 → W p l e R s m args below meth c H locs k n (osFinL b L xs Qf G r z' below args s) g) : W p l e R s m args below meth c H locs k n (osFinL b L xs Qf G r z' below args s) g := by
  intro T hT X
  by_cases h1 : osPL b L xs (osA G) args s
  · by_cases h2 : r = 1
    · exact h h1 h2 T hT X
    · exact ⟨_, Steps.refl _, fun _ q => absurd q h2⟩
  · exact ⟨_, Steps.refl _, fun q _ => absurd q h1⟩
theorem os_sld {i : Int32} {f : Int32 → osM Int32} (hd : osD cc pc 1 pc' .iaload) (kk : ∀ v, osW (osFinL b L xs Qf) y cc nL ret hh R k n pc' lv (.int v :: st) (f v)) : osW (osFinL b L xs Qf) y cc nL ret hh R k n pc lv (.int i :: .ref b :: st) (osbind (ossld L xs i) f) := by
  intro p l e s m args below meth c B G z r z' hV hZ hF H locs ls hM hS hl
  obtain ⟨hx, hb, hml, hown, hr, hlk, htab, hst, hnm⟩ := id B
  obtain ⟨v, z1, g1, g2⟩ := osbind_some hF
  obtain ⟨hd, rfl⟩ := hd
  unfold ossld at g1
  by_cases hc : osin i L
  · rw [if_pos hc] at g1
    cases g1
    refine osFinL_by fun h1 _ => ?_
    obtain ⟨hX, hbl, hbA, -⟩ := h1
    exact va_sld hx hb hX hbl hbA hS hc hd (kk _ p l e s m args below meth c B G z r z' hV hZ g2 H locs ls hM hS hl)
  · rw [if_neg hc] at g1; cases g1
theorem os_slen {f : Int32 → osM Int32} (hd : osD cc pc 1 pc' .arraylength) (kk : ∀ v, osW (osFinL b L xs Qf) y cc nL ret hh R k n pc' lv (.int v :: st) (f v)) : osW (osFinL b L xs Qf) y cc nL ret hh R k n pc lv (.ref b :: st) (osbind (osslen2 L) f) := by
  intro p l e s m args below meth c B G z r z' hV hZ hF H locs ls hM hS hl
  obtain ⟨hx, hb, hml, hown, hr, hlk, htab, hst, hnm⟩ := id B
  obtain ⟨v, z1, g1, g2⟩ := osbind_some hF
  obtain ⟨hd, rfl⟩ := hd
  unfold osslen2 at g1
  by_cases hc : L < 2147483648
  · rw [if_pos hc] at g1
    cases g1
    refine osFinL_by fun h1 _ => ?_
    obtain ⟨hX, hbl, hbA, -⟩ := h1
    exact va_slen hx hb hX hbl hbA hS hd (kk _ p l e s m args below meth c B G z r z' hV hZ g2 H locs ls hM hS hl)
  · rw [if_neg hc] at g1; cases g1
theorem os_lawno (v : Int32) (hv : ¬ v = 1) : osW (osFinL b L xs Qf) y cc nL ret hh R k n pc lv st (osret v) := by
  intro p l e s m args below meth c B G z r z' hV hZ hF H locs ls hM hS hl
  cases hF
  exact osFinL_by fun _ h => absurd h hv
end L
