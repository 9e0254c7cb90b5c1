/-! arrays, new cells, constants -/
abbrev osin (i : Int32) (n : Nat) : Prop := ¬ (i < 0 ∨ n ≤ i.toNatClampNeg)
def osga (t a : Nat) (z : osS) : Option vp_A := match z.1 a with
  | some (.inl (t', x)) => if t' = t then some x else none
  | _ => none
theorem osga_some {t a : Nat} {z : osS} {x : vp_A} (h : osga t a z = some x) : z.1 a = some (.inl (t, x)) := by
  unfold osga at h
  cases hz : z.1 a with
  | none => rw [hz] at h; cases h
  | some q =>
    cases q with
    | inr o => rw [hz] at h; cases h
    | inl w =>
      rw [hz] at h
      obtain ⟨t', x'⟩ := w
      replace h : (if t' = t then some x' else none) = some x := h
      by_cases ht : t' = t
      · rw [if_pos ht] at h; cases h; rw [ht]
      · rw [if_neg ht] at h; cases h
def osaI (t a : Nat) (i : Int32) : osM Int32 := fun _ z => match osga t a z with
  | some (n, .inl f) => if osin i n then some (f i.toNatClampNeg, z) else none
  | _ => none
theorem osaI_some {t a : Nat} {i : Int32} {G : osG} {z z1 : osS} {v : Int32} (h : osaI t a i G z = some (v, z1)) : ∃ n f, z.1 a = some (.inl (t, (n, .inl f))) ∧ osin i n ∧ f i.toNatClampNeg = v ∧ z1 = z := by
  unfold osaI at h
  cases hq : osga t a z with
  | none => rw [hq] at h; cases h
  | some q =>
    rw [hq] at h
    obtain ⟨n, f | f | f | f | f⟩ := q <;> first | cases h | skip
    replace h : (if osin i n then some (f i.toNatClampNeg, z) else none) = some (v, z1) := h
    by_cases hi : osin i n
    · rw [if_pos hi] at h; cases h; exact ⟨n, f, osga_some hq, hi, rfl, rfl⟩
    · rw [if_neg hi] at h; cases h
def osaJ (t a : Nat) (i : Int32) : osM Int64 := fun _ z => match osga t a z with
  | some (n, .inr (.inl f)) => if osin i n then some (f i.toNatClampNeg, z) else none
  | _ => none
theorem osaJ_some {t a : Nat} {i : Int32} {G : osG} {z z1 : osS} {v : Int64} (h : osaJ t a i G z = some (v, z1)) : ∃ n f, z.1 a = some (.inl (t, (n, .inr (.inl f)))) ∧ osin i n ∧ f i.toNatClampNeg = v ∧ z1 = z := by
  unfold osaJ at h
  cases hq : osga t a z with
  | none => rw [hq] at h; cases h
  | some q =>
    rw [hq] at h
    obtain ⟨n, f | f | f | f | f⟩ := q <;> first | cases h | skip
    replace h : (if osin i n then some (f i.toNatClampNeg, z) else none) = some (v, z1) := h
    by_cases hi : osin i n
    · rw [if_pos hi] at h; cases h; exact ⟨n, f, osga_some hq, hi, rfl, rfl⟩
    · rw [if_neg hi] at h; cases h
def osaD (t a : Nat) (i : Int32) : osM UInt64 := fun _ z => match osga t a z with
  | some (n, .inr (.inr (.inr (.inl f)))) => if osin i n then some (f i.toNatClampNeg, z) else none
  | _ => none
theorem osaD_some {t a : Nat} {i : Int32} {G : osG} {z z1 : osS} {v : UInt64} (h : osaD t a i G z = some (v, z1)) : ∃ n f, z.1 a = some (.inl (t, (n, .inr (.inr (.inr (.inl f)))))) ∧ osin i n ∧ f i.toNatClampNeg = v ∧ z1 = z := by
  unfold osaD at h
  cases hq : osga t a z with
  | none => rw [hq] at h; cases h
  | some q =>
    rw [hq] at h
    obtain ⟨n, f | f | f | f | f⟩ := q <;> first | cases h | skip
    replace h : (if osin i n then some (f i.toNatClampNeg, z) else none) = some (v, z1) := h
    by_cases hi : osin i n
    · rw [if_pos hi] at h; cases h; exact ⟨n, f, osga_some hq, hi, rfl, rfl⟩
    · rw [if_neg hi] at h; cases h
def osaR (t a : Nat) (i : Int32) : osM Nat := fun _ z => match osga t a z with
  | some (n, .inr (.inr (.inr (.inr f)))) => if osin i n then (match f i.toNatClampNeg with | some v => some (v, z) | none => none) else none
  | _ => none
theorem osaR_some {t a : Nat} {i : Int32} {G : osG} {z z1 : osS} {v : Nat} (h : osaR t a i G z = some (v, z1)) : ∃ n f, z.1 a = some (.inl (t, (n, .inr (.inr (.inr (.inr f)))))) ∧ osin i n ∧ f i.toNatClampNeg = some v ∧ z1 = z := by
  unfold osaR at h
  cases hq : osga t a z with
  | none => rw [hq] at h; cases h
  | some q =>
    rw [hq] at h
    obtain ⟨n, f | f | f | f | f⟩ := q <;> first | cases h | skip
    replace h : (if osin i n then (match f i.toNatClampNeg with | some v => some (v, z) | none => none) else none) = some (v, z1) := h
    by_cases hi : osin i n
    · rw [if_pos hi] at h
      cases hv : f i.toNatClampNeg with
      | none => rw [hv] at h; cases h
      | some w => rw [hv] at h; cases h; exact ⟨n, f, osga_some hq, hi, hv, rfl⟩
    · rw [if_neg hi] at h; cases h
def ossI (t a : Nat) (i : Int32) (v : Int32) : osM Unit := fun G z => match osga t a z with
  | some (n, .inl f) => if osin i n ∧ G.2.2.1 ≤ a then some ((), osup z a (.inl (t, (n, .inl (upd f i.toNatClampNeg (v)))))) else none
  | _ => none
theorem ossI_some {t a : Nat} {i : Int32} {v : Int32} {G : osG} {z z1 : osS} {u : Unit} (h : ossI t a i v G z = some (u, z1)) : ∃ n f, z.1 a = some (.inl (t, (n, .inl f))) ∧ osin i n ∧ osA G a ∧ z1 = osup z a (.inl (t, (n, .inl (upd f i.toNatClampNeg (v))))) := by
  unfold ossI at h
  cases hq : osga t a z with
  | none => rw [hq] at h; cases h
  | some q =>
    rw [hq] at h
    obtain ⟨n, f | f | f | f | f⟩ := q <;> first | cases h | skip
    replace h : (if osin i n ∧ G.2.2.1 ≤ a then some ((), osup z a (.inl (t, (n, .inl (upd f i.toNatClampNeg (v)))))) else none) = some (u, z1) := h
    by_cases hi : osin i n ∧ G.2.2.1 ≤ a
    · rw [if_pos hi] at h; cases h; exact ⟨n, f, osga_some hq, hi.1, hi.2, rfl⟩
    · rw [if_neg hi] at h; cases h
def ossJ (t a : Nat) (i : Int32) (v : Int64) : osM Unit := fun G z => match osga t a z with
  | some (n, .inr (.inl f)) => if osin i n ∧ G.2.2.1 ≤ a then some ((), osup z a (.inl (t, (n, .inr (.inl (vp_updL f i.toNatClampNeg (v))))))) else none
  | _ => none
theorem ossJ_some {t a : Nat} {i : Int32} {v : Int64} {G : osG} {z z1 : osS} {u : Unit} (h : ossJ t a i v G z = some (u, z1)) : ∃ n f, z.1 a = some (.inl (t, (n, .inr (.inl f)))) ∧ osin i n ∧ osA G a ∧ z1 = osup z a (.inl (t, (n, .inr (.inl (vp_updL f i.toNatClampNeg (v)))))) := by
  unfold ossJ at h
  cases hq : osga t a z with
  | none => rw [hq] at h; cases h
  | some q =>
    rw [hq] at h
    obtain ⟨n, f | f | f | f | f⟩ := q <;> first | cases h | skip
    replace h : (if osin i n ∧ G.2.2.1 ≤ a then some ((), osup z a (.inl (t, (n, .inr (.inl (vp_updL f i.toNatClampNeg (v))))))) else none) = some (u, z1) := h
    by_cases hi : osin i n ∧ G.2.2.1 ≤ a
    · rw [if_pos hi] at h; cases h; exact ⟨n, f, osga_some hq, hi.1, hi.2, rfl⟩
    · rw [if_neg hi] at h; cases h
def ossD (t a : Nat) (i : Int32) (v : UInt64) : osM Unit := fun G z => match osga t a z with
  | some (n, .inr (.inr (.inr (.inl f)))) => if osin i n ∧ G.2.2.1 ≤ a then some ((), osup z a (.inl (t, (n, .inr (.inr (.inr (.inl (vf_upd f i.toNatClampNeg (v))))))))) else none
  | _ => none
theorem ossD_some {t a : Nat} {i : Int32} {v : UInt64} {G : osG} {z z1 : osS} {u : Unit} (h : ossD t a i v G z = some (u, z1)) : ∃ n f, z.1 a = some (.inl (t, (n, .inr (.inr (.inr (.inl f)))))) ∧ osin i n ∧ osA G a ∧ z1 = osup z a (.inl (t, (n, .inr (.inr (.inr (.inl (vf_upd f i.toNatClampNeg (v)))))))) := by
  unfold ossD at h
  cases hq : osga t a z with
  | none => rw [hq] at h; cases h
  | some q =>
    rw [hq] at h
    obtain ⟨n, f | f | f | f | f⟩ := q <;> first | cases h | skip
    replace h : (if osin i n ∧ G.2.2.1 ≤ a then some ((), osup z a (.inl (t, (n, .inr (.inr (.inr (.inl (vf_upd f i.toNatClampNeg (v))))))))) else none) = some (u, z1) := h
    by_cases hi : osin i n ∧ G.2.2.1 ≤ a
    · rw [if_pos hi] at h; cases h; exact ⟨n, f, osga_some hq, hi.1, hi.2, rfl⟩
    · rw [if_neg hi] at h; cases h
def ossR (t a : Nat) (i : Int32) (v : Nat) : osM Unit := fun G z => match osga t a z with
  | some (n, .inr (.inr (.inr (.inr f)))) => if osin i n ∧ G.2.2.1 ≤ a then some ((), osup z a (.inl (t, (n, .inr (.inr (.inr (.inr (va_up f i.toNatClampNeg (some v))))))))) else none
  | _ => none
theorem ossR_some {t a : Nat} {i : Int32} {v : Nat} {G : osG} {z z1 : osS} {u : Unit} (h : ossR t a i v G z = some (u, z1)) : ∃ n f, z.1 a = some (.inl (t, (n, .inr (.inr (.inr (.inr f)))))) ∧ osin i n ∧ osA G a ∧ z1 = osup z a (.inl (t, (n, .inr (.inr (.inr (.inr (va_up f i.toNatClampNeg (some v)))))))) := by
  unfold ossR at h
  cases hq : osga t a z with
  | none => rw [hq] at h; cases h
  | some q =>
    rw [hq] at h
    obtain ⟨n, f | f | f | f | f⟩ := q <;> first | cases h | skip
    replace h : (if osin i n ∧ G.2.2.1 ≤ a then some ((), osup z a (.inl (t, (n, .inr (.inr (.inr (.inr (va_up f i.toNatClampNeg (some v))))))))) else none) = some (u, z1) := h
    by_cases hi : osin i n ∧ G.2.2.1 ≤ a
    · rw [if_pos hi] at h; cases h; exact ⟨n, f, osga_some hq, hi.1, hi.2, rfl⟩
    · rw [if_neg hi] at h; cases h
def ossQ (t ci a : Nat) (i : Int32) (v : Nat) : osM Unit := fun G z => match z.1 v with | some (.inr (c, _)) => if c = ci then ossR t a i v G z else none | _ => none
def oslen (a : Nat) : osM Int32 := fun _ z => match z.1 a with
  | some (.inl (_, x)) => some (Int32.ofNat x.1, z)
  | _ => none
theorem oslen_some {a : Nat} {G : osG} {z z1 : osS} {v : Int32} (h : oslen a G z = some (v, z1)) : ∃ t x, z.1 a = some (.inl (t, x)) ∧ Int32.ofNat x.1 = v ∧ z1 = z := by
  unfold oslen at h
  cases hz : z.1 a with
  | none => rw [hz] at h; cases h
  | some q =>
    cases q with
    | inr o => rw [hz] at h; cases h
    | inl w => rw [hz] at h; cases h; exact ⟨w.1, w.2, rfl, rfl, rfl⟩
/-- a new cell: its address is the heap's size -/
def osnew (e : osE) : osM Nat := fun G z => match z.2 with
  | some q => if G.2.2.1 ≤ q then some (q, (fun b => if b = q then some e else z.1 b, some (q + 1))) else none
  | none => none
theorem osnew_some {e : osE} {G : osG} {z z1 : osS} {q : Nat} (h : osnew e G z = some (q, z1)) : z.2 = some q ∧ osA G q ∧ z1 = (fun b => if b = q then some e else z.1 b, some (q + 1)) := by
  unfold osnew at h
  cases hz : z.2 with
  | none => rw [hz] at h; cases h
  | some w =>
    rw [hz] at h
    replace h : (if G.2.2.1 ≤ w then some (w, (fun b => if b = w then some e else z.1 b, some (w + 1))) else none) = some (q, z1) := h
    by_cases hw : G.2.2.1 ≤ w
    · rw [if_pos hw] at h; cases h; exact ⟨rfl, hw, rfl⟩
    · rw [if_neg hw] at h; cases h
theorem osMem.new {G : osG} {z : osS} {H H1 : Heap} {q : Nat} {e : osE} (h : osMem G z H) (hq : z.2 = some q) (hs : H1.size = q + 1) (ho : ∀ b, b < q → H1[b]? = H[b]?) (ha : osAt G q e H1) : osMem G (fun b => if b = q then some e else z.1 b, some (q + 1)) H1 := by
  have hsz := h.2 q hq
  refine ⟨fun b f hb => ?_, fun k hk => by cases hk; exact hs⟩
  by_cases hbq : b = q
  · subst hbq
    have : some e = some f := by simpa using hb
    cases this
    exact ha
  · have h1 : z.1 b = some f := by simpa [hbq] using hb
    have h2 := h.1 b f h1
    cases f with
    | inl x =>
      have hlt : b < H.size := (Array.getElem?_eq_some_iff.mp h2.1).1
      exact ⟨by rw [ho b (by omega)]; exact h2.1, h2.2⟩
    | inr o =>
      have hlt : b < H.size := va_at.lt (q := (b, .inr o)) h2
      exact va_at.kept (q := (b, .inr o)) h2 (ho b (by omega))
theorem osS_new {G : osG} {H0 H H1 : Heap} {locs : List Loc} {q : Nat} (h : va_S (osA G) H0 H locs) (hq : H.size = q) (hs : H1.size = q + 1) (ho : ∀ b, b < q → H1[b]? = H[b]?) : va_S (osA G) H0 H1 locs :=
  ⟨Nat.le_trans h.1 (by omega), fun x h1 h2 => (ho x (Nat.lt_of_lt_of_le h1 (by rw [← hq]; exact h.1))).trans (h.2.1 x h1 h2), h.2.2⟩
def osstat (j : Nat) : osM Nat := fun G z => some (G.2.2.2.1 j, z)
/-- what a word's constant holds, by its address -/
def oswp (a : Nat) : osM Int64 := fun G z => match (List.range 15).find? (fun j => G.2.2.2.1 j == a) with
  | some j => (match osPk[j]? with | some v => some (v, z) | none => none)
  | none => none
theorem oswp_some {a : Nat} {G : osG} {z z1 : osS} {v : Int64} (h : oswp a G z = some (v, z1)) : ∃ j, G.2.2.2.1 j = a ∧ osPk[j]? = some v ∧ z1 = z := by
  unfold oswp at h
  cases hq : (List.range 15).find? (fun j => G.2.2.2.1 j == a) with
  | none => rw [hq] at h; cases h
  | some j =>
    rw [hq] at h
    have h1 := List.find?_some hq
    cases hv : osPk[j]? with
    | none => simp [hv] at h
    | some w => simp [hv] at h; exact ⟨j, by simpa using h1, by rw [← h.1]; exact hv, h.2.symm⟩
section R
variable {ρ : Type} {Fi : osF ρ} {y : MethodName} {cc : ByteArray} {nL : Nat} {ret : Option FieldType} {hh : List (Nat × Nat × Nat × Nat)} {R : Room} {k n : Nat} {pc pc' : Nat} {lv : List (Nat × Value)} {st : List Value} {F : osM ρ}
theorem os_iaload {a : Nat} {i : Int32} {f : Int32 → osM ρ} (hd : osD cc pc 1 pc' .iaload) (kk : ∀ v, osW Fi y cc nL ret hh R k n pc' lv (.int v :: st) (f v)) : osW Fi y cc nL ret hh R k n pc lv (.int i :: .ref a :: st) (osbind (osaI 0 a i) f) := by
  intro p l e s m args below meth c B G z r z' hV hZ hF H locs ls hM hS hl
  obtain ⟨hx, hb, hml, hown, hr, hlk, htab, hst, hnm⟩ := id B
  obtain ⟨v, z1, g1, g2⟩ := osbind_some hF
  obtain ⟨N, g, hz, hin, rfl, rfl⟩ := osaI_some g1
  obtain ⟨hd, rfl⟩ := hd
  have ht : (osTys G)[0]? = some (G.2.1 0, .int) := rfl
  exact va_iald (D := G.1) (cl := vwCl) hx hb hV.2.1 (va_P1 (show va_at G.1 vwCl (a, .inl (G.2.1 0, _)) H from (hM.1 a _ hz).1)) 0 0 rfl ht hin hd (kk _ p l e s m args below meth c B G z1 r z' hV hZ g2 H locs ls hM hS hl)
theorem os_baload {a : Nat} {i : Int32} {f : Int32 → osM ρ} (hd : osD cc pc 1 pc' .baload) (kk : ∀ v, osW Fi y cc nL ret hh R k n pc' lv (.int v :: st) (f v)) : osW Fi y cc nL ret hh R k n pc lv (.int i :: .ref a :: st) (osbind (osaI 1 a i) f) := by
  intro p l e s m args below meth c B G z r z' hV hZ hF H locs ls hM hS hl
  obtain ⟨hx, hb, hml, hown, hr, hlk, htab, hst, hnm⟩ := id B
  obtain ⟨v, z1, g1, g2⟩ := osbind_some hF
  obtain ⟨N, g, hz, hin, rfl, rfl⟩ := osaI_some g1
  obtain ⟨hd, rfl⟩ := hd
  have ht : (osTys G)[1]? = some (G.2.1 1, .byte) := rfl
  exact va_bald (D := G.1) (cl := vwCl) hx hb hV.2.1 (va_P1 (show va_at G.1 vwCl (a, .inl (G.2.1 1, _)) H from (hM.1 a _ hz).1)) 0 1 rfl ht hin hd (kk _ p l e s m args below meth c B G z1 r z' hV hZ g2 H locs ls hM hS hl)
theorem os_aaload {t a : Nat} {C : String} {i : Int32} {f : Nat → osM ρ} (ht0 : osTy[t]? = some (.object C)) (hd : osD cc pc 1 pc' .aaload) (kk : ∀ v, osW Fi y cc nL ret hh R k n pc' lv (.ref v :: st) (f v)) : osW Fi y cc nL ret hh R k n pc lv (.int i :: .ref a :: st) (osbind (osaR t a i) f) := by
  intro p l e s m args below meth c B G z r z' hV hZ hF H locs ls hM hS hl
  obtain ⟨hx, hb, hml, hown, hr, hlk, htab, hst, hnm⟩ := id B
  obtain ⟨v, z1, g1, g2⟩ := osbind_some hF
  obtain ⟨N, g, hz, hin, hv, rfl⟩ := osaR_some g1
  obtain ⟨hd, rfl⟩ := hd
  refine va_aldq (D := G.1) (cl := vwCl) hx hb hV.2.1 (va_P1 (show va_at G.1 vwCl (a, .inl (G.2.1 t, _)) H from (hM.1 a _ hz).1)) 0 t rfl (osTys_at ht0) hin hd ?_
  rw [hv]
  exact kk v p l e s m args below meth c B G z1 r z' hV hZ g2 H locs ls hM hS hl
theorem os_iastore {a : Nat} {i : Int32} {x : Int32} (hd : osD cc pc 1 pc' .iastore) (kk : osW Fi y cc nL ret hh R k n pc' lv st F) : osW Fi y cc nL ret hh R k n pc lv (.int x :: .int i :: .ref a :: st) (osbind (ossI 0 a i x) fun _ => F) := by
  intro p l e s m args below meth c B G z r z' hV hZ hF H locs ls hM hS hl
  obtain ⟨hx, hb, hml, hown, hr, hlk, htab, hst, hnm⟩ := id B
  obtain ⟨u, z1, g1, g2⟩ := osbind_some hF
  obtain ⟨N, f, hz, hin, hA, rfl⟩ := ossI_some g1
  obtain ⟨hd, rfl⟩ := hd
  have ht : (osTys G)[0]? = some (G.2.1 0, .int) := rfl
  have hc0 := (hM.1 a _ hz).1
  refine W.iast hx hb hc0 ((hV.2.1.2 0 _ ht).1 N (fun j => .int (f j))) (fun q => by cases q) (by show ¬ (i < 0 ∨ (arrV _ _ _).slots.size ≤ _); rw [arrV_size]; exact hin) rfl rfl hd fun H1 e1 e2 e3 => ?_
  have hat1 : osAt G a (.inl (0, (N, .inl (upd f i.toNatClampNeg x)))) H1 := by
    refine ⟨?_, (hM.1 a _ hz).2⟩
    rw [e1, vp_cell_i, vp_cell_i, arrV_store]
    congr 2
    funext q
    by_cases hq : q = i.toNatClampNeg
    · subst hq; simp [updV, upd]
    · simp [updV, upd, hq]
  exact kk p l e s m args below meth c B G _ r z' hV hZ g2 H1 _ ls (hM.up e2 e3 hat1) (osS_put hS e2 e3 hA) hl
theorem os_bastore {a : Nat} {i : Int32} {x : Int32} (hd : osD cc pc 1 pc' .bastore) (kk : osW Fi y cc nL ret hh R k n pc' lv st F) : osW Fi y cc nL ret hh R k n pc lv (.int x :: .int i :: .ref a :: st) (osbind (ossI 1 a i (vp_nar .byte x)) fun _ => F) := by
  intro p l e s m args below meth c B G z r z' hV hZ hF H locs ls hM hS hl
  obtain ⟨hx, hb, hml, hown, hr, hlk, htab, hst, hnm⟩ := id B
  obtain ⟨u, z1, g1, g2⟩ := osbind_some hF
  obtain ⟨N, f, hz, hin, hA, rfl⟩ := ossI_some g1
  obtain ⟨hd, rfl⟩ := hd
  have ht : (osTys G)[1]? = some (G.2.1 1, .byte) := rfl
  have hc0 := (hM.1 a _ hz).1
  refine W.bast hx hb hc0 ((hV.2.1.2 1 _ ht).1 N (fun j => .int (f j))) (fun q => by cases q) (by show ¬ (i < 0 ∨ (arrV _ _ _).slots.size ≤ _); rw [arrV_size]; exact hin) rfl rfl hd fun H1 e1 e2 e3 => ?_
  have hat1 : osAt G a (.inl (1, (N, .inl (upd f i.toNatClampNeg (vp_nar .byte x))))) H1 := by
    refine ⟨?_, (hM.1 a _ hz).2⟩
    rw [e1, vp_cell_i, vp_cell_i, arrV_store]
    congr 2
    funext q
    by_cases hq : q = i.toNatClampNeg
    · subst hq; simp [updV, upd, vp_nar, narrow]
    · simp [updV, upd, hq]
  exact kk p l e s m args below meth c B G _ r z' hV hZ g2 H1 _ ls (hM.up e2 e3 hat1) (osS_put hS e2 e3 hA) hl
theorem os_aastore {t a v ci : Nat} {C : String} {T : u_T} {N0 : Nat} {i : Int32} (ht0 : osTy[t]? = some (.object C)) (hc : vwCl[ci]? = some (C, T, N0)) (hd : osD cc pc 1 pc' .aastore) (kk : osW Fi y cc nL ret hh R k n pc' lv st F) : osW Fi y cc nL ret hh R k n pc lv (.ref v :: .int i :: .ref a :: st) (osbind (ossQ t ci a i v) fun _ => F) := by
  intro p l e s m args below meth c B G z r z' hV hZ hF H locs ls hM hS hl
  obtain ⟨hx, hb, hml, hown, hr, hlk, htab, hst, hnm⟩ := id B
  obtain ⟨u, z1, g0, g2⟩ := osbind_some hF
  unfold ossQ at g0
  obtain ⟨fs, hzv, g1⟩ : ∃ fs, z.1 v = some (.inr (ci, fs)) ∧ ossR t a i v G z = some (u, z1) := by
    cases hz : z.1 v with
    | none => simp [hz] at g0
    | some q =>
      cases q with
      | inl w => simp [hz] at g0
      | inr w =>
        obtain ⟨c9, fs⟩ := w
        simp only [hz] at g0
        by_cases hcc : c9 = ci
        · rw [if_pos hcc] at g0; exact ⟨fs, by rw [hcc], g0⟩
        · rw [if_neg hcc] at g0; cases g0
  obtain ⟨N, f, hz, hin, hA, rfl⟩ := ossR_some g1
  obtain ⟨hd, rfl⟩ := hd
  have ht := osTys_at (G := G) ht0
  have hc0 := (hM.1 a _ hz).1
  obtain ⟨r', hr', cellV, q1, q2, q3, -⟩ := (show va_at G.1 vwCl (v, .inr (ci, fs)) H from hM.1 v _ hzv)
  have hcls := (hV.2.1.1 ci _ hc).2
  obtain ⟨kA, comp, k1, k2, k3, -⟩ := (hV.2.1.2 t _ ht).2
  have hcomp : comp = G.1.1 ci := Option.some.inj (k3.symm.trans hcls.1)
  subst hcomp
  obtain ⟨kC, hkC, -⟩ := hcls.2
  have h0 : ¬ i < 0 := fun q => hin (Or.inl q)
  have hlt : i.toNatClampNeg < N := Nat.not_le.mp fun q => hin (Or.inr q)
  refine W.aast hx hb hc0 (fun q h => by cases h) (fun h => by cases h) k1 k2 rfl hkC ⟨h0, by show _ < (arrV _ _ _).slots.size; rw [arrV_size]; exact hlt⟩ q1 (fun q h => by rw [q3] at h; cases h) (by rw [q2]; exact hkC) (by rw [q2]; exact va_assign hcls) rfl rfl hd fun H1 e1 e2 e3 => ?_
  have hat1 : osAt G a (.inl (t, (N, .inr (.inr (.inr (.inr (va_up f i.toNatClampNeg (some v)))))))) H1 := by
    refine ⟨?_, (hM.1 a _ hz).2⟩
    rw [e1, vp_cell_q, vp_cell_q, arrV_store]
    congr 2
    funext q
    by_cases hq : q = i.toNatClampNeg
    · subst hq; simp [updV, va_up, va_rf]
    · simp [updV, va_up, hq]
  exact kk p l e s m args below meth c B G _ r z' hV hZ g2 H1 _ ls (hM.up e2 e3 hat1) (osS_put hS e2 e3 hA) hl
theorem os_arraylength {a : Nat} {f : Int32 → osM ρ} (hd : osD cc pc 1 pc' .arraylength) (kk : ∀ v, osW Fi y cc nL ret hh R k n pc' lv (.int v :: st) (f v)) : osW Fi y cc nL ret hh R k n pc lv (.ref a :: st) (osbind (oslen a) f) := by
  intro p l e s m args below meth c B G z r z' hV hZ hF H locs ls hM hS hl
  obtain ⟨hx, hb, hml, hown, hr, hlk, htab, hst, hnm⟩ := id B
  obtain ⟨v, z1, g1, g2⟩ := osbind_some hF
  obtain ⟨t, x, hz, hv, rfl⟩ := oslen_some g1
  obtain ⟨hd, rfl⟩ := hd
  have h7 := (hM.1 a _ hz).2
  have ht : ∃ ty, osTy[t]? = some ty := by
    match t, h7 with
    | 0, _ => exact ⟨_, rfl⟩
    | 1, _ => exact ⟨_, rfl⟩
    | 2, _ => exact ⟨_, rfl⟩
    | 3, _ => exact ⟨_, rfl⟩
    | 4, _ => exact ⟨_, rfl⟩
    | 5, _ => exact ⟨_, rfl⟩
    | 6, _ => exact ⟨_, rfl⟩
    | n + 7, h => exact absurd h (by omega)
  obtain ⟨ty, ht⟩ := ht
  exact va_alen (D := G.1) (cl := vwCl) hx hb hV.2.1 (va_P1 (show va_at G.1 vwCl (a, .inl (G.2.1 t, _)) H from (hM.1 a _ hz).1)) 0 t rfl (osTys_at ht) hv hd (kk v p l e s m args below meth c B G z1 r z' hV hZ g2 H locs ls hM hS hl)
theorem os_new {C : String} {T : u_T} {N ci idx : Nat} {ty0 : Nat → FieldType} {fs : List Value} {f : Nat → osM ρ} (hc : vwCl[ci]? = some (C, T, N)) (hty : ∀ j, j < N → parseFieldDescriptor (T j).2.2.1 = some (ty0 j)) (hin : ∀ w ∈ u_ws C T N, w ∈ osX) (h1 : Cond.classLink y.cls idx C ∈ osX) (h2 : Cond.instantiable C N ∈ osX) (h3 : Cond.initialized C ∈ osX) (hfs : ∀ j, j < N → defaultValue (ty0 j) = vp_V fs j) (hk : k + 1 ≤ R.cells) (hn : n + N ≤ R.slots) (hd : osD cc pc 3 pc' (.new idx)) (kk : ∀ q, osW Fi y cc nL ret hh R (k + 1) (n + N) pc' lv (.ref q :: st) (f q)) : osW Fi y cc nL ret hh R k n pc lv st (osbind (osnew (.inr (ci, fs))) f) := by
  intro p l e s m args below meth c B G z r z' hV hZ hF H locs ls hM hS hl
  obtain ⟨hx, hb, hml, hown, hr, hlk, htab, hst, hnm⟩ := id B
  obtain ⟨q, z1, g1, g2⟩ := osbind_some hF
  obtain ⟨hz, hA, rfl⟩ := osnew_some g1
  obtain ⟨hd, rfl⟩ := hd
  have hts := hV.word (args := args)
  have hKn := hV.2.1.1 ci _ hc
  have hsz := hM.2 q hz
  refine W.newcK hx hb hown (hts _ h1) (hts _ h2) (hts _ h3) rfl hd hk hn hKn.2.1 hsz fun H1 kC hkC e1 e2 e3 => ?_
  have hat1 : osAt G q (.inr (ci, fs)) H1 := ⟨_, hc, (u_born ty0 hts hin hKn hkC e1 hty).to hfs⟩
  exact kk q p l e s m args below meth c B G _ r z' hV hZ g2 H1 locs ls (hM.new hz e2 e3 hat1) (osS_new hS hsz e2 e3) hl
theorem os_newarray {at9 : ArrayType} {i : Int32} {t N : Nat} {ty : FieldType} {x : vp_A} {f : Nat → osM ρ} (hty : newarray.typeOf at9 = ty) (ht0 : osTy[t]? = some ty) (hnr : (match ty with | .object _ => false | _ => true) = true) (hw : Cond.arrayClass ty ∈ osX) (hx0 : ∀ cA : ClassId, vp_cell cA x = arrV cA N (fun _ => defaultValue ty)) (hi : ¬ i < 0) (hN : i.toNatClampNeg = N) (hby : N * componentBytes ty ≤ 536870912) (hk : k + 1 ≤ R.cells) (hn : n + N ≤ R.slots) (hd : osD cc pc 2 pc' (.newarray at9)) (kk : ∀ q, osW Fi y cc nL ret hh R (k + 1) (n + N) pc' lv (.ref q :: st) (f q)) : osW Fi y cc nL ret hh R k n pc lv (.int i :: st) (osbind (osnew (.inl (t, x))) f) := by
  intro p l e s m args below meth c B G z r z' hV hZ hF H locs ls hM hS hl
  obtain ⟨hx, hb, hml, hown, hr, hlk, htab, hst, hnm⟩ := id B
  obtain ⟨q, z1, g1, g2⟩ := osbind_some hF
  obtain ⟨hz, hA, rfl⟩ := osnew_some g1
  obtain ⟨hd, rfl⟩ := hd
  subst hty
  have hts := hV.word (args := args)
  have hsz := hM.2 q hz
  refine va_newaK hx hb (hts _ hw) rfl hd rfl hi hN hby hk hn hsz fun H1 cA e1 e2 e3 hAr hNm => ?_
  have ht := osTys_at (G := G) ht0
  have hra := (hV.2.1.2 t _ ht).2
  have hcA : s.vm.findClass ("[" ++ (newarray.typeOf at9).toString) = some (G.2.1 t) := by
    clear hx0 kk hw e1 hAr hNm hby
    cases at9 <;> exact hra
  have hce : cA = G.2.1 t := Option.some.inj (hNm.symm.trans hcA)
  subst hce
  have h7 : t < 7 := (List.getElem?_eq_some_iff.mp ht0).1
  have hat1 : osAt G q (.inl (t, x)) H1 := ⟨by rw [hx0]; exact e1, h7⟩
  exact kk q p l e s m args below meth c B G _ r z' hV hZ g2 H1 locs ls (hM.new hz e2 e3 hat1) (osS_new hS hsz e2 e3) hl
-- anewarray: below, in a part of its own
theorem os_getstatic {j idx : Nat} {C nm ds : String} {f : Nat → osM ρ} (hw : Cond.fieldLink y.cls idx C nm ds ∈ osX) (hj : C = "OrderSettler$Word" ∧ (osWd[j]? = some nm ∧ ds = "LOrderSettler$Word;" ∨ j = 15 ∧ nm = "ALL" ∧ ds = "[LOrderSettler$Word;")) (hd : osD cc pc 3 pc' (.getstatic idx)) (kk : ∀ v, osW Fi y cc nL ret hh R k n pc' lv (.ref v :: st) (f v)) : osW Fi y cc nL ret hh R k n pc lv st (osbind (osstat j) f) := by
  intro p l e s m args below meth c B G z r z' hV hZ hF H locs ls hM hS hl
  obtain ⟨hx, hb, hml, hown, hr, hlk, htab, hst, hnm⟩ := id B
  obtain ⟨v, z1, g1, g2⟩ := osbind_some hF
  cases g1
  obtain ⟨hd, rfl⟩ := hd
  have hZ1 : va_Z C nm ds (.ref (G.2.2.2.1 j)) (osA G) s s.heap := by
    obtain ⟨rfl, h⟩ := hj
    rcases h with ⟨h, rfl⟩ | ⟨rfl, rfl, rfl⟩
    · exact hZ.1 j nm h
    · exact hZ.2.1
  exact va_gets hx hb hZ1 hS hown (hV.word _ hw) (fun x hx => hx) hd (kk _ p l e s m args below meth c B G z r z' hV hZ g2 H locs ls hM hS hl)
theorem os_wordPacked {a idx : Nat} {host : String} {f : Int64 → osM ρ} (hw : Cond.fieldLinkNest y.cls idx "OrderSettler$Word" "packed" "J" host ∈ osX) (hd : osD cc pc 3 pc' (.getfield idx)) (kk : ∀ v, osW Fi y cc nL ret hh R k n pc' lv (.long v :: st) (f v)) : osW Fi y cc nL ret hh R k n pc lv (.ref a :: st) (osbind (oswp a) f) := by
  intro p l e s m args below meth c B G z r z' hV hZ hF H locs ls hM hS hl
  obtain ⟨hx, hb, hml, hown, hr, hlk, htab, hst, hnm⟩ := id B
  obtain ⟨v, z1, g1, g2⟩ := osbind_some hF
  obtain ⟨j, rfl, hv, rfl⟩ := oswp_some g1
  obtain ⟨hd, rfl⟩ := hd
  obtain ⟨cf, k9, i9, f9, cell, h1, h2, h3, h4, h5, h6⟩ := hZ.2.2.1 j v hv
  exact va_Wgetf hx hb hown (hV.word _ hw) h1 h2 (by rw [hS.2.1 _ (Array.getElem?_eq_some_iff.mp h3).1 h6]; exact h3) h4 h5 rfl rfl hd (kk v p l e s m args below meth c B G z1 r z' hV hZ g2 H locs ls hM hS hl)
theorem os_wordPackedOwn {a idx : Nat} {f : Int64 → osM ρ} (hw : Cond.fieldLink y.cls idx "OrderSettler$Word" "packed" "J" ∈ osX) (hd : osD cc pc 3 pc' (.getfield idx)) (kk : ∀ v, osW Fi y cc nL ret hh R k n pc' lv (.long v :: st) (f v)) : osW Fi y cc nL ret hh R k n pc lv (.ref a :: st) (osbind (oswp a) f) := by
  intro p l e s m args below meth c B G z r z' hV hZ hF H locs ls hM hS hl
  obtain ⟨hx, hb, hml, hown, hr, hlk, htab, hst, hnm⟩ := id B
  obtain ⟨v, z1, g1, g2⟩ := osbind_some hF
  obtain ⟨j, rfl, hv, rfl⟩ := oswp_some g1
  obtain ⟨hd, rfl⟩ := hd
  obtain ⟨cf, k9, i9, f9, cell, h1, h2, h3, h4, h5, h6⟩ := hZ.2.2.1 j v hv
  exact W.getf hx hb hown (hV.word _ hw) h1 h2 (by rw [hS.2.1 _ (Array.getElem?_eq_some_iff.mp h3).1 h6]; exact h3) h4 h5 rfl rfl hd (kk v p l e s m args below meth c B G z1 r z' hV hZ g2 H locs ls hM hS hl)
end R
