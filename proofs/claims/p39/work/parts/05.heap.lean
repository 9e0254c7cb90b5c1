/-! fields, arrays, new cells, constants: the rows of osW that look at the memory -/
def osup (z : osS) (a : Nat) (e : osE) : osS := (fun b => if b = a then some e else z.1 b, z.2)
/-- a field's reference: the pool's number idx in the class own stands for the field k of the classes cis, of type ty, final or not -/
def osFd (own : String) (idx : Nat) (cis : List Nat) (k : Nat) (ty : FieldType) (fin : Bool) : Prop := ∃ ref name desc, Cond.fieldLink own idx ref name desc ∈ osX ∧ parseFieldDescriptor desc = some ty ∧ ∀ ci ∈ cis, ∃ (C : String) (T : u_T) (N : Nat) (ty0 : Nat → FieldType), vwCl[ci]? = some (C, T, N) ∧ (∀ w ∈ u_ws C T N, w ∈ osX) ∧ (∀ a, a < N → ∀ b, b < N → a ≠ b → (T a).2.1 ≠ (T b).2.1) ∧ (∀ k, k < N → parseFieldDescriptor (T k).2.2.1 = some (ty0 k)) ∧ k < N ∧ (T k).2.1 = name ∧ (T k).2.2.1 = desc ∧ (T k).2.2.2 = fin ∧ (ref = (T k).1 ∨ Cond.sameField ref (T k).1 name desc ∈ osX)
def osget (cis : List Nat) (k a : Nat) (z : osS) : Option Value := match z.1 a with
  | some (.inr (c, fs)) => if c ∈ cis then fs[k]? else none
  | _ => none
theorem osget_some {cis : List Nat} {k a : Nat} {z : osS} {v : Value} (h : osget cis k a z = some v) : ∃ c fs, z.1 a = some (.inr (c, fs)) ∧ c ∈ cis ∧ fs[k]? = some v := by
  unfold osget at h
  cases hz : z.1 a with
  | none => rw [hz] at h; cases h
  | some q =>
    cases q with
    | inl x => rw [hz] at h; cases h
    | inr x =>
      rw [hz] at h
      obtain ⟨c, fs⟩ := x
      by_cases hc : c ∈ cis
      · rw [show (match (some (Sum.inr (c, fs)) : Option osE) with | some (.inr (c, fs)) => if c ∈ cis then fs[k]? else none | _ => none) = if c ∈ cis then fs[k]? else none from rfl, if_pos hc] at h
        exact ⟨c, fs, rfl, hc, h⟩
      · rw [show (match (some (Sum.inr (c, fs)) : Option osE) with | some (.inr (c, fs)) => if c ∈ cis then fs[k]? else none | _ => none) = if c ∈ cis then fs[k]? else none from rfl, if_neg hc] at h
        cases h
def osgI (cis : List Nat) (k a : Nat) : osM Int32 := fun _ z => match osget cis k a z with
  | some (.int v) => some (v, z)
  | _ => none
def osgJ (cis : List Nat) (k a : Nat) : osM Int64 := fun _ z => match osget cis k a z with
  | some (.long v) => some (v, z)
  | _ => none
def osgR (cis : List Nat) (k a : Nat) : osM Nat := fun _ z => match osget cis k a z with
  | some (.ref v) => some (v, z)
  | _ => none
theorem osgI_some {cis : List Nat} {k a : Nat} {G : osG} {z z1 : osS} {v : Int32} (h : osgI cis k a G z = some (v, z1)) : osget cis k a z = some (.int v) ∧ z1 = z := by
  unfold osgI at h
  cases hq : osget cis k a z with
  | none => rw [hq] at h; cases h
  | some q => rw [hq] at h; cases q <;> first | (cases h; exact ⟨rfl, rfl⟩) | cases h
theorem osgJ_some {cis : List Nat} {k a : Nat} {G : osG} {z z1 : osS} {v : Int64} (h : osgJ cis k a G z = some (v, z1)) : osget cis k a z = some (.long v) ∧ z1 = z := by
  unfold osgJ at h
  cases hq : osget cis k a z with
  | none => rw [hq] at h; cases h
  | some q => rw [hq] at h; cases q <;> first | (cases h; exact ⟨rfl, rfl⟩) | cases h
theorem osgR_some {cis : List Nat} {k a : Nat} {G : osG} {z z1 : osS} {v : Nat} (h : osgR cis k a G z = some (v, z1)) : osget cis k a z = some (.ref v) ∧ z1 = z := by
  unfold osgR at h
  cases hq : osget cis k a z with
  | none => rw [hq] at h; cases h
  | some q => rw [hq] at h; cases q <;> first | (cases h; exact ⟨rfl, rfl⟩) | cases h
/-- a write: the class must be one of cis, the cell one that may be written -/
def osput (cis : List Nat) (k a : Nat) (v : Value) : osM Unit := fun G z => match z.1 a with
  | some (.inr (c, fs)) => if c ∈ cis ∧ k < fs.length ∧ G.2.2.1 ≤ a then some ((), osup z a (.inr (c, fs.set k v))) else none
  | _ => none
theorem osput_some {cis : List Nat} {k a : Nat} {v : Value} {G : osG} {z z1 : osS} {u : Unit} (h : osput cis k a v G z = some (u, z1)) : ∃ c fs, z.1 a = some (.inr (c, fs)) ∧ c ∈ cis ∧ k < fs.length ∧ osA G a ∧ z1 = osup z a (.inr (c, fs.set k v)) := by
  unfold osput at h
  cases hz : z.1 a with
  | none => rw [hz] at h; cases h
  | some q =>
    cases q with
    | inl x => rw [hz] at h; cases h
    | inr x =>
      rw [hz] at h
      obtain ⟨c, fs⟩ := x
      by_cases hc : c ∈ cis ∧ k < fs.length ∧ G.2.2.1 ≤ a
      · replace h : (if c ∈ cis ∧ k < fs.length ∧ G.2.2.1 ≤ a then some ((), osup z a (.inr (c, fs.set k v))) else none) = some (u, z1) := h
        rw [if_pos hc] at h
        cases h
        exact ⟨c, fs, rfl, hc.1, hc.2.1, hc.2.2, rfl⟩
      · replace h : (if c ∈ cis ∧ k < fs.length ∧ G.2.2.1 ≤ a then some ((), osup z a (.inr (c, fs.set k v))) else none) = some (u, z1) := h
        rw [if_neg hc] at h
        cases h
theorem osMem.up {G : osG} {z : osS} {H H1 : Heap} {a : Nat} {e : osE} (h : osMem G z H) (hs : H1.size = H.size) (ho : ∀ q, q ≠ a → H1[q]? = H[q]?) (ha : osAt G a e H1) : osMem G (osup z a e) H1 := by
  refine ⟨fun b f hb => ?_, fun k hk => by rw [hs]; exact h.2 k hk⟩
  by_cases hba : b = a
  · subst hba
    have : some e = some f := by simpa [osup] using hb
    cases this
    exact ha
  · have h1 : z.1 b = some f := by simpa [osup, hba] using hb
    have h2 := h.1 b f h1
    cases f with
    | inl x => exact ⟨by rw [ho b hba]; exact h2.1, h2.2⟩
    | inr o => exact va_at.kept (q := (b, .inr o)) h2 (ho b hba)
theorem va_P1 {D : va_G} {a : Nat} {e : va_E} {H : Heap} (h : va_at D vwCl (a, e) H) : va_P D vwCl [(a, e)] H := by
  intro k q hq
  match k, hq with
  | 0, hq => cases hq; exact h
theorem osS_put {G : osG} {H0 H H1 : Heap} {locs : List Loc} {a i : Nat} (h : va_S (osA G) H0 H locs) (hs : H1.size = H.size) (ho : ∀ q, q ≠ a → H1[q]? = H[q]?) (ha : osA G a) : va_S (osA G) H0 H1 (locs ++ [⟨a, i⟩]) := va_S.put h hs ho ha
section R
variable {ρ : Type} {Fi : osF ρ} {y : MethodName} {cc : ByteArray} {nL : Nat} {ret : Option FieldType} {hh : List (Nat × Nat × Nat × Nat)} {R : Room} {k n : Nat} {pc pc' : Nat} {lv : List (Nat × Value)} {st : List Value} {F : osM ρ}
theorem osFd.same {own : String} {s : State} {m : MethodId} {args : Array Value} {ref f1 name desc : String} (hV : ∀ w ∈ osX, w.before args s = true) (h : ref = f1 ∨ Cond.sameField ref f1 name desc ∈ osX) : ∀ x, s.fieldFound? f1 name desc = some x → s.fieldFound? ref name desc = some x := by
  intro x hx
  rcases h with h | h
  · rw [h]; exact hx
  · exact u_same (hV _ h) x hx
/-- a field's value, whatever it is -/
theorem os_getV {cis : List Nat} {kf a idx : Nat} {ty : FieldType} {fin : Bool} {v : Value} (hf : osFd y.cls idx cis kf ty fin) (hd : osD cc pc 3 pc' (.getfield idx)) (z : osS) (hv : osget cis kf a z = some v)
    {p : Program} {l : Launch} {e : Env} {s : State} {m : MethodId} {args : Array Value} {below : List Frame} {meth : Method} {c : Code} {G : osG} {H : Heap} {locs : List Loc} {ls : Array Slot} {Q : State → Prop} (B : osB p l s m meth c y cc nL ret hh) (hV : osV G s) (hM : osMem G z H)
    (kk : W p l e R s m args below meth c H locs k n Q (F0 m pc' ls (v :: st))) : W p l e R s m args below meth c H locs k n Q (F0 m pc ls (.ref a :: st)) := by
  obtain ⟨hx, hb, hml, hown, hr, hlk, htab, hst, hnm⟩ := id B
  obtain ⟨hd, rfl⟩ := hd
  obtain ⟨ref, name, desc, hl, hty, hcis⟩ := hf
  obtain ⟨ci, fs, hz, hc, hk⟩ := osget_some hv
  obtain ⟨C, T, N, ty0, h1, h2, h3, h4, h5, h6, h7, h8, h9⟩ := hcis ci hc
  subst h6; subst h7
  have hat : va_at G.1 vwCl (a, .inr (ci, fs)) H := hM.1 a _ hz
  exact va_get (tys := osTys G) hx hb (hV.word (args := args)) h2 hown hV.2.1 (va_P1 hat) 0 rfl h1 kf h5 (hV.word _ hl) (osFd.same (own := y.cls) (m := m) (hV.word (args := args)) h9) hk hd kk
theorem os_getI {cis : List Nat} {kf a idx : Nat} {ty : FieldType} {fin : Bool} {f : Int32 → osM ρ} (hf : osFd y.cls idx cis kf ty fin) (hd : osD cc pc 3 pc' (.getfield idx)) (kk : ∀ v, osW Fi y cc nL ret hh R k n pc' lv (.int v :: st) (f v)) : osW Fi y cc nL ret hh R k n pc lv (.ref a :: st) (osbind (osgI cis kf a) f) := by
  intro p l e s m args below meth c B G z r z' hV hZ hF H locs ls hM hS hl
  obtain ⟨v, z1, h1, h2⟩ := osbind_some hF
  obtain ⟨h3, rfl⟩ := osgI_some h1
  exact os_getV hf hd z1 h3 B hV hM (kk v p l e s m args below meth c B G z1 r z' hV hZ h2 H locs ls hM hS hl)
theorem os_getJ {cis : List Nat} {kf a idx : Nat} {ty : FieldType} {fin : Bool} {f : Int64 → osM ρ} (hf : osFd y.cls idx cis kf ty fin) (hd : osD cc pc 3 pc' (.getfield idx)) (kk : ∀ v, osW Fi y cc nL ret hh R k n pc' lv (.long v :: st) (f v)) : osW Fi y cc nL ret hh R k n pc lv (.ref a :: st) (osbind (osgJ cis kf a) f) := by
  intro p l e s m args below meth c B G z r z' hV hZ hF H locs ls hM hS hl
  obtain ⟨v, z1, h1, h2⟩ := osbind_some hF
  obtain ⟨h3, rfl⟩ := osgJ_some h1
  exact os_getV hf hd z1 h3 B hV hM (kk v p l e s m args below meth c B G z1 r z' hV hZ h2 H locs ls hM hS hl)
theorem os_getR {cis : List Nat} {kf a idx : Nat} {ty : FieldType} {fin : Bool} {f : Nat → osM ρ} (hf : osFd y.cls idx cis kf ty fin) (hd : osD cc pc 3 pc' (.getfield idx)) (kk : ∀ v, osW Fi y cc nL ret hh R k n pc' lv (.ref v :: st) (f v)) : osW Fi y cc nL ret hh R k n pc lv (.ref a :: st) (osbind (osgR cis kf a) f) := by
  intro p l e s m args below meth c B G z r z' hV hZ hF H locs ls hM hS hl
  obtain ⟨v, z1, h1, h2⟩ := osbind_some hF
  obtain ⟨h3, rfl⟩ := osgR_some h1
  exact os_getV hf hd z1 h3 B hV hM (kk v p l e s m args below meth c B G z1 r z' hV hZ h2 H locs ls hM hS hl)
/-- a write to a field that is not final -/
theorem os_put {cis : List Nat} {kf a idx : Nat} {ty : FieldType} {v : Value} (hf : osFd y.cls idx cis kf ty false) (hn : narrow ty v = v) (hfit : fits ty v = true) (hd : osD cc pc 3 pc' (.putfield idx)) (kk : osW Fi y cc nL ret hh R k n pc' lv st F) : osW Fi y cc nL ret hh R k n pc lv (v :: .ref a :: st) (osbind (osput cis kf a v) fun _ => F) := by
  intro p l e s m args below meth c B G z r z' hV hZ hF H locs ls hM hS hl
  obtain ⟨hx, hb, hml, hown, hr, hlk, htab, hst, hnm⟩ := id B
  obtain ⟨u, z1, g1, g2⟩ := osbind_some hF
  obtain ⟨ci, fs, hz, hc, hlen, hA, rfl⟩ := osput_some g1
  obtain ⟨hd, rfl⟩ := hd
  obtain ⟨ref, name, desc, hlk2, hty, hcis⟩ := hf
  obtain ⟨C, T, N, ty0, h1, h2, h3, h4, h5, h6, h7, h8, h9⟩ := hcis ci hc
  subst h6; subst h7
  have hts := hV.word (args := args)
  have hat : va_at G.1 vwCl (a, .inr (ci, fs)) H := hM.1 a _ hz
  obtain ⟨q', hq', cell, q1, q2, q3, q4⟩ := hat
  cases Option.some.inj (hq'.symm.trans h1)
  have hap := va_apart (own := y.cls) hts h2 ty0 h4 h3 hV.2.1 h1
  obtain ⟨hSl, hfc, kC, hkC, hkind⟩ := hV.2.1.1 ci _ h1
  obtain ⟨cf, kf2, fi, f, hi, hsl⟩ := hSl kf h5
  have hlay := hts _ (h2 _ (u_in_lay h5))
  unfold u_lay at hlay
  rw [if_neg (by rw [h8]; decide)] at hlay
  have hst2 := (u_facts hfc hkC (u_lays hts h2 h5) hi).1
  have h6 := u_store hfc hkC hkind hlay hi hty hn hfit
  refine W.putK hx hb (f := f) ⟨hown, hts _ hlk2, ⟨_, _, _, osFd.same (own := y.cls) (m := m) hts h9 _ hi⟩, hst2⟩ (by rw [q2]; exact h6) q1 q3 (by rw [hsl]; exact k2_hasslot (q4 kf h5)) rfl rfl hd fun H1 e1 e2 e3 => ?_
  rw [hsl] at e1 ⊢
  have hat1 : osAt G a (.inr (ci, fs.set kf v)) H1 := ⟨_, h1, t_OB.to (V := updV (vp_V fs) kf v) ⟨_, e1, q2, q3, t_set q4 hap h5 v⟩ (fun j _ => vp_updV_set hlen v j)⟩
  exact kk p l e s m args below meth c B G _ r z' hV hZ g2 H1 _ ls (hM.up e2 e3 hat1) (osS_put hS e2 e3 hA) hl
/-- .. to a final one, in a constructor -/
theorem os_putF {cis : List Nat} {kf a idx : Nat} {ty : FieldType} {v : Value} (hf : osFd y.cls idx cis kf ty true) (hin : y.name = "<init>") (hdc : ∀ ci ∈ cis, ∀ q, vwCl[ci]? = some q → (q.2.1 kf).1 = y.cls) (hn : narrow ty v = v) (hfit : fits ty v = true) (hd : osD cc pc 3 pc' (.putfield idx)) (kk : osW Fi y cc nL ret hh R k n pc' lv st F) : osW Fi y cc nL ret hh R k n pc lv (v :: .ref a :: st) (osbind (osput cis kf a v) fun _ => F) := by
  intro p l e s m args below meth c B G z r z' hV hZ hF H locs ls hM hS hl
  obtain ⟨hx, hb, hml, hown, hr, hlk, htab, hst, hnm⟩ := id B
  obtain ⟨u, z1, g1, g2⟩ := osbind_some hF
  obtain ⟨ci, fs, hz, hc, hlen, hA, rfl⟩ := osput_some g1
  obtain ⟨hd, rfl⟩ := hd
  obtain ⟨ref, name, desc, hlk2, hty, hcis⟩ := hf
  obtain ⟨C, T, N, ty0, h1, h2, h3, h4, h5, h6, h7, h8, h9⟩ := hcis ci hc
  have hdecl : (T kf).1 = y.cls := hdc ci hc _ h1
  subst h6; subst h7
  have hts := hV.word (args := args)
  have hat : va_at G.1 vwCl (a, .inr (ci, fs)) H := hM.1 a _ hz
  obtain ⟨q', hq', cell, q1, q2, q3, q4⟩ := hat
  cases Option.some.inj (hq'.symm.trans h1)
  have hap := va_apart (own := y.cls) hts h2 ty0 h4 h3 hV.2.1 h1
  obtain ⟨hSl, hfc, kC, hkC, hkind⟩ := hV.2.1.1 ci _ h1
  obtain ⟨cf, kf2, fi, f, hi, hsl⟩ := hSl kf h5
  have hlay := hts _ (h2 _ (u_in_lay h5))
  unfold u_lay at hlay
  rw [if_pos h8] at hlay
  have hst2 := (u_facts hfc hkC (u_lays hts h2 h5) hi).1
  have hcf : m.cls = cf := by
    obtain ⟨_, _, c', _, _, _, -, -, hf', -, -, -, hown2, -⟩ := Cond.laysFinal_spec hlay
    have e1 : c' = cf := by have := hi.symm.trans hf'; simp at this; exact this.1.symm
    rw [hdecl] at hown2
    rw [← e1]; exact Option.some.inj (hown.symm.trans hown2)
  have h6 := u_fits hfc hkC hkind (Or.inr hlay) hi hty hn hfit
  refine W.putFinK hx hb hown (hts _ hlk2) (osFd.same (own := y.cls) (m := m) hts h9 _ hi) hst2 hcf (hnm.trans hin) (by rw [q2]; exact h6) q1 q3 (by rw [hsl]; exact k2_hasslot (q4 kf h5)) rfl rfl hd fun H1 e1 e2 e3 => ?_
  rw [hsl] at e1 ⊢
  have hat1 : osAt G a (.inr (ci, fs.set kf v)) H1 := ⟨_, h1, t_OB.to (V := updV (vp_V fs) kf v) ⟨_, e1, q2, q3, t_set q4 hap h5 v⟩ (fun j _ => vp_updV_set hlen v j)⟩
  exact kk p l e s m args below meth c B G _ r z' hV hZ g2 H1 _ ls (hM.up e2 e3 hat1) (osS_put hS e2 e3 hA) hl
end R
