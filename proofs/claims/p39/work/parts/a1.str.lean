/-! strings, as the JDK makes them: a builder holds the letters t so far; a text s holds t (by program: a1.py) -/
theorem sh0l (x : Int32) : osshl x (0 : Int32) = x := by
  unfold osshl
  rw [show ((0 : Int32) &&& 31) = 0 by decide]
  simp
theorem sh0r (x : Int32) : osshr x (0 : Int32) = x := by
  unfold osshr
  rw [show ((0 : Int32) &&& 31) = 0 by decide]
  simp
theorem fitc : ∀ c, c < 128 → fits .byte (.int (nI c)) = true := by decide +kernel
theorem narc : ∀ c, c < 128 → vp_nar .byte ((nI c).toInt8.toInt32) = nI c := by decide +kernel
theorem andc : ∀ c, c < 128 → ((((nI c) &&& (255 : Int32)).toUInt32 % 65536).toInt32 = nI c) ∧ (nI c).toUInt32.toUInt16.toUInt32.toInt32 = nI c ∧ ((nI c).toUInt32 % 65536).toInt32 = nI c := by decide +kernel
/-- what lies below k0 is as it was, and the size is known -/
def gr (k0 : Nat) (z z' : osS) : Prop := (∀ a, a < k0 → z'.1 a = z.1 a) ∧ ∃ k k', z.2 = some k ∧ z'.2 = some k' ∧ k0 ≤ k ∧ k ≤ k'
theorem gr.tr {k0 : Nat} {z z1 z2 : osS} (h : gr k0 z z1) (h2 : gr k0 z1 z2) : gr k0 z z2 := by
  obtain ⟨h1, k, k1, e1, e2, l1, l2⟩ := h
  obtain ⟨h3, k3, k4, e3, e4, l3, l4⟩ := h2
  rw [e2] at e3
  cases e3
  exact ⟨fun a ha => (h3 a ha).trans (h1 a ha), k, k4, e1, e4, l1, by omega⟩
theorem gr.lo {k0 k1 : Nat} {z z1 : osS} (h : gr k1 z z1) (hk : k0 ≤ k1) : gr k0 z z1 := by
  obtain ⟨h1, k, k', e1, e2, l1, l2⟩ := h
  exact ⟨fun a ha => h1 a (by omega), k, k', e1, e2, by omega, l2⟩
theorem gr.rf {k0 k : Nat} {z : osS} (h : z.2 = some k) (hk : k0 ≤ k) : gr k0 z z := ⟨fun _ _ => rfl, k, k, h, h, hk, Nat.le_refl _⟩
theorem gr.le {k0 k : Nat} {z z1 : osS} (h : gr k0 z z1) (e : z.2 = some k) : ∃ k1, z1.2 = some k1 ∧ k ≤ k1 := by
  obtain ⟨_, k2, k3, e1, e2, _, l2⟩ := h
  rw [e] at e1
  cases e1
  exact ⟨k3, e2, l2⟩
/-- a builder: the object a, its bytes v, as it stands -/
def buW (z : osS) (k0 a v cap n : Nat) (f : Nat → Int32) : Prop := (∃ k, z.2 = some k ∧ k0 ≤ a ∧ a < k ∧ k0 ≤ v ∧ v < k ∧ ¬ v = a) ∧ z.1 a = some (.inr (9, [.ref v, .int 0, .int 0, .int (nI n)])) ∧ z.1 v = some (.inl (1, (cap, .inl f))) ∧ n ≤ cap ∧ ∀ j, j < cap → fits .byte (.int (f j)) = true
def asc (t : List Nat) : Prop := ∀ c ∈ t, c < 128
def buR (z : osS) (k0 a : Nat) (t : List Nat) : Prop := asc t ∧ ∃ v cap f, buW z k0 a v cap t.length f ∧ (cap ≤ 16 ∨ cap ≤ 2 * t.length) ∧ ∀ j, j < t.length → f j = nI (t.getD j 0)
/-- a text s of the letters t: a constant, or made at lo or behind -/
def stR (G : osG) (lo : Nat) (z : osS) (s : Nat) (t : List Nat) : Prop := (asc t ∧ t.length ≤ 1000) ∧ G.2.2.1 ≤ lo ∧ ((∃ j, j < 17 ∧ s = G.2.2.2.2 j ∧ osTs.getD j [] = t.map nI) ∨ ∃ v f k, z.2 = some k ∧ lo ≤ s ∧ s < k ∧ lo ≤ v ∧ v < k ∧ z.1 s = some (.inr (8, [.ref v, .int 0, .int 0, .int 0])) ∧ z.1 v = some (.inl (1, (t.length, .inl f))) ∧ ∀ j, j < t.length → f j = nI (t.getD j 0))
theorem asc_get {t : List Nat} (h : asc t) {j : Nat} (hj : j < t.length) : t.getD j 0 < 128 := by
  rw [List.getD_eq_getElem?_getD, List.getElem?_eq_getElem hj]
  exact h _ (List.getElem_mem hj)
theorem asc_app {t u : List Nat} (h : asc t) (h2 : asc u) : asc (t ++ u) := fun c hc => by
  rcases List.mem_append.mp hc with q | q
  · exact h c q
  · exact h2 c q
theorem get_appl {t u : List Nat} {j : Nat} (h : j < t.length) : (t ++ u).getD j 0 = t.getD j 0 := by
  rw [List.getD_eq_getElem?_getD, List.getElem?_append_left h, ← List.getD_eq_getElem?_getD]
theorem get_appr {t u : List Nat} {j : Nat} (h : t.length ≤ j) : (t ++ u).getD j 0 = u.getD (j - t.length) 0 := by
  rw [List.getD_eq_getElem?_getD, List.getElem?_append_right h, ← List.getD_eq_getElem?_getD]
theorem get_map {t : List Nat} {j : Nat} (h : j < t.length) : (t.map nI).getD j 0 = nI (t.getD j 0) := by
  rw [List.getD_eq_getElem?_getD, List.getD_eq_getElem?_getD, List.getElem?_map, List.getElem?_eq_getElem h]; rfl
section
variable {α : Type} {G : osG} {z : osS} {N k0 a v cap n lo s : Nat} {f : Nat → Int32} {t u : List Nat} {Q : α → osS → Prop}
theorem osfind_0 {j : Nat} (hI : osInj G) (hj : j < 17) : osfind G 0 (G.2.2.2.2 j) = some j := by
  cases h : osfind G 0 (G.2.2.2.2 j) with
  | none =>
    unfold osfind at h
    have := List.find?_eq_none.mp h j (List.mem_range.mpr hj)
    simp at this
  | some i =>
    obtain ⟨h1, h2⟩ := osfind_some h
    rw [Nat.zero_add] at h2
    rw [hI.2.1 i j h1 hj h2]
theorem osfind_100 {j : Nat} (hI : osInj G) (hj : j < 17) : osfind G 100 (G.2.2.2.2 (100 + j)) = some j := by
  cases h : osfind G 100 (G.2.2.2.2 (100 + j)) with
  | none =>
    unfold osfind at h
    have := List.find?_eq_none.mp h j (List.mem_range.mpr hj)
    simp at this
  | some i =>
    obtain ⟨h1, h2⟩ := osfind_some h
    rw [hI.2.2.1 i j h1 hj h2]
theorem osfind_n0 (hI : osInj G) (h : G.2.2.1 ≤ s) : osfind G 0 s = none := by
  cases e : osfind G 0 s with
  | none => rfl
  | some i =>
    obtain ⟨h1, h2⟩ := osfind_some e
    rw [Nat.zero_add] at h2
    have := (hI.2.2.2 i h1).1
    omega
theorem osfind_n100 (hI : osInj G) (h : G.2.2.1 ≤ s) : osfind G 100 s = none := by
  cases e : osfind G 100 s with
  | none => rfl
  | some i =>
    obtain ⟨h1, h2⟩ := osfind_some e
    have := (hI.2.2.2 i h1).2
    omega
/-- what a text answers -/
theorem stR.vw (h : stR G lo z s t) (hI : osInj G) : ∃ w, ossval s G z = some (w, z) ∧ osscod s G z = some (0, z) ∧ osblen w G z = some (nI t.length, z) ∧ (∃ f, osbsrc G z w = some (t.length, f) ∧ ∀ j, j < t.length → f j = nI (t.getD j 0)) ∧ (∀ j, j < t.length → osbld w (nI j) G z = some (nI (t.getD j 0), z)) ∧ ∀ {β : Type} (g : osM β), osonstr s g G z = g G z := by
  obtain ⟨⟨ha, hl⟩, hlo, ⟨j, hj, rfl, e⟩ | ⟨w, f, k, hk, s1, s2, v1, v2, z1, z2, e⟩⟩ := h
  · have el : (osTs.getD j []).length = t.length := by rw [e, List.length_map]
    refine ⟨G.2.2.2.2 (100 + j), by unfold ossval; rw [osfind_0 hI hj], by unfold osscod; rw [osfind_0 hI hj], by unfold osblen; rw [osfind_100 hI hj]; show some (Int32.ofNat (osTs.getD j []).length, z) = _; rw [el]; rfl, ⟨fun i => (osTs.getD j []).getD i 0, by unfold osbsrc; rw [osfind_100 hI hj]; show some ((osTs.getD j []).length, _) = _; rw [el], fun i hi => ?_⟩, fun i hi => ?_, fun g => by unfold osonstr; rw [osfind_0 hI hj]⟩
    · show (osTs.getD j []).getD i 0 = _
      rw [e, get_map hi]
    · unfold osbld
      rw [osfind_100 hI hj]
      show (if osin (nI i) (osTs.getD j []).length then some ((osTs.getD j []).getD (nI i).toNatClampNeg 0, z) else none) = _
      rw [if_pos (nI_in (by omega) (by omega)), nI_clamp (by omega), e, get_map hi]
  · have n0 := osfind_n0 (s := s) hI (by omega)
    have n1 := osfind_n100 (s := w) hI (by omega)
    refine ⟨w, ?_, ?_, ?_, ⟨f, by unfold osbsrc; rw [n1, osga_of z2], e⟩, fun i hi => ?_, fun g => by unfold osonstr; rw [n0]; show osrecv [8] s g G z = _; unfold osrecv; rw [z1]; rfl⟩
    · unfold ossval; rw [n0]; show osgR [8] 0 s G z = _; unfold osgR; rw [osget_of z1 (by decide) rfl]
    · unfold osscod; rw [n0]; show osgI [8] 1 s G z = _; unfold osgI; rw [osget_of z1 (by decide) rfl]
    · unfold osblen; rw [n1]; show oslen w G z = _; unfold oslen; rw [z2]; rfl
    · unfold osbld; rw [n1]; show osaI 1 w (nI i) G z = _; unfold osaI; rw [osga_of z2]
      show (if osin (nI i) t.length then some (f (nI i).toNatClampNeg, z) else none) = _
      rw [if_pos (nI_in (by omega) (by omega)), nI_clamp (by omega), e i hi]
theorem stR.keep {z1 : osS} (h : stR G lo z s t) (k : ∀ c, lo ≤ c → (∀ q, z.2 = some q → c < q) → z1.1 c = z.1 c) (hz : ∀ q, z.2 = some q → ∃ q1, z1.2 = some q1 ∧ q ≤ q1) : stR G lo z1 s t := by
  obtain ⟨h1, hlo, h2 | ⟨w, f, q, hq, s1, s2, v1, v2, z1', z2', e⟩⟩ := h
  · exact ⟨h1, hlo, Or.inl h2⟩
  · obtain ⟨q1, hq1, hle⟩ := hz q hq
    exact ⟨h1, hlo, Or.inr ⟨w, f, q1, hq1, s1, by omega, v1, by omega, (k s s1 (fun q9 h9 => by rw [hq] at h9; cases h9; exact s2)).trans z1', (k w v1 (fun q9 h9 => by rw [hq] at h9; cases h9; exact v2)).trans z2', e⟩⟩
theorem q_sLen (h : stR G lo z s t) (hI : osInj G) : osonstr s (qJ0_length_8abf5 N s) G z = some (nI t.length, z) := by
  obtain ⟨w, v1, v2, v3, v4, v5, v6⟩ := h.vw hI
  rw [v6]
  refine gx_eq ?_
  unfold qJ0_length_8abf5
  refine gx_callE v1 (gx_callE v3 (gx_callE (b := 0) (z1 := z) ?_ (gx_ret ⟨sh0r _, rfl⟩)))
  rw [v6]
  refine gx_eq ?_
  unfold qJ0_coder_7d493 qJ0_coder_7d493_14
  exact gx_itef (by decide) (gx_callE v2 ⟨0, z, by unfold osretB; rw [if_pos (by decide)], rfl, rfl⟩)
theorem q_sChar (h : stR G lo z s t) (hI : osInj G) {i : Nat} (hi : i < t.length) : osonstr s (qJ0_charAt_5068e N s (nI i)) G z = some (nI (t.getD i 0), z) := by
  obtain ⟨w, v1, v2, v3, v4, v5, v6⟩ := h.vw hI
  have hl := h.1.2
  have hc := asc_get h.1.1 hi
  rw [v6]
  refine gx_eq ?_
  unfold qJ0_charAt_5068e
  refine gx_callE (b := 1) (z1 := z) ?_ (gx_itef (by decide) (gx_callE v1 (gx_callE (b := nI (t.getD i 0)) (z1 := z) ?_ ⟨nI (t.getD i 0), z, by unfold osretC; rw [if_pos (andc _ hc).2.1], rfl, rfl⟩)))
  · rw [v6]
    refine gx_eq ?_
    unfold qJ0_isLatin1_aae02 qJ0_isLatin1_aae02_18 qJ0_isLatin1_aae02_17
    exact gx_itef (by decide) (gx_callE v2 (gx_itet rfl (gx_retZ (Or.inr rfl) ⟨rfl, rfl⟩)))
  · refine gx_eq ?_
    unfold qJ1_charAt_3b067 qJ0_checkIndex_df160 qJ3_checkIndex_8e157
    refine gx_callE v3 (gx_bind (gx_bind (gx_itef (nI_pos (by omega)) (gx_itet ((nI_ltI (a := i) (b := t.length) (by omega) (by omega)).mpr hi) (gx_ret (gx_ret ?_))))))
    refine gx_callE (v5 i hi) ⟨nI (t.getD i 0), z, ?_, rfl, rfl⟩
    unfold osretC
    rw [(andc _ hc).1, if_pos (andc _ hc).2.1]
theorem q_sCod (h : stR G lo z s t) (hI : osInj G) : osonstr s (qJ0_coder_7d493 N s) G z = some (0, z) := by
  obtain ⟨w, v1, v2, v3, v4, v5, v6⟩ := h.vw hI
  rw [v6]
  refine gx_eq ?_
  unfold qJ0_coder_7d493 qJ0_coder_7d493_14
  exact gx_itef (by decide) (gx_callE v2 ⟨0, z, by unfold osretB; rw [if_pos (by decide)], rfl, rfl⟩)
theorem q_BsCod (h : stR G lo z s t) (hI : osInj G) : osonstr s (qBJ0_coder_7d493 N s) G z = some (0, z) := by
  obtain ⟨w, v1, v2, v3, v4, v5, v6⟩ := h.vw hI
  rw [v6]
  refine gx_eq ?_
  unfold qBJ0_coder_7d493 qBJ0_coder_7d493_14
  exact gx_itef (by decide) (gx_callE v2 ⟨0, z, by unfold osretB; rw [if_pos (by decide)], rfl, rfl⟩)
theorem q_BsLen (h : stR G lo z s t) (hI : osInj G) : osonstr s (qBJ0_length_8abf5 N s) G z = some (nI t.length, z) := by
  obtain ⟨w, v1, v2, v3, v4, v5, v6⟩ := h.vw hI
  rw [v6]
  refine gx_eq ?_
  unfold qBJ0_length_8abf5
  refine gx_callE v1 (gx_callE v3 (gx_callE (b := 0) (z1 := z) ?_ (gx_ret ⟨sh0r _, rfl⟩)))
  rw [v6]
  refine gx_eq ?_
  unfold qBJ0_coder_7d493 qBJ0_coder_7d493_14
  exact gx_itef (by decide) (gx_callE v2 ⟨0, z, by unfold osretB; rw [if_pos (by decide)], rfl, rfl⟩)
theorem buW.k (h : buW z k0 a v cap n f) : ∃ k, z.2 = some k ∧ k0 ≤ a ∧ a < k ∧ k0 ≤ v ∧ v < k ∧ ¬ v = a := h.1
theorem osmax_ni {x y : Nat} (hx : x < 2 ^ 31) (hy : y < 2 ^ 31) : osmax (nI x) (nI y) = nI (if x < y then y else x) := by
  unfold osmax
  by_cases c : x < y
  · rw [if_pos c, if_pos ((nI_ltI hx hy).mpr c)]
  · rw [if_neg c, if_neg (fun q => c ((nI_ltI hx hy).mp q))]
theorem osmin_ni {x y : Nat} (hx : x < 2 ^ 31) (hy : y < 2 ^ 31) : osmin (nI x) (nI y) = nI (if y < x then y else x) := by
  unfold osmin
  by_cases c : y < x
  · rw [if_pos c, if_pos ((nI_ltI hy hx).mpr c)]
  · rw [if_neg c, if_neg (fun q => c ((nI_ltI hy hx).mp q))]
/-- a new array of bytes or ints -/
theorem gx_newBy {B m : Nat} {f : Nat → osM α} {q : Nat} (h2 : z.2 = some q) (hA : G.2.2.1 ≤ q) (hm : m ≤ B) (h6 : m ≤ 65536) (kk : ∀ z1 : osS, z1.1 q = some (.inl (1, (m, .inl fun _ => 0))) → (∀ b, ¬ b = q → z1.1 b = z.1 b) → z1.2 = some (q + 1) → gx (f q G z1) Q) : gx (osbind (osnewB B (nI m)) f G z) Q :=
  gx_callE (b := q) (z1 := (fun b => if b = q then some (.inl (1, (m, .inl fun _ => 0))) else z.1 b, some (q + 1))) (by
    unfold osnewB
    rw [nI_clamp (by omega), if_pos ⟨nI_pos (by omega), hm, h6⟩]
    unfold osnew; rw [h2]
    show (if G.2.2.1 ≤ q then _ else none) = _
    rw [if_pos hA]) (kk _ (if_pos rfl) (fun b hb => if_neg hb) rfl)
theorem gx_newIn {B m : Nat} {f : Nat → osM α} {q : Nat} (h2 : z.2 = some q) (hA : G.2.2.1 ≤ q) (hm : m ≤ B) (h6 : m ≤ 65536) (kk : ∀ z1 : osS, z1.1 q = some (.inl (0, (m, .inl fun _ => 0))) → (∀ b, ¬ b = q → z1.1 b = z.1 b) → z1.2 = some (q + 1) → gx (f q G z1) Q) : gx (osbind (osnewI B (nI m)) f G z) Q :=
  gx_callE (b := q) (z1 := (fun b => if b = q then some (.inl (0, (m, .inl fun _ => 0))) else z.1 b, some (q + 1))) (by
    unfold osnewI
    rw [nI_clamp (by omega), if_pos ⟨nI_pos (by omega), hm, h6⟩]
    unfold osnew; rw [h2]
    show (if G.2.2.1 ≤ q then _ else none) = _
    rw [if_pos hA]) (kk _ (if_pos rfl) (fun b hb => if_neg hb) rfl)
theorem gx_bcopy {s0 d m n1 n0 dp : Nat} {f g : Nat → Int32} {k : Unit → osM α} (hs : osbsrc G z s0 = some (n0, f)) (hd : z.1 d = some (.inl (1, (n1, .inl g)))) (h0 : m ≤ n0) (h1 : dp + m ≤ n1) (hb : n1 < 2 ^ 31) (hA : G.2.2.1 ≤ d) (hf : ∀ j, j < m → fits .byte (.int (f j)) = true) (hm : m < 2 ^ 31) (kk : ∀ z1 : osS, z1.1 d = some (.inl (1, (n1, .inl (va_cpy f g 0 dp m)))) → (∀ b, ¬ b = d → z1.1 b = z.1 b) → z1.2 = z.2 → gx (k () G z1) Q) : gx (osbind (osbcopy s0 (0 : Int32) d (nI dp) (nI m)) k G z) Q :=
  gx_callE (b := ()) (z1 := osup z d (.inl (1, (n1, .inl (va_cpy f g 0 dp m))))) (by
    unfold osbcopy
    rw [hs, osga_of hd]
    have e0 : (0 : Int32).toNatClampNeg = 0 := by decide
    have em : (nI m).toNatClampNeg = m := nI_clamp hm
    have ed : (nI dp).toNatClampNeg = dp := nI_clamp (by omega)
    show (if (¬ (0 : Int32) < 0 ∧ ¬ nI dp < 0 ∧ ¬ nI m < 0 ∧ (0 : Int32).toNatClampNeg + (nI m).toNatClampNeg ≤ n0 ∧ (nI dp).toNatClampNeg + (nI m).toNatClampNeg ≤ n1 ∧ G.2.2.1 ≤ d) ∧ ∀ i, i < (nI m).toNatClampNeg → fits .byte (.int (f ((0 : Int32).toNatClampNeg + i))) = true then some ((), osup z d (.inl (1, (n1, .inl (va_cpy f g (0 : Int32).toNatClampNeg (nI dp).toNatClampNeg (nI m).toNatClampNeg))))) else none) = _
    rw [e0, em, ed]
    rw [if_pos ⟨⟨by decide, nI_pos (by omega), nI_pos hm, by omega, h1, hA⟩, fun i hi => by rw [Nat.zero_add]; exact hf i hi⟩]) (kk _ osup_eq (fun b hb => if_neg hb) rfl)

theorem q_newLen {x y w : Nat} (h : x + (if y < w then w else y) < 100000) (h0 : 0 < x + (if y < w then w else y)) (hy : y < 100000) (hw : w < 100000) : qJ8_newLength_cabcc N (nI x) (nI y) (nI w) G z = some (nI (x + (if y < w then w else y)), z) := by
  refine gx_eq ?_
  unfold qJ8_newLength_cabcc
  rw [osmax_ni (by omega) (by omega), nI_add]
  refine gx_itef (fun c => ?_) (gx_itef (fun c => ?_) (gx_ret ⟨rfl, rfl⟩))
  · have := (nI_leI (b := 0) (by omega) (by omega)).mp c
    omega
  · have := (nI_ltI (a := 2147483639) (by omega) (by omega)).mp c
    omega
/-- there is room for q letters then -/
theorem q_ensure (h : buW z k0 a v cap n f) (hA : G.2.2.1 ≤ k0) {q : Nat} (hq : q ≤ 40000) (hc : cap ≤ 40000) (hb : cap < q → (if q < 2 * cap + 2 then 2 * cap + 2 else q) ≤ 64) (hI : osInj G) : gx (osrecv [9] a (qJ5_ensureCapacityInternal_d00df N a (nI q)) G z) (fun _ z1 => gr k0 z z1 ∧ (∀ c, ¬ c = a → (∀ q, z.2 = some q → c < q) → z1.1 c = z.1 c) ∧ ∃ v' cap' f', buW z1 k0 a v' cap' n f' ∧ q ≤ cap' ∧ (cap' = cap ∨ cap < q ∧ cap' = if q < 2 * cap + 2 then 2 * cap + 2 else q) ∧ ∀ j, j < n → f' j = f j) := by
  obtain ⟨⟨k, e2, a1, a2, v1, v2, va⟩, za, zv, hn, hft⟩ := id h
  refine gx_recv za (by decide) ?_
  unfold qJ5_ensureCapacityInternal_d00df qJ5_ensureCapacityInternal_d00df_38
  refine gx_gR za (by decide) rfl (gx_len zv (gx_gI za (by decide) rfl ?_))
  rw [sh0r]
  by_cases c : q ≤ cap
  · refine gx_itet ?_ (gx_ret ⟨gr.rf e2 (by omega), fun _ _ _ => rfl, v, cap, f, h, c, Or.inl rfl, fun _ _ => rfl⟩)
    show nI q - nI cap ≤ 0
    rw [Int32.le_iff_toInt_le, pk_sub_toInt (by omega) (by omega), Int32.toInt_zero]; omega
  · have e9 : nI q - nI cap = nI (q - cap) := nI_sub (by omega)
    refine gx_itef ?_ (gx_gR za (by decide) rfl ?_)
    · show ¬ nI q - nI cap ≤ 0
      rw [e9]
      intro cc
      have := (nI_leI (b := 0) (by omega) (by omega)).mp cc
      omega
    have hcap : qJ5_newCapacity_0f7a4 N a (nI q) G z = some (nI (cap + (if q - cap < cap + 2 then cap + 2 else q - cap)), z) := by
      refine gx_eq ?_
      unfold qJ5_newCapacity_0f7a4
      refine gx_gR za (by decide) rfl (gx_len zv (gx_gI za (by decide) rfl (gx_gI za (by decide) rfl ?_)))
      rw [sh0l, sh0l]
      show gx ((osbind (qJ8_newLength_cabcc N (nI cap) (nI q - nI cap) (nI cap + (2 : Int32))) _) G z) _
      rw [e9, show nI cap + (2 : Int32) = nI (cap + 2) from nI_add cap 2]
      refine gx_callE (q_newLen (by split <;> omega) (by split <;> omega) (by omega) (by omega)) (gx_itef ?_ (gx_gI za (by decide) rfl ?_))
      · intro cc
        have := nI_eqN (k := 2147483647) (by split <;> omega) (by omega) cc
        split at this <;> omega
      · rw [sh0r]; exact gx_ret ⟨rfl, rfl⟩
    generalize hm : cap + (if q - cap < cap + 2 then cap + 2 else q - cap) = m at hcap
    have hm2 : m = if q < 2 * cap + 2 then 2 * cap + 2 else q := by
      rw [← hm]; split <;> split <;> omega
    have hmB : m ≤ 64 := by rw [hm2]; exact hb (by omega)
    have hqm : q ≤ m := by rw [hm2]; split <;> omega
    have hcm : cap < m := by omega
    refine gx_recvE za (by decide) hcap (gx_gI za (by decide) rfl ?_)
    rw [sh0l]
    unfold qJ7_copyOf_9075b
    refine gx_bind (gx_len zv (gx_itef ?_ ?_))
    · intro cc
      have := nI_eqN (by omega) (by omega) (show nI m = nI cap from cc)
      omega
    refine gx_newBy e2 (by omega) hmB (by omega) (fun z1 d1 n1 f1 => ?_)
    have zv1 : z1.1 v = some (.inl (1, (cap, .inl f))) := (n1 v (by omega)).trans zv
    refine gx_len zv1 ?_
    show gx ((osbind (osbcopy v (0 : Int32) k (0 : Int32) (osmin (nI cap) (nI m))) fun _ => osret k) G z1) _
    rw [osmin_ni (by omega) (by omega), if_neg (by omega)]
    refine gx_bcopy (dp := 0) (n0 := cap) (f := f) (by unfold osbsrc; rw [osfind_n100 hI (by omega), osga_of zv1]) d1 (Nat.le_refl _) (by omega) (by omega) (by omega) (fun j hj => hft j hj) (by omega) (fun z2 d2 n2 f2 => gx_ret ?_)
    have za2 : z2.1 a = some (.inr (9, [.ref v, .int 0, .int 0, .int (nI n)])) := (n2 a (by omega)).trans ((n1 a (by omega)).trans za)
    refine gx_putH za2 (by decide) (Nat.le_of_ble_eq_true rfl) (by omega) (fun z3 d3 n3 f3 => gx_ret ⟨⟨fun b hb9 => (n3 b (by omega)).trans ((n2 b (by omega)).trans (n1 b (by omega))), k, k + 1, e2, f3.trans (f2.trans f1), by omega, by omega⟩, fun b hb8 hb9 => by have := hb9 k e2; exact (n3 b hb8).trans ((n2 b (by omega)).trans (n1 b (by omega))), k, m, va_cpy f (fun _ => 0) 0 0 cap, ⟨⟨k + 1, f3.trans (f2.trans f1), a1, by omega, by omega, by omega, by omega⟩, d3, (n3 k (by omega)).trans d2, by omega, fun j hj => ?_⟩, hqm, Or.inr ⟨by omega, hm2⟩, fun j hj => ?_⟩)
    · unfold va_cpy
      by_cases c9 : 0 ≤ j ∧ j < 0 + cap
      · rw [if_pos c9]; exact hft _ (by omega)
      · rw [if_neg c9]; exact fitc 0 (by decide)
    · unfold va_cpy
      rw [if_pos (by omega)]
      congr 1; omega

theorem q_BnewLen {x y w : Nat} (h : x + (if y < w then w else y) < 100000) (h0 : 0 < x + (if y < w then w else y)) (hy : y < 100000) (hw : w < 100000) : qBJ8_newLength_cabcc N (nI x) (nI y) (nI w) G z = some (nI (x + (if y < w then w else y)), z) := by
  refine gx_eq ?_
  unfold qBJ8_newLength_cabcc
  rw [osmax_ni (by omega) (by omega), nI_add]
  refine gx_itef (fun c => ?_) (gx_itef (fun c => ?_) (gx_ret ⟨rfl, rfl⟩))
  · have := (nI_leI (b := 0) (by omega) (by omega)).mp c
    omega
  · have := (nI_ltI (a := 2147483639) (by omega) (by omega)).mp c
    omega
/-- there is room for q letters then -/
theorem q_Bensure (h : buW z k0 a v cap n f) (hA : G.2.2.1 ≤ k0) {q : Nat} (hq : q ≤ 40000) (hc : cap ≤ 40000) (hb : cap < q → (if q < 2 * cap + 2 then 2 * cap + 2 else q) ≤ 1200) (hI : osInj G) : gx (osrecv [9] a (qBJ5_ensureCapacityInternal_d00df N a (nI q)) G z) (fun _ z1 => gr k0 z z1 ∧ (∀ c, ¬ c = a → (∀ q, z.2 = some q → c < q) → z1.1 c = z.1 c) ∧ ∃ v' cap' f', buW z1 k0 a v' cap' n f' ∧ q ≤ cap' ∧ (cap' = cap ∨ cap < q ∧ cap' = if q < 2 * cap + 2 then 2 * cap + 2 else q) ∧ ∀ j, j < n → f' j = f j) := by
  obtain ⟨⟨k, e2, a1, a2, v1, v2, va⟩, za, zv, hn, hft⟩ := id h
  refine gx_recv za (by decide) ?_
  unfold qBJ5_ensureCapacityInternal_d00df qBJ5_ensureCapacityInternal_d00df_38
  refine gx_gR za (by decide) rfl (gx_len zv (gx_gI za (by decide) rfl ?_))
  rw [sh0r]
  by_cases c : q ≤ cap
  · refine gx_itet ?_ (gx_ret ⟨gr.rf e2 (by omega), fun _ _ _ => rfl, v, cap, f, h, c, Or.inl rfl, fun _ _ => rfl⟩)
    show nI q - nI cap ≤ 0
    rw [Int32.le_iff_toInt_le, pk_sub_toInt (by omega) (by omega), Int32.toInt_zero]; omega
  · have e9 : nI q - nI cap = nI (q - cap) := nI_sub (by omega)
    refine gx_itef ?_ (gx_gR za (by decide) rfl ?_)
    · show ¬ nI q - nI cap ≤ 0
      rw [e9]
      intro cc
      have := (nI_leI (b := 0) (by omega) (by omega)).mp cc
      omega
    have hcap : qBJ5_newCapacity_0f7a4 N a (nI q) G z = some (nI (cap + (if q - cap < cap + 2 then cap + 2 else q - cap)), z) := by
      refine gx_eq ?_
      unfold qBJ5_newCapacity_0f7a4
      refine gx_gR za (by decide) rfl (gx_len zv (gx_gI za (by decide) rfl (gx_gI za (by decide) rfl ?_)))
      rw [sh0l, sh0l]
      show gx ((osbind (qBJ8_newLength_cabcc N (nI cap) (nI q - nI cap) (nI cap + (2 : Int32))) _) G z) _
      rw [e9, show nI cap + (2 : Int32) = nI (cap + 2) from nI_add cap 2]
      refine gx_callE (q_BnewLen (by split <;> omega) (by split <;> omega) (by omega) (by omega)) (gx_itef ?_ (gx_gI za (by decide) rfl ?_))
      · intro cc
        have := nI_eqN (k := 2147483647) (by split <;> omega) (by omega) cc
        split at this <;> omega
      · rw [sh0r]; exact gx_ret ⟨rfl, rfl⟩
    generalize hm : cap + (if q - cap < cap + 2 then cap + 2 else q - cap) = m at hcap
    have hm2 : m = if q < 2 * cap + 2 then 2 * cap + 2 else q := by
      rw [← hm]; split <;> split <;> omega
    have hmB : m ≤ 1200 := by rw [hm2]; exact hb (by omega)
    have hqm : q ≤ m := by rw [hm2]; split <;> omega
    have hcm : cap < m := by omega
    refine gx_recvE za (by decide) hcap (gx_gI za (by decide) rfl ?_)
    rw [sh0l]
    unfold qBJ7_copyOf_9075b
    refine gx_bind (gx_len zv (gx_itef ?_ ?_))
    · intro cc
      have := nI_eqN (by omega) (by omega) (show nI m = nI cap from cc)
      omega
    refine gx_newBy e2 (by omega) hmB (by omega) (fun z1 d1 n1 f1 => ?_)
    have zv1 : z1.1 v = some (.inl (1, (cap, .inl f))) := (n1 v (by omega)).trans zv
    refine gx_len zv1 ?_
    show gx ((osbind (osbcopy v (0 : Int32) k (0 : Int32) (osmin (nI cap) (nI m))) fun _ => osret k) G z1) _
    rw [osmin_ni (by omega) (by omega), if_neg (by omega)]
    refine gx_bcopy (dp := 0) (n0 := cap) (f := f) (by unfold osbsrc; rw [osfind_n100 hI (by omega), osga_of zv1]) d1 (Nat.le_refl _) (by omega) (by omega) (by omega) (fun j hj => hft j hj) (by omega) (fun z2 d2 n2 f2 => gx_ret ?_)
    have za2 : z2.1 a = some (.inr (9, [.ref v, .int 0, .int 0, .int (nI n)])) := (n2 a (by omega)).trans ((n1 a (by omega)).trans za)
    refine gx_putH za2 (by decide) (Nat.le_of_ble_eq_true rfl) (by omega) (fun z3 d3 n3 f3 => gx_ret ⟨⟨fun b hb9 => (n3 b (by omega)).trans ((n2 b (by omega)).trans (n1 b (by omega))), k, k + 1, e2, f3.trans (f2.trans f1), by omega, by omega⟩, fun b hb8 hb9 => by have := hb9 k e2; exact (n3 b hb8).trans ((n2 b (by omega)).trans (n1 b (by omega))), k, m, va_cpy f (fun _ => 0) 0 0 cap, ⟨⟨k + 1, f3.trans (f2.trans f1), a1, by omega, by omega, by omega, by omega⟩, d3, (n3 k (by omega)).trans d2, by omega, fun j hj => ?_⟩, hqm, Or.inr ⟨by omega, hm2⟩, fun j hj => ?_⟩)
    · unfold va_cpy
      by_cases c9 : 0 ≤ j ∧ j < 0 + cap
      · rw [if_pos c9]; exact hft _ (by omega)
      · rw [if_neg c9]; exact fitc 0 (by decide)
    · unfold va_cpy
      rw [if_pos (by omega)]
      congr 1; omega

end
