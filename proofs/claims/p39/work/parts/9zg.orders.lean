/-! orders read, in both (by program) -/
def sU (U S : Nat → Nat → Int32) : Prop := (∀ j, j < 16 → S 6 j = U 6 j ∧ S 7 j = U 7 j ∧ S 8 j = U 8 j ∧ S 9 j = U 9 j ∧ S 10 j = U 10 j) ∧ S 4 0 = U 4 0
/-- the draft agrees with the reference's, and is a state -/
def PT (C U : Nat → Nat → Int32) (n np T : Nat) (S : Nat → Nat → Int32) (f : Nat → Int32) : Prop := cpT S f ∧ stI C S n np T ∧ S 0 0 = U 0 0 ∧ (¬ U 0 0 = 2 → sU U S)
def ordF (g : Nat → Int32) (a : Nat) (k v w : Int32) : Nat → Int32 := upd (upd (upd g (117 + a) k) (133 + a) v) (149 + a) w
def okE (S : Nat → Nat → Int32) (n : Nat) (k v w : Int32) : Prop := (k = 0 ∧ v = -1 ∧ w = -1) ∨ (k = 1 ∧ w = -1 ∧ ∃ c, c < n ∧ v = nI c) ∨ (k = 2 ∧ w = -1 ∧ ∃ c, c < n ∧ v = nI c ∧ uu S c = true) ∨ ((k = 3 ∨ k = 4) ∧ (∃ c, c < n ∧ v = nI c) ∧ ∃ d, d < n ∧ w = nI d)
section
variable {C U S S' M : Nat → Nat → Int32} {D : Nat → Nat → Int64} {n np T a b c : Nat} {f : Nat → Int32} {k v w : Int32}
theorem stJ_rows (e : ∀ k, ¬ (k = 12 ∨ k = 13 ∨ k = 14) → S' k = S k) (h : stJ C S n np T) : stJ C S' n np T := by
  have eu : uu S' = uu S := by funext j; unfold uu; rw [e 6 (by omega)]
  have ed : ds S' = ds S := by funext j; unfold ds; rw [e 8 (by omega)]
  unfold stJ at h ⊢
  rw [eu, ed, e 1 (by omega), e 2 (by omega), e 5 (by omega), e 6 (by omega), e 7 (by omega), e 8 (by omega), e 9 (by omega), e 11 (by omega)]
  exact h
theorem ord_row {j : Nat} (h : ¬ (j = 12 ∨ j = 13 ∨ j = 14)) : ordered S a k v w j = S j := by unfold ordered; rw [cset_ne (by omega), cset_ne (by omega), cset_ne (by omega)]
theorem ordOK_or (ho : ordOK S n) (ok : okE S n k v w) (h16 : n ≤ 16) : ordOK (ordered S a k v w) n := fun j hj hu => by
  have eu : ∀ j, uu (ordered S a k v w) j = uu S j := fun j => by unfold uu; rw [ord_row (by omega)]
  have e12 : ordered S a k v w 12 j = if j = a then k else S 12 j := rfl
  have e13 : ordered S a k v w 13 j = if j = a then v else S 13 j := rfl
  have e14 : ordered S a k v w 14 j = if j = a then w else S 14 j := rfl
  rw [eu] at hu
  by_cases e : j = a
  · rw [if_pos e] at e12 e13 e14
    have eg : gof (ordered S a k v w) j = tn v := by unfold gof; rw [e13]
    have es : sof (ordered S a k v w) j = tn w := by unfold sof; rw [e14]
    rw [e12, e13, e14, eg, es]
    rcases ok with ⟨rfl, rfl, rfl⟩ | ⟨rfl, rfl, c, hc, rfl⟩ | ⟨rfl, rfl, c, hc, rfl, huc⟩ | ⟨hk, ⟨c, hc, rfl⟩, d, hd, rfl⟩
    · exact ⟨Or.inl rfl, fun _ => rfl, fun q => absurd rfl q, fun q => absurd q (by decide), fun _ => rfl, fun q => absurd q (by decide)⟩
    · have : tn (nI c) = c := nI_clamp (by omega)
      rw [this]
      exact ⟨Or.inr (Or.inl rfl), fun q => absurd q (by decide), fun _ => ⟨rfl, hc⟩, fun q => absurd q (by decide), fun _ => rfl, fun q => absurd q (by decide)⟩
    · have : tn (nI c) = c := nI_clamp (by omega)
      rw [this, eu]
      exact ⟨Or.inr (Or.inr (Or.inl rfl)), fun q => absurd q (by decide), fun _ => ⟨rfl, hc⟩, fun q => absurd q (by decide), fun _ => rfl, fun _ => huc⟩
    · have e1 : tn (nI c) = c := nI_clamp (by omega)
      have e2 : tn (nI d) = d := nI_clamp (by omega)
      rw [e1, e2]
      rcases hk with rfl | rfl
      · exact ⟨Or.inr (Or.inr (Or.inr (Or.inl rfl))), fun q => absurd q (by decide), fun _ => ⟨rfl, hc⟩, fun _ => ⟨rfl, hd⟩, fun q => absurd (Or.inl rfl) q, fun q => absurd q (by decide)⟩
      · exact ⟨Or.inr (Or.inr (Or.inr (Or.inr rfl))), fun q => absurd q (by decide), fun _ => ⟨rfl, hc⟩, fun _ => ⟨rfl, hd⟩, fun q => absurd (Or.inr rfl) q, fun q => absurd q (by decide)⟩
  · rw [if_neg e] at e12 e13 e14
    have eg : gof (ordered S a k v w) j = gof S j := by unfold gof; rw [e13]
    have es : sof (ordered S a k v w) j = sof S j := by unfold sof; rw [e14]
    rw [e12, e13, e14, eg, es, eu]
    exact ho j hj hu
theorem cpT_or (h : cpT S f) (ha : a < 16) : cpT (ordered S a k v w) (ordF f a k v w) := by
  have of : ∀ j, ordF f a k v w j = if j = 149 + a then w else if j = 133 + a then v else if j = 117 + a then k else f j := fun j => rfl
  have e12 : ∀ j, ordered S a k v w 12 j = if j = a then k else S 12 j := fun _ => rfl
  have e13 : ∀ j, ordered S a k v w 13 j = if j = a then v else S 13 j := fun _ => rfl
  have e14 : ∀ j, ordered S a k v w 14 j = if j = a then w else S 14 j := fun _ => rfl
  have no : ∀ j, j < 117 ∨ 165 ≤ j → ordF f a k v w j = f j := fun j hj => by rw [of, if_neg (by omega), if_neg (by omega), if_neg (by omega)]
  have eu : ∀ j, uu (ordered S a k v w) j = uu S j := fun j => by unfold uu; rw [ord_row (by omega)]
  have ed : ∀ j, ds (ordered S a k v w) j = ds S j := fun j => by unfold ds; rw [ord_row (by omega)]
  obtain ⟨⟨c0, c1, c2, c3, c4⟩, h1, h2, h3, h4⟩ := h
  refine ⟨⟨?_, ?_, ?_, ?_, ?_⟩, fun j hj => ?_, fun j hj q => ?_, fun j hj q => ?_, fun j w2 hj hw => ?_⟩
  · rw [no _ (by omega)]; exact c0
  · rw [no _ (by omega)]; exact c1
  · rw [no _ (by omega)]; exact c2
  · rw [no _ (by omega)]; exact c3
  · rw [no _ (by omega)]; exact c4
  · obtain ⟨t1, t2, t3, t4, t5, t6, t7⟩ := h1 j hj
    rw [no (5 + j) (by omega), no (21 + j) (by omega), no (53 + j) (by omega), no (101 + j) (by omega), e12, e13, e14, ord_row (j := 5) (by omega), ord_row (j := 6) (by omega), ord_row (j := 8) (by omega), ord_row (j := 11) (by omega)]
    refine ⟨t1, t2, t3, t4, ?_, ?_, ?_⟩
    · rw [of, if_neg (by omega), if_neg (by omega), t5]
      by_cases e : j = a
      · rw [if_pos e, if_pos (by omega)]
      · rw [if_neg e, if_neg (by omega)]
    · rw [of, if_neg (by omega), t6]
      by_cases e : j = a
      · rw [if_pos e, if_pos (by omega)]
      · rw [if_neg e, if_neg (by omega), if_neg (by omega)]
    · rw [of, t7]
      by_cases e : j = a
      · rw [if_pos e, if_pos (by omega)]
      · rw [if_neg e, if_neg (by omega), if_neg (by omega), if_neg (by omega)]
  · rw [eu] at q
    rw [no _ (by omega), ord_row (j := 7) (by omega)]; exact h2 j hj q
  · rw [ed] at q
    rw [no _ (by omega), no _ (by omega), ord_row (j := 9) (by omega), ord_row (j := 10) (by omega)]; exact h3 j hj q
  · rw [no _ (by omega), ord_row (j := 15) (by omega)]; exact h4 j w2 hj hw
theorem PT_or (h : PT C U n np T S f) (h16 : n ≤ 16) (ha : a < 16) (h0 : U 0 0 = 0) (ok : okE S n k v w) : PT C U n np T (ordered S a k v w) (ordF f a k v w) := by
  obtain ⟨ht, hi, e0, hs⟩ := h
  have ed : ∀ j, ds (ordered S a k v w) j = ds S j := fun j => by unfold ds; rw [ord_row (by omega)]
  refine ⟨cpT_or ht ha, ⟨stJ_rows (fun j hj => ord_row hj) hi.j, ?_, fun j hj q => ?_, fun q => ?_⟩, ?_, fun q => ?_⟩
  · rw [ord_row (by omega)]; exact hi.ph
  · rw [ed] at q
    rw [ord_row (by omega)]; exact hi.d1 j hj q
  · rw [ord_row (by omega)] at q
    exact ordOK_or (hi.o q) ok h16
  · rw [ord_row (by omega)]; exact e0
  · obtain ⟨s1, s2⟩ := hs q
    unfold sU
    rw [ord_row (j := 6) (by omega), ord_row (j := 7) (by omega), ord_row (j := 8) (by omega), ord_row (j := 9) (by omega), ord_row (j := 10) (by omega), ord_row (j := 4) (by omega)]
    exact ⟨s1, s2⟩
theorem sU_uu (hs : sU U S) (ha : a < 16) : uu U a = uu S a := by unfold uu; rw [(hs.1 a ha).1]
theorem sU_cg (hs : sU U S) (ha : a < 16) : cg C S a b = cg C U a b := by unfold cg; rw [(hs.1 a ha).2.1]
theorem mvE (hm : cpM C M D n np) (hj : stJ C U n np T) (ht : cpT U (M 3)) (hs : sU U S) (ha : a < 16) (hb : b < 16) (hu : uu S a = true) : rMv M a b = aMv C S a b := by
  rw [mv_eq hm hj ht ha hb (by rw [sU_uu hs ha]; exact hu)]
  unfold aMv
  rw [sU_cg hs ha, (hs.1 a ha).2.1]
theorem usE (hm : cpM C M D n np) (hj : stJ C U n np T) (ht : cpT U (M 3)) (hs : sU U S) (ha : a < 16) (hc : c < 16) (hu : uu S a = true) : rUs M a c = aUs C S a c := by
  have hu0 : uu U a = true := by rw [sU_uu hs ha]; exact hu
  unfold rUs aUs
  rw [psg_S hm hj ht ha hu0, (ht.2.1 c hc).2.1, sU_cg hs ha, cg_u hj ha hu0, (hs.1 c hc).1]
theorem msE (hm : cpM C M D n np) (hj : stJ C U n np T) (ht : cpT U (M 3)) (hs : sU U S) (ha : a < 16) (hb : b < 16) (hc : c < 16) (hu : uu S a = true) : rMs M a c b = aMs C S a c b := by
  have hu0 : uu U a = true := by rw [sU_uu hs ha]; exact hu
  unfold rMs aMs
  rw [psg_S hm hj ht ha hu0, (ht.2.1 c hc).2.1, sU_cg hs ha, cg_u hj ha hu0, (hs.1 c hc).1]
theorem cvE (hm : cpM C M D n np) (hj : stJ C U n np T) (ht : cpT U (M 3)) (hs : sU U S) (ha : a < 16) (hb : b < 16) (hc : c < 16) (hu : uu S a = true) : rCv M a c b = aCv C S a c b := by
  have hu0 : uu U a = true := by rw [sU_uu hs ha]; exact hu
  unfold rCv aCv jc
  rw [ht.2.2.1 a ha hu0, kd2 hm ha, kd1 hm hc, kd1 hm hb, (ht.2.1 c hc).2.1, (hs.1 a ha).2.1, (hs.1 c hc).2.1]
  cases huc : uu U c
  · have h7 := hj.k7 c hc huc
    have h6 : U 6 c = -1 := by
      unfold uu at huc
      simpa using huc
    rw [h7, h6]
    simp
  · rw [ht.2.2.1 c hc huc]
    have h6 : (!decide (U 6 c = -1)) = true := huc
    rw [h6, Bool.true_and]
    cases decide (U 7 a = 1) <;> cases bt (C 3 0) a <;> cases decide (U 7 c = 0) <;> cases bt (C 2 0) c <;> cases bt (C 2 0) b <;> cases decide (c = b) <;> rfl
theorem gbE (hm : cpM C M D n np) (hj : stJ C U n np T) (ht : cpT U (M 3)) (hs : sU U S) (ha : a < 16) (hb : b < 16) (hd : ds S a = true) : rGb M a b = aRt C S a b := by
  have hd0 : ds U a = true := by
    unfold ds at hd ⊢
    rw [← (hs.1 a ha).2.2.1]; exact hd
  obtain ⟨d1, d2⟩ := ht.2.2.2.1 a ha hd0
  unfold rGb aRt
  rw [d1, d2, (ht.2.1 b hb).2.1, ht.1.2.2.2.2]
  obtain ⟨s6, s7, s8, s9, s10⟩ := hs.1 a ha
  rw [s8, s9, s10, hs.2, (hs.1 b hb).1]
  have e8 : (!decide (U 8 a = -1)) = true := hd0
  rw [e8, Bool.true_and]
  have ep : psg M a (U 9 a) = bd C a (U 9 a) := by
    rcases (hj.d a ha hd0).2.2 with e | e <;> rw [e]
    · exact psg_b hm ha false
    · exact psg_b hm ha true
  rw [ep]
end
theorem Ws_ws {W : Nat → Nat → Nat → Int32} {k : Nat} {A B : Nat → Nat → Int32} : Ws (Ws W k A) k B = Ws W k B := by
  funext j
  unfold Ws
  by_cases e : j = k
  · rw [if_pos e, if_pos e]
  · rw [if_neg e, if_neg e, if_neg e]
section
variable {G : osG} {z z1 : osS} {N x n np T L i i0 a m : Nat} {ad : Nat → Nat} {W : Nat → Nat → Nat → Int32} {D D' : osS} {E : Nat → Nat → Int64} {b : Nat → Nat} {M0 M S C R : Nat → Nat → Int32} {l : Int32} {k v w : Int32} {Q : Int32 → (Nat → Nat → Int32) → (Nat → Nat → Int64) → Prop}
theorem TW.b1 (h : TW z x ad (Ws W 4 S) D C E) : rX0 z (ad 0) (W 1) := h.1.bd
theorem TW.d1 (h : TW z x ad (Ws W 4 S) D C E) : rX5 z (ad 3) S := by
  have := h.1.dr
  rw [Ws_eq] at this; exact this
theorem TW.d2 (h : TW z x ad (Ws W 4 S) D C E) (hf : osFr (ad 3) (ad 3 + 12) z z1) (hc : rX5 z1 (ad 3) R) : TW z1 x ad (Ws W 4 R) D C E := by
  have := h.d hf hc
  rw [Ws_ws] at this; exact this
theorem TW.hA (h : TW z x ad W D C E) (hA : G.2.2.1 ≤ x) : G.2.2.1 ≤ ad 3 := by have := h.1.ok.s; omega
theorem c_fail7 {Q : Int32 → osS → Prop} {u : Int32} (h : TW z x ad W D C E) (hA : G.2.2.1 ≤ x) (kk : ∀ z' C', TW z' x ad W D C' E → C' 8 0 = u → C' 9 0 = C 7 0 → Q 0 z') : gx ((osbind (osgI [6] 7 (x + 6)) fun x1 => osbind (osrecv [6] (x + 6) (qX6_fail N (x + 6) u x1)) fun x2 => osretZ x2) G z) Q := by
  refine gx_gI h.2.o (by decide) rfl (gx_recvQ h.2.o (by decide) (c_fail_X7 h hA) (fun r z' ⟨e, p⟩ => gx_retZ (Or.inl e) ?_))
  rw [e]
  exact kk z' _ p rfl rfl
end
section
variable {G : osG} {z : osS} {N x n np T L i i0 a : Nat} {ad : Nat → Nat} {W : Nat → Nat → Nat → Int32} {D D' : osS} {E : Nat → Nat → Int64} {b : Nat → Nat} {M0 M S C : Nat → Nat → Int32} {l : Int32} {k v w : Int32}
end
