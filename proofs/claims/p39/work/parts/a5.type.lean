/-! the law's own steps (3): type -/
def chT (t : List Nat) (k : Nat) : Nat := if k < t.length then t.getD k 0 else 32
theorem chT_lt {t : List Nat} (h : asc t) (k : Nat) : chT t k < 128 := by
  unfold chT
  by_cases c : k < t.length
  · rw [if_pos c]; exact asc_get h c
  · rw [if_neg c]; omega
section
variable {G : osG} {z : osS} {N x lo s : Nat} {ad : Nat → Nat} {W : Nat → Nat → Nat → Int32} {D : osS} {t : List Nat}
/-- a chunk of twenty letters is put together -/
theorem q_type37 {Q : Unit → osS → Prop} {c2 : Nat × Nat × Int32 → osM Unit} {q0 i : Nat} {z1 : osS} (hs : stR G lo z1 s t) {g0 : Nat → Int32} (hz : z1.1 q0 = some (.inl (0, (5, .inl g0)))) (hg0 : ∀ w, w < 5 → g0 w = 0) (hk : z1.2 = some (q0 + 1)) (hI : osInj G) (hA : G.2.2.1 ≤ q0) (hi : 20 * i ≤ 1000) (hq0 : ∀ z2 : osS, (∀ b, ¬ b = q0 → z2.1 b = z1.1 b) → z2.2 = z1.2 → stR G lo z2 s t)
    (kk : ∀ z2 g, z2.1 q0 = some (.inl (0, (5, .inl g))) → (∀ w, w < 5 → g w = nI (pkw (fun j => chT t (20 * i + j)) w 4)) → (∀ b, ¬ b = q0 → z2.1 b = z1.1 b) → z2.2 = z1.2 → gx (osbind (osrecv [7] x (osRV (qX9_feed N x (g 0) (g 1) (g 2) (g 3) (g 4)))) (fun _ => c2 (x, s, (nI (20 * i) + (20 : Int32)))) G z2) Q) : gx (qL_type_37 N c2 (x, s, nI (20 * i), q0, (0 : Int32)) G z1) Q := by
  have hl := hs.1.2
  have ha := hs.1.1
  unfold qL_type_37
  refine gx_loop 20 (fun q p z2 => p = (x, s, nI (20 * i), q0, nI q) ∧ (∃ g, z2.1 q0 = some (.inl (0, (5, .inl g))) ∧ ∀ w, w < 5 → g w = nI (pkw (fun j => chT t (20 * i + j)) w (min 4 (q - 4 * w)))) ∧ (∀ b, ¬ b = q0 → z2.1 b = z1.1 b) ∧ z2.2 = z1.2) ?_ ?_ 21 0 _ z1 (Nat.zero_le _) (by omega) ⟨rfl, ⟨_, hz, fun w hw => by rw [show min 4 (0 - 4 * w) = 0 by omega, hg0 w hw]; rfl⟩, fun _ _ => rfl, rfl⟩
  · rintro ih q p z2 hq ⟨rfl, ⟨g, hg, he⟩, hb, h2⟩ k
    show gx (bL_type_37 N c2 ih x s (nI (20 * i)) q0 (nI q) G z2) _
    unfold bL_type_37 qL_type_82
    refine gx_itef (nI_nleE (a := 20) (b := q) rfl rfl hq (by omega)) (gx_guard (by decide) (gx_guard (by decide) ?_))
    have e4 : nI q / (4 : Int32) = nI (q / 4) := nI_div (b := 4) (by omega) (by omega)
    rw [e4]
    have hs2 := hq0 z2 hb h2
    refine gx_aN hg (by omega) (by omega) (gx_callE (b := nI t.length) (z1 := z2) (q_sLen hs2 hI) ?_)
    rw [nI_add, he (q / 4) (by omega), show min 4 (q - 4 * (q / 4)) = q % 4 by omega]
    have fin : ∀ c : Nat, c < 256 → c = chT t (20 * i + q) → gx (osbind (ossI 0 q0 (nI (q / 4)) (osshl (nI (pkw (fun j => chT t (20 * i + j)) (q / 4) (q % 4))) (8 : Int32) ||| nI c)) (fun _ => ih (x, s, nI (20 * i), q0, (nI q + (1 : Int32)))) G z2) Q := fun c hc ec => by
      refine gx_sN hg (by omega) (by omega) hA (k _ _ ⟨by rw [show nI q + (1 : Int32) = nI (q + 1) from nI_sum rfl rfl], ⟨_, osup_eq, fun w hw => ?_⟩, fun b hb9 => (osup_ne hb9 rfl).trans (hb b hb9), h2⟩)
      by_cases ew : w = q / 4
      · subst ew
        rw [upd_eq, shl_or hc, show min 4 (q + 1 - 4 * (q / 4)) = q % 4 + 1 by omega]
        show _ = nI (pkw (fun j => chT t (20 * i + j)) (q / 4) (q % 4) * 256 + chT t (20 * i + (4 * (q / 4) + q % 4)))
        rw [ec, show 4 * (q / 4) + q % 4 = q by omega]
      · rw [upd_ne ew, he w hw, show min 4 (q + 1 - 4 * w) = min 4 (q - 4 * w) by omega]
    refine gx_ite (fun c => ?_) (fun c => ?_)
    · have c' := (nI_leI (by omega) (by omega)).mp c
      exact fin 32 (by omega) (by unfold chT; rw [if_neg (by omega)])
    · have c' : 20 * i + q < t.length := Nat.lt_of_not_le (fun q9 => c ((nI_leI (by omega) (by omega)).mpr q9))
      refine gx_callE (b := nI (t.getD (20 * i + q) 0)) (z1 := z2) (q_sChar hs2 hI c') ?_
      have := asc_get ha c'
      exact fin _ (by omega) (by unfold chT; rw [if_pos c'])
  · rintro ih p z2 ⟨rfl, ⟨g, hg, he⟩, hb, h2⟩
    show gx (bL_type_37 N c2 ih x s (nI (20 * i)) q0 (nI 20) G z2) _
    unfold bL_type_37
    refine gx_itet ((nI_leI (a := 20) (b := 20) (by omega) (by omega)).mpr (Nat.le_refl _)) (gx_aN (i := 0) hg (by omega) (by omega) (gx_aN (i := 1) hg (by omega) (by omega) (gx_aN (i := 2) hg (by omega) (by omega) (gx_aN (i := 3) hg (by omega) (by omega) (gx_aN (i := 4) hg (by omega) (by omega) ?_)))))
    exact kk z2 g hg (fun w hw => by rw [he w hw, show min 4 (20 - 4 * w) = 4 by omega]) hb h2
/-- the text stands in the input then -/
def typd (t : List Nat) (W W' : Nat → Nat → Nat → Int32) : Prop := (∀ k, ¬ k = 0 → W' k = W k) ∧ (∀ r, ¬ r = 0 → ¬ r = 1 → W' 0 r = W 0 r) ∧ (∃ b, W' 0 1 0 = nI b ∧ t.length ≤ b ∧ b ≤ 1000) ∧ ∀ k, k < 1000 → (∃ w, w < 256 ∧ W' 0 0 k = (nI w).toInt8.toInt32) ∧ (k < t.length → W' 0 0 k = (nI (t.getD k 0)).toInt8.toInt32)
theorem q_type (hw : WD z x ad W z) (h0 : W 0 1 0 = nI 0) (hb : inB W) (hr : rgR x z) (hs : stR G lo z s t) (hlo : x + 130 ≤ lo) (hI : osInj G) (hA : G.2.2.1 ≤ x) (hN : 5000 < N) : gx (qL_type N x s G z) (fun _ z' => fL x z z' ∧ rgR x z' ∧ stR G lo z' s t ∧ ∃ W', WD z' x ad W' z' ∧ typd t W W') := by
  have hl := hs.1.2
  have ha := hs.1.1
  have hlA := hs.2.1
  unfold qL_type qL_type_2
  refine gx_loop ((t.length + 19) / 20) (fun i p z' => p = (x, s, nI (20 * i)) ∧ fL x z z' ∧ rgR x z' ∧ stR G lo z' s t ∧ ∃ W', WD z' x ad W' z' ∧ (∀ k, ¬ k = 0 → W' k = W k) ∧ (∀ r, ¬ r = 0 → ¬ r = 1 → W' 0 r = W 0 r) ∧ W' 0 1 0 = nI (20 * i) ∧ ∀ k, W' 0 0 k = if k < 20 * i then (nI (chT t k)).toInt8.toInt32 else W 0 0 k) ?_ ?_ 51 0 _ z (Nat.zero_le _) (by omega) ?_
  · rintro ih i p z1 hi ⟨rfl, fr, hr1, hs1, W1, w1, k1, r1, e1, b1⟩ k
    show gx (bL_type_2 N ih x s (nI (20 * i)) G z1) _
    unfold bL_type_2
    obtain ⟨⟨gr9, hgr⟩, kz, hkz, hkz2⟩ := id hr1
    have hkA : G.2.2.1 ≤ kz := by omega
    refine gx_callE (b := nI t.length) (z1 := z1) (q_sLen hs1 hI) (gx_itef (nI_nleE (a := t.length) (b := 20 * i) rfl rfl (by omega) (by omega)) (gx_newH hkz hkA (fun z2 d2 n2 f2 => ?_)))
    have hst : ∀ z9 : osS, (∀ b, ¬ b = kz → z9.1 b = z1.1 b) → z9.2 = some (kz + 1) → stR G lo z9 s t := fun z9 h9 e9 => hs1.keep (fun c9 hc9 hq9 => h9 c9 (by have := hq9 kz hkz; omega)) (fun q hq => by
      rw [hkz] at hq
      cases hq
      exact ⟨_, e9, by omega⟩)
    refine gx_sN (i := 0) d2 (by omega) (by omega) hkA (gx_sN (i := 1) osup_eq (by omega) (by omega) hkA (gx_sN (i := 2) osup_eq (by omega) (by omega) hkA (gx_sN (i := 3) osup_eq (by omega) (by omega) hkA (gx_sN (i := 4) osup_eq (by omega) (by omega) hkA ?_))))
    refine q_type37 (lo := lo) (t := t) (hst _ (fun b hb => (osup_ne hb rfl).trans ((osup_ne hb rfl).trans ((osup_ne hb rfl).trans ((osup_ne hb rfl).trans ((osup_ne hb rfl).trans (n2 b hb)))))) f2) osup_eq (fun w hw => ?_) f2 hI hkA (by omega) (fun z9 h9 e9 => hst z9 (fun b hb => (h9 b hb).trans ((osup_ne hb rfl).trans ((osup_ne hb rfl).trans ((osup_ne hb rfl).trans ((osup_ne hb rfl).trans ((osup_ne hb rfl).trans (n2 b hb))))))) (e9.trans f2)) (fun z4 g d4 hg n4 e4 => ?_)
    · rcases (show w = 0 ∨ w = 1 ∨ w = 2 ∨ w = 3 ∨ w = 4 by omega) with e | e | e | e | e <;> subst e <;> rfl
    have k4 : ∀ b, ¬ b = kz → z4.1 b = z1.1 b := fun b hb => (n4 b hb).trans ((osup_ne hb rfl).trans ((osup_ne hb rfl).trans ((osup_ne hb rfl).trans ((osup_ne hb rfl).trans ((osup_ne hb rfl).trans (n2 b hb))))))
    have s4 : z4.2 = some (kz + 1) := e4.trans f2
    have w4 : WD z4 x ad W1 z4 := w1.far (fun c _ hc => k4 c (by omega))
    rw [hg 0 (by omega), hg 1 (by omega), hg 2 (by omega), hg 3 (by omega), hg 4 (by omega)]
    refine gx_bind (gx_recv w4.x9.o (by decide) (gx_RV (gx_mono (q_X9_feed w4 e1 (by omega) hA hN) ?_)))
    rintro r z5 ⟨rfl, E', hf, w5⟩
    refine ⟨_, rfl, ?_⟩
    obtain ⟨q1, q2, q3⟩ := fed_20 (fun j => chT_lt ha (20 * i + j)) hf
    have f5 := w5.fr
    have s5 : z5.2 = some (kz + 1) := f5.2.trans s4
    refine k _ _ ⟨by rw [show nI (20 * i) + (20 : Int32) = nI (20 * (i + 1)) from nI_sum (a := 20 * i) (b := 20) rfl rfl], fr.tr ⟨fun a q hq ha9 ho => ?_, kz, kz + 1, hkz, s5, by omega⟩, ⟨⟨gr9, ?_⟩, kz + 1, s5, by omega⟩, (hst z4 k4 s4).keep (fun c hc _ => f5.1 c (by omega)) (fun q hq => ⟨q, f5.2.trans hq, Nat.le_refl _⟩), Ws W1 0 E', w5.re, fun q hq => ?_, fun r h0 h1 => ?_, ?_, fun q => ?_⟩
    · rw [hkz] at hq
      cases hq
      exact (f5.1 a (by omega)).trans (k4 a (by omega))
    · exact (f5.1 _ (by omega)).trans ((k4 _ (by omega)).trans hgr)
    · rw [Ws_ne hq]; exact k1 q hq
    · rw [Ws_eq, q3 r h0 h1]; exact r1 r h0 h1
    · rw [Ws_eq, q1]; congr 1
    · rw [Ws_eq, q2, b1]
      by_cases c : 20 * i ≤ q ∧ q < 20 * i + 20
      · rw [if_pos c, if_pos (by omega), show 20 * i + (q - 20 * i) = q by omega]
      · rw [if_neg c]
        by_cases c2 : q < 20 * i
        · rw [if_pos c2, if_pos (by omega)]
        · rw [if_neg c2, if_neg (by omega)]
  · rintro ih p z1 ⟨rfl, fr, hr1, hs1, W1, w1, k1, r1, e1, b1⟩
    show gx (bL_type_2 N ih x s (nI (20 * ((t.length + 19) / 20))) G z1) _
    unfold bL_type_2
    refine gx_callE (b := nI t.length) (z1 := z1) (q_sLen hs1 hI) (gx_itet ((nI_leI (by omega) (by omega)).mpr (by omega)) (gx_ret ⟨fr, hr1, hs1, W1, w1, k1, r1, ⟨_, e1, by omega, by omega⟩, fun q hq => ⟨?_, fun hq2 => ?_⟩⟩))
    · rw [b1]
      by_cases c : q < 20 * ((t.length + 19) / 20)
      · rw [if_pos c]; exact ⟨chT t q, by have := chT_lt ha q; omega, rfl⟩
      · rw [if_neg c]; exact hb q hq
    · rw [b1, if_pos (by omega)]
      unfold chT
      rw [if_pos hq2]
  · obtain ⟨kz, hkz, hkz2⟩ := hr.2
    exact ⟨rfl, ⟨fun _ _ _ _ _ => rfl, kz, kz, hkz, hkz, Nat.le_refl _⟩, hr, hs, W, hw, fun _ _ => rfl, fun _ _ _ => rfl, h0, fun k => (if_neg (by omega)).symm⟩
end
