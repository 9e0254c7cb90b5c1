/-! the law's own steps (29): each statement of the law's maps (2) -/
section
variable {G : osG} {N x n np k m q : Nat}
theorem MI_area {B S : Nat → Nat → Int32} {kd : Int32} {o : Bool} (h : MI n np k m q B S) (hn : n < 12) (hk : (n < 3 ∧ kd = 2) ∨ (3 ≤ n ∧ n < 6 ∧ kd = 1) ∨ (6 ≤ n ∧ (kd = 0 ∨ kd = 1))) (ho : kd = 2 → o = false) : MI (n + 1) np k m q (areaAdded B n (nI (n + 1)) kd o) S := by
  obtain ⟨hq, hM, hB, hu⟩ := h
  refine ⟨QMx_area hq (by omega) (by omega) (by omega) ?_ ho, MN_area hM hq.bdI (by omega) rfl ?_, fun i j hij hj r => hB i j hij hj ?_, hu⟩
  · rcases hk with ⟨_, e⟩ | ⟨_, _, e⟩ | ⟨_, e | e⟩
    · exact Or.inr (Or.inr e)
    · exact Or.inr (Or.inl e)
    · exact Or.inl e
    · exact Or.inr (Or.inl e)
  · rcases hk with e | e | ⟨e, f⟩
    · exact Or.inl e
    · exact Or.inr (Or.inl e)
    · refine Or.inr (Or.inr ⟨e, fun g => ?_⟩)
      rcases f with f | f <;> rw [f] at g <;> exact absurd g (by decide)
  · rw [aA_r (by omega), aA_r (by omega)] at r; exact r
/-- an area: w its keyword, the j-th -/
theorem SR_area {w : List Nat} {j : Nat} {kd : Int32} (hwj : (w = kw_la ∧ j = 0 ∧ kd = 0) ∨ (w = kw_co ∧ j = 1 ∧ kd = 1) ∨ (w = kw_se ∧ j = 2 ∧ kd = 2)) (hn : n < 12) (hk : (n < 3 ∧ kd = 2) ∨ (3 ≤ n ∧ n < 6 ∧ kd = 1) ∨ (6 ≤ n ∧ (kd = 0 ∨ kd = 1))) : SR G N x (w ++ [32, 97 + n]) (MI n np k m q) (MI (n + 1) np k m q) ∧ (¬ kd = 2 → SR G N x (w ++ [32, 97 + n, 32, 99, 101, 110, 116, 101, 114]) (MI n np k m q) (MI (n + 1) np k m q)) := by
  have hw : lets w ∧ 0 < w.length ∧ w.length ≤ 7 ∧ pkl w = kwN j := by
    rcases hwj with ⟨e, f, _⟩ | ⟨e, f, _⟩ | ⟨e, f, _⟩ <;> subst e <;> subst f
    · exact ⟨kw_lets.1, by decide, by decide, kw_pks.1⟩
    · exact ⟨kw_lets.2.1, by decide, by decide, kw_pks.2.1⟩
    · exact ⟨kw_lets.2.2.1, by decide, by decide, kw_pks.2.2.1⟩
  obtain ⟨w1, w2, w3, w4⟩ := hw
  have go : ∀ {L p b ad W D z C E B S} {Q : Int32 → osS → Prop}, CXm G N x L b W → MW z x ad (Ws (Ws W 2 B) 4 S) D C E → tkC b L p C E → p ≤ L → (∀ i, kwb b L p i = decide (kwN j = kwN i)) → (∀ z1 C1 E1 a0, MW z1 x ad (Ws (Ws W 2 B) 4 S) D C1 E1 → tkC b L (tX b L p) C1 E1 → gx (qX3_readArea N (x + 4) (ad 1) a0 kd G z1) (fun r z' => r = 1 ∧ Q 1 z')) → gx (qX3_readStatement N (x + 4) (ad 1) (ad 3) G z) Q := fun {L p b ad W D z C E B S Q} cx h tc hp hkw kk => by
    rcases hwj with ⟨_, f, g⟩ | ⟨_, f, g⟩ | ⟨_, f, g⟩ <;> subst f <;> subst g
    · exact y_stmt (u := kwN 0) cx h tc hp hkw (by simp) (fun _ => kk) (fun e => (kw_ne e (by decide) (by decide) (by decide)).elim) (fun e => (kw_ne e (by decide) (by decide) (by decide)).elim) (fun e => (kw_ne e (by decide) (by decide) (by decide)).elim) (fun e => (kw_ne e (by decide) (by decide) (by decide)).elim) (fun e => (kw_ne e (by decide) (by decide) (by decide)).elim) (fun e => (kw_ne e (by decide) (by decide) (by decide)).elim)
    · exact y_stmt (u := kwN 1) cx h tc hp hkw (by simp) (fun e => (kw_ne e (by decide) (by decide) (by decide)).elim) (fun _ => kk) (fun e => (kw_ne e (by decide) (by decide) (by decide)).elim) (fun e => (kw_ne e (by decide) (by decide) (by decide)).elim) (fun e => (kw_ne e (by decide) (by decide) (by decide)).elim) (fun e => (kw_ne e (by decide) (by decide) (by decide)).elim) (fun e => (kw_ne e (by decide) (by decide) (by decide)).elim)
    · exact y_stmt (u := kwN 2) cx h tc hp hkw (by simp) (fun e => (kw_ne e (by decide) (by decide) (by decide)).elim) (fun e => (kw_ne e (by decide) (by decide) (by decide)).elim) (fun _ => kk) (fun e => (kw_ne e (by decide) (by decide) (by decide)).elim) (fun e => (kw_ne e (by decide) (by decide) (by decide)).elim) (fun e => (kw_ne e (by decide) (by decide) (by decide)).elim) (fun e => (kw_ne e (by decide) (by decide) (by decide)).elim)
  refine ⟨fun L b ad W D z C E B S p cx hb hl hI h tc => ?_, fun hkd L b ad W D z C E B S p cx hb hl hI h tc => ?_⟩
  · obtain ⟨b0, b1, h16, _⟩ := hI.b0
    have e2 : (w ++ [32, 97 + n]).length = w.length + 2 := by simp
    rw [e2] at hl ⊢
    rw [List.append_assoc] at hb
    obtain ⟨k1, k2, k3, k4⟩ := kw_at (L := L) (r := [97 + n, 59]) w1 w2 w3 w4 hb (by omega)
    refine ⟨k3, go cx h tc (by omega) k1 (fun z1 C1 E1 a0 h1 t1 => ?_)⟩
    rw [k2] at t1
    refine gx_mono (y_area0 cx h1 t1 b0 (by omega) hI.2.1.1 k4 (by omega)) (fun r z' ⟨e, C2, E2, h2, t2⟩ => ⟨e, rfl, _, _, C2, E2, h2, by rw [← Nat.add_assoc]; exact t2, MI_area hI hn hk (fun _ => rfl)⟩)
  · obtain ⟨b0, b1, h16, _⟩ := hI.b0
    have e2 : (w ++ [32, 97 + n, 32, 99, 101, 110, 116, 101, 114]).length = w.length + 9 := by simp
    rw [e2] at hl ⊢
    rw [List.append_assoc] at hb
    obtain ⟨k1, k2, k3, k4⟩ := kw_at (L := L) (r := [97 + n, 32, 99, 101, 110, 116, 101, 114, 59]) w1 w2 w3 w4 hb (by omega)
    refine ⟨k3, go cx h tc (by omega) k1 (fun z1 C1 E1 a0 h1 t1 => ?_)⟩
    rw [k2] at t1
    refine gx_mono (y_area1 (r := []) cx h1 t1 b0 (by omega) hI.2.1.1 hkd k4 (by omega)) (fun r z' ⟨e, C2, E2, h2, t2⟩ => ⟨e, rfl, _, _, C2, E2, h2, by rw [← Nat.add_assoc]; exact t2, MI_area hI hn hk (fun q => absurd q hkd)⟩)
theorem nu_lt {S : Nat → Nat → Int32} (h : ∀ a, a < 16 → q ≤ a → uu S a = false) (hq : q ≤ 16) : nu S ≤ q := by
  rw [nu_uu, fb_cutN 16 hq (fun i h1 h2 => h i h2 h1)]
  exact fb_ct_le _ _
/-- a unit: an army (j = 5) or a fleet (j = 6) -/
theorem SR_unit {w : List Nat} {j a p0 : Nat} {kd : Int32} (hwj : (w = kw_ar ∧ j = 5 ∧ kd = 0 ∧ 3 ≤ a) ∨ (w = kw_fl ∧ j = 6 ∧ kd = 1 ∧ a < 6)) (hn : n ≤ 12) (ha : a < n) (hq : q ≤ a) (hp0 : p0 < np) : SR G N x (w ++ [32, 97 + (15 + p0), 32, 97 + a]) (MI n np k m q) (MI n np k m (a + 1)) := by
  have hw : lets w ∧ 0 < w.length ∧ w.length ≤ 7 ∧ pkl w = kwN j := by
    rcases hwj with ⟨e, f, _⟩ | ⟨e, f, _⟩ <;> subst e <;> subst f
    · exact ⟨kw_lets.2.2.2.2.2.1, by decide, by decide, kw_pks.2.2.2.2.2.1⟩
    · exact ⟨kw_lets.2.2.2.2.2.2, by decide, by decide, kw_pks.2.2.2.2.2.2⟩
  obtain ⟨w1, w2, w3, w4⟩ := hw
  have go : ∀ {L p b ad W D z C E B S} {Q : Int32 → osS → Prop}, CXm G N x L b W → MW z x ad (Ws (Ws W 2 B) 4 S) D C E → tkC b L p C E → p ≤ L → (∀ i, kwb b L p i = decide (kwN j = kwN i)) → (∀ z1 C1 E1 a0, MW z1 x ad (Ws (Ws W 2 B) 4 S) D C1 E1 → tkC b L (tX b L p) C1 E1 → gx (qX3_readUnit N (x + 4) (ad 1) (ad 3) a0 kd G z1) (fun r z' => r = 1 ∧ Q 1 z')) → gx (qX3_readStatement N (x + 4) (ad 1) (ad 3) G z) Q := fun {L p b ad W D z C E B S Q} cx h tc hp hkw kk => by
    rcases hwj with ⟨_, f, g, _⟩ | ⟨_, f, g, _⟩ <;> subst f <;> subst g
    · exact y_stmt (u := kwN 5) cx h tc hp hkw (by simp) (fun e => (kw_ne e (by decide) (by decide) (by decide)).elim) (fun e => (kw_ne e (by decide) (by decide) (by decide)).elim) (fun e => (kw_ne e (by decide) (by decide) (by decide)).elim) (fun e => (kw_ne e (by decide) (by decide) (by decide)).elim) (fun e => (kw_ne e (by decide) (by decide) (by decide)).elim) (fun _ => kk) (fun e => (kw_ne e (by decide) (by decide) (by decide)).elim)
    · exact y_stmt (u := kwN 6) cx h tc hp hkw (by simp) (fun e => (kw_ne e (by decide) (by decide) (by decide)).elim) (fun e => (kw_ne e (by decide) (by decide) (by decide)).elim) (fun e => (kw_ne e (by decide) (by decide) (by decide)).elim) (fun e => (kw_ne e (by decide) (by decide) (by decide)).elim) (fun e => (kw_ne e (by decide) (by decide) (by decide)).elim) (fun e => (kw_ne e (by decide) (by decide) (by decide)).elim) (fun _ => kk)
  intro L b ad W D z C E B S p cx hb hl hI h tc
  obtain ⟨b0, b1, h16, h4⟩ := hI.b0
  obtain ⟨hqm, hM, hB, hu⟩ := id hI
  have e2 : (w ++ [32, 97 + (15 + p0), 32, 97 + a]).length = w.length + 4 := by simp
  rw [e2] at hl ⊢
  rw [List.append_assoc] at hb
  obtain ⟨k1, k2, k3, k4⟩ := kw_at (L := L) (r := [97 + (15 + p0), 32, 97 + a, 59]) w1 w2 w3 w4 hb (by omega)
  have hnu : nu S < 12 := by have := nu_lt hu (show q ≤ 16 by omega); omega
  have hu0 : uu S a = false := hu a (by omega) hq
  have hkd : (kd = 0 ∨ kd = 1) ∧ suit B a kd = true := by
    rcases hwj with ⟨_, _, g, h3⟩ | ⟨_, _, g, h6⟩ <;> subst g
    · exact ⟨Or.inl rfl, hM.2.2.2.2 a ha h3⟩
    · exact ⟨Or.inr rfl, hM.2.2.2.1 a ha h6⟩
  refine ⟨k3, go cx h tc (by omega) k1 (fun z1 C1 E1 a0 h1 t1 => ?_)⟩
  rw [k2] at t1
  refine gx_mono (y_unit (r := []) cx h1 t1 b0 h16 b1 h4 hM.1 hM.2.1 hp0 ha hnu hu0 hkd.2 k4 (by omega)) (fun r z' ⟨e, C2, E2, h2, t2⟩ => ⟨e, rfl, _, _, C2, E2, h2, by rw [← Nat.add_assoc]; exact t2, QMx_unit hqm ha ⟨p0, hp0, rfl⟩ hkd.1 hnu hu0, hM, hB, fun c hc hqc => ?_⟩)
  rw [uu_placed, if_neg (by omega)]
  exact hu c hc (by omega)
end
