/-! a State cleared, copied (by program) -/
theorem ge96 : ∀ {i : Nat}, i < 96 → ¬ ((96 : Int32) ≤ nI i) := by decide +kernel
theorem le96 : (96 : Int32) ≤ nI 96 := by decide +kernel
def stSO (a : Nat) (S : Nat → Nat → Int32) : Nat → Nat → Int32 := cset S 5 (upd (S 5) a (-1))
def stSR (a : Nat) (S : Nat → Nat → Int32) : Nat → Nat → Int32 := cset S 15 (upd (S 15) a 0)
def sclr0 (S : Nat → Nat → Int32) : Nat → Nat → Int32 := cset (cset (cset (cset (cset S 0 fun _ => (0 : Int32)) 1 fun _ => (1 : Int32)) 2 fun _ => (0 : Int32)) 3 fun _ => (0 : Int32)) 4 fun _ => (0 : Int32)
def sclr (S : Nat → Nat → Int32) : Nat → Nat → Int32 := osit (fun a W => stHA a W) 0 16 (osit (fun a W => stCD a W) 0 16 (osit (fun a W => stCU a W) 0 16 (osit (fun a W => stSR a W) 0 96 (osit (fun a W => stSO a W) 0 16 (sclr0 S)))))
theorem q_X5_clear_48 {G : osG} {z : osS} {N s : Nat} {S : Nat → Nat → Int32} (h : rX5 z s S) (hA : G.2.2.1 ≤ s) (hN : 96 < N) : gx (qX5_clear_48 N (s, nI 0) G z) (fun _ z' => osFr s (s + 12) z z' ∧ rX5 z' s (osit (fun a W => stHA a W) 0 16 (osit (fun a W => stCD a W) 0 16 (osit (fun a W => stCU a W) 0 16 (osit (fun a W => stSR a W) 0 96 S))))) := by
  unfold qX5_clear_48
  refine gx_loop 96 (fun i p z' => p = (s, nI i) ∧ osFr s (s + 12) z z' ∧ rX5 z' s (osit (fun a W => stSR a W) 0 i S)) ?_ ?_ N 0 _ z (Nat.zero_le _) (by omega) ⟨rfl, osFr.rf, h⟩
  · rintro ih a p z' h9 ⟨rfl, f_0, h_0⟩ k
    show gx (bX5_clear_48 N ih s (nI a) G z') _
    unfold bX5_clear_48
    refine gx_itef (ge96 h9) (gx_gR h_0.o (by decide) rfl (h_0.s15 rfl (by omega) hA (fun z1 f1 h1 => ?_)))
    rw [nI_1]
    exact k _ _ ⟨rfl, f_0.tr f1, by rw [osit_last, Nat.zero_add]; exact h1⟩
  · rintro ih p z' ⟨rfl, f_0, h_0⟩
    show gx (bX5_clear_48 N ih s (nI 96) G z') _
    unfold bX5_clear_48
    exact gx_itet le96 (gx_recvQ h_0.o (by decide) (q_X5_clearUnits h_0 hA (by omega)) (fun _ z1 ⟨f1, h1⟩ => gx_recvQ h1.o (by decide) (q_X5_clearDislodged h1 hA (by omega)) (fun _ z2 ⟨f2, h2⟩ => gx_recvQ h2.o (by decide) (q_X5_holdAll h2 hA (by omega)) (fun _ z3 ⟨f3, h3⟩ => gx_ret ⟨((f_0.tr f1).tr f2).tr f3, h3⟩))))
theorem q_X5_clear {G : osG} {z : osS} {N s : Nat} {S : Nat → Nat → Int32} (h : rX5 z s S) (hA : G.2.2.1 ≤ s) (hN : 96 < N) : gx (qX5_clear N s G z) (fun _ z' => osFr s (s + 12) z z' ∧ rX5 z' s (sclr S)) := by
  unfold qX5_clear
  refine h.p0 (by decide) hA (fun z1 f1 h1 => h1.p1 (by decide) hA (fun z2 f2 h2 => gx_guard (Or.inl rfl) (h2.p2 (by decide) hA (fun z3 f3 h3 => h3.p3 (by decide) hA (fun z4 f4 h4 => h4.p4 (by decide) hA (fun z5 f5 h5 => ?_))))))
  unfold qX5_clear_27
  refine gx_loop 16 (fun i p z' => p = (s, nI i) ∧ osFr s (s + 12) z z' ∧ rX5 z' s (osit (fun a W => stSO a W) 0 i (sclr0 S))) ?_ ?_ N 0 _ z5 (Nat.zero_le _) (by omega) ⟨rfl, (((f1.tr f2).tr f3).tr f4).tr f5, h5⟩
  · rintro ih a p z' h9 ⟨rfl, f_0, h_0⟩ k
    show gx (bX5_clear_27 N ih s (nI a) G z') _
    unfold bX5_clear_27
    refine gx_itef (ge16 h9) (gx_gR h_0.o (by decide) rfl (h_0.s5 rfl (by omega) hA (fun z1 f1 h1 => ?_)))
    rw [nI_1]
    exact k _ _ ⟨rfl, f_0.tr f1, by rw [osit_last, Nat.zero_add]; exact h1⟩
  · rintro ih p z' ⟨rfl, f_0, h_0⟩
    show gx (bX5_clear_27 N ih s (nI 16) G z') _
    unfold bX5_clear_27
    exact gx_itet le16 (gx_mono (q_X5_clear_48 h_0 hA hN) (fun _ z1 ⟨f1, h1⟩ => ⟨f_0.tr f1, h1⟩))
/-- a step that writes one place of one row, from what it doesn't write -/
def fl (f g : Nat → Int32) (n : Nat) : Nat → Int32 := fun a => if a < n then g a else f a
theorem fl_0 {f g : Nat → Int32} : fl f g 0 = f := by funext a; simp [fl]
theorem fl_s {f g : Nat → Int32} {n : Nat} : upd (fl f g n) n (g n) = fl f g (n + 1) := by
  funext a
  unfold upd fl
  by_cases e : a = n
  · subst e; simp
  · have : (a < n + 1) = (a < n) := by apply propext; omega
    simp [e, this]
theorem fl_in {f g : Nat → Int32} {n a : Nat} (h : a < n) : fl f g n a = g a := by simp [fl, h]
theorem fl_out {f g : Nat → Int32} {n a : Nat} (h : n ≤ a) : fl f g n a = f a := by unfold fl; rw [if_neg (by omega)]
theorem cset_same {α : Type} {C : Nat → Nat → α} {k : Nat} : cset C k (C k) = C := by funext j; unfold cset; split <;> simp_all
theorem upd_eq {f : Nat → Int32} {k : Nat} {x : Int32} : upd f k x k = x := by simp [upd]
theorem upd_ne {f : Nat → Int32} {k j : Nat} {x : Int32} (h : ¬ j = k) : upd f k x j = f j := by simp [upd, h]
theorem cf_CU {S : Nat → Nat → Int32} : ∀ n, osit (fun a W => stCU a W) 0 n S = (cset (cset S 6 (fl (S 6) (fun _ => -1) n)) 7 (fl (S 7) (fun _ => -1) n))
  | 0 => by rw [osit_zero]; funext k; simp only [fl_0]; unfold cset; (try split) <;> (try split) <;> simp_all
  | n + 1 => by
    rw [osit_last, cf_CU n, Nat.zero_add]
    funext k
    unfold stCU
    by_cases e6 : k = 6
    · subst e6; simp only [cset, reduceIte, Nat.reduceEqDiff]; exact fl_s (g := fun _ => -1)
    by_cases e7 : k = 7
    · subst e7; simp only [cset, reduceIte, Nat.reduceEqDiff]; exact fl_s (g := fun _ => -1)
    simp [cset, e6, e7]
theorem cf_CD {S : Nat → Nat → Int32} : ∀ n, osit (fun a W => stCD a W) 0 n S = (cset (cset (cset (cset S 8 (fl (S 8) (fun _ => -1) n)) 9 (fl (S 9) (fun _ => -1) n)) 10 (fl (S 10) (fun _ => -1) n)) 11 (fl (S 11) (fun _ => -1) n))
  | 0 => by rw [osit_zero]; funext k; simp only [fl_0]; unfold cset; (try split) <;> (try split) <;> (try split) <;> (try split) <;> simp_all
  | n + 1 => by
    rw [osit_last, cf_CD n, Nat.zero_add]
    funext k
    unfold stCD
    by_cases e8 : k = 8
    · subst e8; simp only [cset, reduceIte, Nat.reduceEqDiff]; exact fl_s (g := fun _ => -1)
    by_cases e9 : k = 9
    · subst e9; simp only [cset, reduceIte, Nat.reduceEqDiff]; exact fl_s (g := fun _ => -1)
    by_cases e10 : k = 10
    · subst e10; simp only [cset, reduceIte, Nat.reduceEqDiff]; exact fl_s (g := fun _ => -1)
    by_cases e11 : k = 11
    · subst e11; simp only [cset, reduceIte, Nat.reduceEqDiff]; exact fl_s (g := fun _ => -1)
    simp [cset, e8, e9, e10, e11]
theorem cf_HA {S : Nat → Nat → Int32} : ∀ n, osit (fun a W => stHA a W) 0 n S = (cset (cset (cset S 12 (fl (S 12) (fun _ => 0) n)) 13 (fl (S 13) (fun _ => -1) n)) 14 (fl (S 14) (fun _ => -1) n))
  | 0 => by rw [osit_zero]; funext k; simp only [fl_0]; unfold cset; (try split) <;> (try split) <;> (try split) <;> simp_all
  | n + 1 => by
    rw [osit_last, cf_HA n, Nat.zero_add]
    funext k
    unfold stHA ordered
    by_cases e12 : k = 12
    · subst e12; simp only [cset, reduceIte, Nat.reduceEqDiff]; exact fl_s (g := fun _ => 0)
    by_cases e13 : k = 13
    · subst e13; simp only [cset, reduceIte, Nat.reduceEqDiff]; exact fl_s (g := fun _ => -1)
    by_cases e14 : k = 14
    · subst e14; simp only [cset, reduceIte, Nat.reduceEqDiff]; exact fl_s (g := fun _ => -1)
    simp [cset, e12, e13, e14]
theorem cf_SO {S : Nat → Nat → Int32} : ∀ n, osit (fun a W => stSO a W) 0 n S = (cset S 5 (fl (S 5) (fun _ => -1) n))
  | 0 => by rw [osit_zero]; funext k; simp only [fl_0]; unfold cset; (try split) <;> simp_all
  | n + 1 => by
    rw [osit_last, cf_SO n, Nat.zero_add]
    funext k
    unfold stSO
    by_cases e5 : k = 5
    · subst e5; simp only [cset, reduceIte, Nat.reduceEqDiff]; exact fl_s (g := fun _ => -1)
    simp [cset, e5]
theorem cf_SR {S : Nat → Nat → Int32} : ∀ n, osit (fun a W => stSR a W) 0 n S = (cset S 15 (fl (S 15) (fun _ => 0) n))
  | 0 => by rw [osit_zero]; funext k; simp only [fl_0]; unfold cset; (try split) <;> simp_all
  | n + 1 => by
    rw [osit_last, cf_SR n, Nat.zero_add]
    funext k
    unfold stSR
    by_cases e15 : k = 15
    · subst e15; simp only [cset, reduceIte, Nat.reduceEqDiff]; exact fl_s (g := fun _ => 0)
    simp [cset, e15]
/-- rows that agree in their places -/
def eqS (S T : Nat → Nat → Int32) : Prop := (∀ k a, a < 16 → S k a = T k a) ∧ ∀ a, a < 96 → S 15 a = T 15 a
theorem q_copyRow {α : Type} {G : osG} {z : osS} {Q : α → osS → Prop} {F : Unit → osM α} {N a0 a n : Nat} {f g : Nat → Int32} (h0 : z.1 a0 = some (.inl (0, (n, .inl f)))) (h1 : z.1 a = some (.inl (0, (n, .inl g)))) (hn : n < 2 ^ 31) (hA : G.2.2.1 ≤ a) (kk : ∀ W : Nat → Int32, (∀ i, i < n → W i = f i) → gx (F () G (osup z a (.inl (0, (n, .inl W))))) Q) : gx (osbind (qX5_copyRow N a0 a) F G z) Q := by
  refine gx_callE ?_ (kk (va_cpy f g 0 0 n) (fun i hi => ?_))
  · refine gx_eq ?_
    unfold qX5_copyRow
    refine gx_len h0 (gx_len h1 (gx_callE (b := ()) ?_ (gx_ret ⟨rfl, rfl⟩)))
    show oscopy a0 0 a 0 (osmin (nI n) (nI n)) G z = _
    rw [osmin_nI hn hn, Nat.min_self]
    unfold oscopy
    rw [osga_of h0, osga_of h1]
    have e : (nI n).toNatClampNeg = n := nI_clamp hn
    have e2 : ¬ nI n < 0 := nI_pos hn
    show (if _ then _ else _) = _
    rw [if_pos (by rw [e]; exact ⟨by decide, by decide, e2, Nat.le_of_eq (Nat.zero_add n), Nat.le_of_eq (Nat.zero_add n), hA⟩), e]
    rfl
  · unfold va_cpy
    simp [hi]
theorem q_X5_copyFrom {G : osG} {z : osS} {N s t : Nat} {S U : Nat → Nat → Int32} (h : rX5 z s S) (hu : rX5 z t U) (hA : G.2.2.1 ≤ s) (hd : s + 12 ≤ t ∨ t + 12 ≤ s) (hb2 : U 2 0 = 0 ∨ U 2 0 = 1) : gx (qX5_copyFrom N s t G z) (fun _ z' => osFr s (s + 12) z z' ∧ ∃ W, rX5 z' s W ∧ (∀ k, k < 5 → W k 0 = U k 0) ∧ (∀ k, 5 ≤ k → k < 15 → ∀ a, a < 16 → W k a = U k a) ∧ ∀ a, a < 96 → W 15 a = U 15 a) := by
  unfold qX5_copyFrom
  refine gx_gI hu.o (by decide) rfl (h.p0 (by decide) hA (fun z1 f1 h1 => ?_))
  have u1 := hu.keep f1 (by omega)
  refine gx_gI u1.o (by decide) rfl ((h1.p1 (by decide) hA (fun z2 f2 h2 => ?_)))
  have u2 := u1.keep f2 (by omega)
  refine gx_gI u2.o (by decide) rfl (gx_guard hb2 (h2.p2 (by decide) hA (fun z3 f3 h3 => ?_)))
  have u3 := u2.keep f3 (by omega)
  refine gx_gI u3.o (by decide) rfl ((h3.p3 (by decide) hA (fun z4 f4 h4 => ?_)))
  have u4 := u3.keep f4 (by omega)
  refine gx_gI u4.o (by decide) rfl ((h4.p4 (by decide) hA (fun z5 f5 h5 => ?_)))
  have u5 := u4.keep f5 (by omega)
  refine gx_gR u5.o (by decide) rfl (gx_gR h5.o (by decide) rfl (q_copyRow u5.a5 h5.a5 (Nat.le_of_ble_eq_true rfl) (by omega) (fun W5 w5 => ?_)))
  have h6 := h5.w5 W5
  have u6 := u5.up (q := s + 1) (e := .inl (0, (16, .inl W5))) (by omega)
  refine gx_gR u6.o (by decide) rfl (gx_gR h6.o (by decide) rfl (q_copyRow u6.a6 h6.a6 (Nat.le_of_ble_eq_true rfl) (by omega) (fun W6 w6 => ?_)))
  have h7 := h6.w6 W6
  have u7 := u6.up (q := s + 2) (e := .inl (0, (16, .inl W6))) (by omega)
  refine gx_gR u7.o (by decide) rfl (gx_gR h7.o (by decide) rfl (q_copyRow u7.a7 h7.a7 (Nat.le_of_ble_eq_true rfl) (by omega) (fun W7 w7 => ?_)))
  have h8 := h7.w7 W7
  have u8 := u7.up (q := s + 3) (e := .inl (0, (16, .inl W7))) (by omega)
  refine gx_gR u8.o (by decide) rfl (gx_gR h8.o (by decide) rfl (q_copyRow u8.a8 h8.a8 (Nat.le_of_ble_eq_true rfl) (by omega) (fun W8 w8 => ?_)))
  have h9 := h8.w8 W8
  have u9 := u8.up (q := s + 4) (e := .inl (0, (16, .inl W8))) (by omega)
  refine gx_gR u9.o (by decide) rfl (gx_gR h9.o (by decide) rfl (q_copyRow u9.a9 h9.a9 (Nat.le_of_ble_eq_true rfl) (by omega) (fun W9 w9 => ?_)))
  have h10 := h9.w9 W9
  have u10 := u9.up (q := s + 5) (e := .inl (0, (16, .inl W9))) (by omega)
  refine gx_gR u10.o (by decide) rfl (gx_gR h10.o (by decide) rfl (q_copyRow u10.a10 h10.a10 (Nat.le_of_ble_eq_true rfl) (by omega) (fun W10 w10 => ?_)))
  have h11 := h10.w10 W10
  have u11 := u10.up (q := s + 6) (e := .inl (0, (16, .inl W10))) (by omega)
  refine gx_gR u11.o (by decide) rfl (gx_gR h11.o (by decide) rfl (q_copyRow u11.a11 h11.a11 (Nat.le_of_ble_eq_true rfl) (by omega) (fun W11 w11 => ?_)))
  have h12 := h11.w11 W11
  have u12 := u11.up (q := s + 7) (e := .inl (0, (16, .inl W11))) (by omega)
  refine gx_gR u12.o (by decide) rfl (gx_gR h12.o (by decide) rfl (q_copyRow u12.a12 h12.a12 (Nat.le_of_ble_eq_true rfl) (by omega) (fun W12 w12 => ?_)))
  have h13 := h12.w12 W12
  have u13 := u12.up (q := s + 8) (e := .inl (0, (16, .inl W12))) (by omega)
  refine gx_gR u13.o (by decide) rfl (gx_gR h13.o (by decide) rfl (q_copyRow u13.a13 h13.a13 (Nat.le_of_ble_eq_true rfl) (by omega) (fun W13 w13 => ?_)))
  have h14 := h13.w13 W13
  have u14 := u13.up (q := s + 9) (e := .inl (0, (16, .inl W13))) (by omega)
  refine gx_gR u14.o (by decide) rfl (gx_gR h14.o (by decide) rfl (q_copyRow u14.a14 h14.a14 (Nat.le_of_ble_eq_true rfl) (by omega) (fun W14 w14 => ?_)))
  have h15 := h14.w14 W14
  have u15 := u14.up (q := s + 10) (e := .inl (0, (16, .inl W14))) (by omega)
  refine gx_gR u15.o (by decide) rfl (gx_gR h15.o (by decide) rfl (q_copyRow u15.a15 h15.a15 (Nat.le_of_ble_eq_true rfl) (by omega) (fun W15 w15 => ?_)))
  have h16 := h15.w15 W15
  have u16 := u15.up (q := s + 11) (e := .inl (0, (96, .inl W15))) (by omega)
  refine gx_ret ⟨(((((((((((((((f1.tr f2).tr f3).tr f4).tr f5).up (by omega) (by omega)).up (by omega) (by omega)).up (by omega) (by omega)).up (by omega) (by omega)).up (by omega) (by omega)).up (by omega) (by omega)).up (by omega) (by omega)).up (by omega) (by omega)).up (by omega) (by omega)).up (by omega) (by omega)).up (by omega) (by omega)), _, h16, fun k hk => ?_, fun k hk1 hk2 a ha => ?_, fun a ha => w15 a ha⟩
  · rcases (show k = 0 ∨ k = 1 ∨ k = 2 ∨ k = 3 ∨ k = 4 by omega) with e | e | e | e | e <;> subst e <;> rfl
  · rcases (show k = 5 ∨ k = 6 ∨ k = 7 ∨ k = 8 ∨ k = 9 ∨ k = 10 ∨ k = 11 ∨ k = 12 ∨ k = 13 ∨ k = 14 by omega) with e | e | e | e | e | e | e | e | e | e <;> subst e
    · exact w5 a ha
    · exact w6 a ha
    · exact w7 a ha
    · exact w8 a ha
    · exact w9 a ha
    · exact w10 a ha
    · exact w11 a ha
    · exact w12 a ha
    · exact w13 a ha
    · exact w14 a ha
