/-! the law's own steps (4): the reads of the face -/
section
variable {α : Type} {G : osG} {z : osS} {N x n np T a b c : Nat} {ad : Nat → Nat} {W : Nat → Nat → Nat → Int32} {D : osS} {Q : α → osS → Prop}
theorem l_areas {f : Int32 → osM α} (hw : WD z x ad W D) (h0 : W 1 0 0 = nI n) (k : gx (f (nI n) G z) Q) : gx (osbind (osrecv [7] x (qX9_areas N x)) f G z) Q := by
  refine gx_bind (gx_recv hw.x9.o (by decide) ?_)
  unfold qX9_areas
  exact gx_gR hw.x9.o (by decide) rfl (gx_gI hw.bd.o (by decide) rfl (gx_ret (by rw [h0]; exact k)))
theorem l_powers {f : Int32 → osM α} (hw : WD z x ad W D) (h0 : W 1 1 0 = nI np) (k : gx (f (nI np) G z) Q) : gx (osbind (osrecv [7] x (qX9_powers N x)) f G z) Q := by
  refine gx_bind (gx_recv hw.x9.o (by decide) ?_)
  unfold qX9_powers
  exact gx_gR hw.x9.o (by decide) rfl (gx_gI hw.bd.o (by decide) rfl (gx_ret (by rw [h0]; exact k)))
theorem l_phase {f : Int32 → osM α} (hw : WD z x ad W D) (k : gx (f (W 3 0 0) G z) Q) : gx (osbind (osrecv [7] x (qX9_phase N x)) f G z) Q := by
  refine gx_bind (gx_recv hw.x9.o (by decide) ?_)
  unfold qX9_phase
  exact gx_gR hw.x9.o (by decide) rfl (gx_gI hw.nw.o (by decide) rfl (gx_ret k))
theorem l_turn {f : Int32 → osM α} (hw : WD z x ad W D) (k : gx (f (W 3 1 0) G z) Q) : gx (osbind (osrecv [7] x (qX9_turn N x)) f G z) Q := by
  refine gx_bind (gx_recv hw.x9.o (by decide) ?_)
  unfold qX9_turn
  exact gx_gR hw.x9.o (by decide) rfl (gx_gI hw.nw.o (by decide) rfl (gx_ret k))
theorem l_undoCount {f : Int32 → osM α} (hw : WD z x ad W D) (k : gx (f (W 0 9 0) G z) Q) : gx (osbind (osrecv [7] x (qX9_undoCount N x)) f G z) Q := by
  refine gx_bind (gx_recv hw.x9.o (by decide) ?_)
  unfold qX9_undoCount
  exact gx_gI hw.x9.o (by decide) rfl (gx_ret k)
/-- what area answers -/
def arV (W : Nat → Nat → Nat → Int32) (a c : Nat) : Int32 := if c = 2 then W 1 6 a else W 3 (c + 2) a
theorem l_area {f : Int32 → osM α} {v w : Int32} (hw : WD z x ad W D) (h0 : W 1 0 0 = nI n) (h16 : n ≤ 16) (ha : a < n) (hc : 2 ≤ c) (hc8 : c < 8) (ev : v = nI a) (ew : w = nI c) (k : gx (f (arV W a c) G z) Q) : gx (osbind (osrecv [7] x (osRV (qX9_area N x v w))) f G z) Q := by
  subst ev; subst ew
  have ha16 : a < 16 := by omega
  refine gx_bind (gx_recv hw.x9.o (by decide) (gx_RV ?_))
  unfold qX9_area
  refine gx_reqA hw h0 h16 (fun q => by rw [aB_nI (by omega) ha] at q; cases q) (fun _ => gx_reqR hw (q := 8) rfl (fun q => by rw [aB_nI (by omega) hc8] at q; cases q) (fun _ => ?_))
  rcases (show c = 2 ∨ c = 3 ∨ c = 4 ∨ c = 5 ∨ c = 6 ∨ c = 7 by omega) with e | e | e | e | e | e <;> subst e
  · exact gx_swN (c := 2) (Nat.le_of_ble_eq_true rfl) (by omega) (gx_gR hw.x9.o (by decide) rfl (gx_gR hw.bd.o (by decide) rfl (gx_callE (q_entryN hw.bd.a6 ha16 (by omega)) (gx_Rt (gx_ret ⟨_, rfl, k⟩)))))
  · exact gx_swN (c := 3) (Nat.le_of_ble_eq_true rfl) (by omega) (gx_gR hw.x9.o (by decide) rfl (gx_gR hw.nw.o (by decide) rfl (gx_callE (q_entryN hw.nw.a5 ha16 (by omega)) (gx_Rt (gx_ret ⟨_, rfl, k⟩)))))
  · exact gx_swN (c := 4) (Nat.le_of_ble_eq_true rfl) (by omega) (gx_gR hw.x9.o (by decide) rfl (gx_gR hw.nw.o (by decide) rfl (gx_callE (q_entryN hw.nw.a6 ha16 (by omega)) (gx_Rt (gx_ret ⟨_, rfl, k⟩)))))
  · exact gx_swN (c := 5) (Nat.le_of_ble_eq_true rfl) (by omega) (gx_gR hw.x9.o (by decide) rfl (gx_gR hw.nw.o (by decide) rfl (gx_callE (q_entryN hw.nw.a7 ha16 (by omega)) (gx_Rt (gx_ret ⟨_, rfl, k⟩)))))
  · exact gx_swN (c := 6) (Nat.le_of_ble_eq_true rfl) (by omega) (gx_gR hw.x9.o (by decide) rfl (gx_gR hw.nw.o (by decide) rfl (gx_callE (q_entryN hw.nw.a8 ha16 (by omega)) (gx_Rt (gx_ret ⟨_, rfl, k⟩)))))
  · exact gx_swD (c := 7) (Nat.le_refl 7) (by omega) (gx_gR hw.x9.o (by decide) rfl (gx_gR hw.nw.o (by decide) rfl (gx_callE (q_entryN hw.nw.a9 ha16 (by omega)) (gx_Rt (gx_ret ⟨_, rfl, k⟩)))))
theorem l_order {f : Int32 → osM α} {v w : Int32} (hw : WD z x ad W D) (h0 : W 1 0 0 = nI n) (h16 : n ≤ 16) (ha : a < n) (hu : uu (W 3) a = true) (ph : W 3 0 0 = 0) (hc : c < 2) (ev : v = nI a) (ew : w = nI c) (k : gx (f (W 3 (12 + c) a) G z) Q) : gx (osbind (osrecv [7] x (osRV (qX9_order N x v w))) f G z) Q := by
  subst ev; subst ew
  have ha16 : a < 16 := by omega
  refine gx_bind (gx_recv hw.x9.o (by decide) (gx_RV ?_))
  unfold qX9_order
  have hub : uB n (W 3) (nI a) = true := by
    unfold uB
    rw [aB_nI (by omega) ha, show tn (nI a) = a from nI_clamp (by omega), hu]; rfl
  refine gx_reqU hw h0 h16 (fun q => by rw [hub] at q; cases q) (fun _ => gx_reqR hw (q := 3) rfl (fun q => by rw [aB_nI (by omega) (show c < 3 by omega)] at q; cases q) (fun _ => gx_reqPh hw (fun q => absurd ph q) (fun _ => ?_)))
  rcases (show c = 0 ∨ c = 1 by omega) with e | e <;> subst e
  · exact gx_itet rfl (gx_gR hw.x9.o (by decide) rfl (gx_gR hw.nw.o (by decide) rfl (gx_callE (q_entryN hw.nw.a12 ha16 (by omega)) (gx_Rt (gx_ret ⟨_, rfl, k⟩)))))
  · exact gx_itef (by decide) (gx_itet rfl (gx_gR hw.x9.o (by decide) rfl (gx_gR hw.nw.o (by decide) rfl (gx_callE (q_entryN hw.nw.a13 ha16 (by omega)) (gx_Rt (gx_ret ⟨_, rfl, k⟩))))))
theorem l_result {f : Int32 → osM α} {v w : Int32} (hw : WD z x ad W D) (h0 : W 1 0 0 = nI n) (h16 : n ≤ 16) (ha : a < n) (hs : ¬ W 3 2 0 = 0) (hc : c < 6) (ev : v = nI a) (ew : w = nI c) (k : gx (f (W 3 15 (6 * a + c)) G z) Q) : gx (osbind (osrecv [7] x (osRV (qX9_result N x v w))) f G z) Q := by
  subst ev; subst ew
  have ha16 : a < 16 := by omega
  refine gx_bind (gx_recv hw.x9.o (by decide) (gx_RV ?_))
  unfold qX9_result
  refine gx_reqA hw h0 h16 (fun q => by rw [aB_nI (by omega) ha] at q; cases q) (fun _ => gx_reqR hw (q := 6) rfl (fun q => by rw [aB_nI (by omega) hc] at q; cases q) (fun _ => gx_reqS hw (fun q => absurd q hs) (fun _ => ?_)))
  refine gx_gR hw.x9.o (by decide) rfl (gx_gR hw.nw.o (by decide) rfl (gx_callE (q_entryE (i := 6 * a + c) hw.nw.a15 ?_ (by omega) (by omega)) (gx_Rt (gx_ret ⟨_, rfl, k⟩))))
  rw [show nI a * (6 : Int32) = nI (a * 6) from nI_prod (a := a) (b := 6) rfl rfl, nI_add, Nat.mul_comm]
theorem l_isContested {f : Int32 → osM α} {v : Int32} (hw : WD z x ad W D) (h0 : W 1 0 0 = nI n) (h16 : n ≤ 16) (ha : a < n) (hs : ¬ W 3 2 0 = 0) (ev : v = nI a) (k : gx (f (b2i (bt (W 3 4 0) a)) G z) Q) : gx (osbind (osrecv [7] x (osRV (qX9_isContested N x v))) f G z) Q := by
  subst ev
  have ha16 : a < 16 := by omega
  refine gx_bind (gx_recv hw.x9.o (by decide) (gx_RV ?_))
  unfold qX9_isContested
  refine gx_reqA hw h0 h16 (fun q => by rw [aB_nI (by omega) ha] at q; cases q) (fun _ => gx_reqS hw (fun q => absurd q hs) (fun _ => ?_))
  exact gx_gR hw.x9.o (by decide) rfl (gx_gI hw.nw.o (by decide) rfl (gx_callE (q_hasN (by omega)) (gx_Rt (gx_retZ (b2i_01 _) ⟨_, rfl, k⟩))))
theorem l_passes {f : Int32 → osM α} {v w : Int32} {u : Int32} (hw : WD z x ad W D) (h0 : W 1 0 0 = nI n) (h16 : n ≤ 16) (ha : a < n) (hb : b < n) (hu : u = 0 ∨ u = 1) (ev : v = nI a) (ew : w = nI b) (k : gx (f (b2i (bt (bd (W 1) a u) b)) G z) Q) : gx (osbind (osrecv [7] x (osRV (qX9_passes N x v w u))) f G z) Q := by
  subst ev; subst ew
  have ha16 : a < 16 := by omega
  have hb16 : b < 16 := by omega
  refine gx_bind (gx_recv hw.x9.o (by decide) (gx_RV ?_))
  unfold qX9_passes qX9_passes_25
  refine gx_reqA hw h0 h16 (fun q => by rw [aB_nI (by omega) ha] at q; cases q) (fun _ => gx_reqA hw h0 h16 (fun q => by rw [aB_nI (by omega) hb] at q; cases q) (fun _ => gx_gR hw.x9.o (by decide) rfl ?_))
  rcases hu with e | e <;> subst e
  · exact gx_itet rfl (gx_recvE hw.bd.o (by decide) (q_letsPass hw.bd ha16 hb16) (gx_Rt (gx_retZ (b2i_01 _) ⟨_, rfl, k⟩)))
  · exact gx_itef (by decide) (gx_recvE hw.bd.o (by decide) (q_letsPass hw.bd ha16 hb16) (gx_Rt (gx_retZ (b2i_01 _) ⟨_, rfl, k⟩)))
/-- the law's own question whether a unit may go back there -/
theorem q_L_may {v w : Int32} {Q : Int32 → osS → Prop} (hw : WD z x ad W D) (h0 : W 1 0 0 = nI n) (h16 : n ≤ 16) (ha : a < n) (hb : b < n) (hd : ds (W 3) a = true) (ev : v = nI a) (ew : w = nI b) (k : Q (b2i (aRt (W 1) (W 3) a b)) z) : gx (qL_may N x v w G z) Q := by
  subst ev; subst ew
  have ha16 : a < 16 := by omega
  have hb16 : b < 16 := by omega
  unfold qL_may
  refine gx_bindC (gx_recv hw.x9.o (by decide) ?_)
  unfold qX9_mayRetreat
  refine gx_reqA hw h0 h16 (fun q => by rw [aB_nI (by omega) ha] at q; cases q) (fun _ => gx_reqA hw h0 h16 (fun q => by rw [aB_nI (by omega) hb] at q; cases q) (fun _ => gx_gR hw.x9.o (by decide) rfl (gx_recvE hw.nw.o (by decide) (q_hasDislodgedN hw.nw ha16) ?_)))
  rw [show (!decide (W 3 8 a = -1)) = true from hd]
  refine gx_itef (by decide) (gx_gR hw.x9.o (by decide) rfl (gx_gR hw.x9.o (by decide) rfl (gx_recvE hw.nw.o (by decide) (q_X5_allowsRetreat hw.nw hw.bd ha16 hb16) (gx_Rt (gx_retZ (b2i_01 _) ?_)))))
  exact gx_retZ (b2i_01 _) k
end
