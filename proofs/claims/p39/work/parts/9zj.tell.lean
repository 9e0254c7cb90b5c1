/-! tell, in both (by program) -/
section
variable {G : osG} {z : osS} {N x n np T L i : Nat} {ad : Nat → Nat} {W : Nat → Nat → Nat → Int32} {D D' : osS} {E : Nat → Nat → Int64} {b : Nat → Nat} {M0 M S C : Nat → Nat → Int32} {l : Int32}
end
section
variable {G : osG} {z : osS} {N x L : Nat} {ad : Nat → Nat} {W : Nat → Nat → Nat → Int32} {D : osS} {E : Nat → Nat → Int64} {b : Nat → Nat} {C : Nat → Nat → Int32}
theorem c_begin_X7 (hw : WD z x ad W D) (hb : txB b W) (hL : L ≤ 1000) (hA : G.2.2.1 ≤ x) (hN : 5000 < N) : gx (qX6_begin N (x + 6) (x + 1) (nI L) G z) (fun _ z' => ∃ C E, TW z' x ad W D C E ∧ tkC b L 0 C E ∧ C 8 0 = 0 ∧ C 9 0 = -1) := by
  obtain ⟨tb, A, B, h⟩ := hw.rd.2
  unfold qX6_begin
  refine gx_put h.o (by decide) (Nat.le_of_ble_eq_true rfl) (by omega) ?_
  have h1 := h.w0 (x + 1)
  have f1 : osFr (x + 6) (x + 6 + 1) z (osup z (x + 6) (.inr (6, (fX7 (x + 6) tb A B).set 0 (.ref (x + 1))))) := osFr.rf.up (by omega) (by omega)
  refine gx_len (f1.at (by omega) hw.x9.a0) (h1.p1 (by decide) (by omega) (fun z2 f2 h2 => h2.p3 (by decide) (by omega) (fun z3 f3 h3 => h3.p8 (by decide) (by omega) (fun z4 f4 h4 => h4.p9 (by decide) (by omega) (fun z5 f5 h5 => ?_)))))
  have fr := f1.tr (f2.tr (f3.tr (f4.tr f5)))
  refine gx_recvQ h5.o (by decide) (adv_X7 (L := L) (i := 0) h5 (fr.at (by omega) hw.x9.a0) hb hL (Nat.zero_le _) (by omega) (by omega) hN rfl ?_) (fun _ z6 ⟨f6, C6, E6, h6, t6, k7, k8, k9⟩ => gx_ret ⟨C6, E6, hw.r7 (fr.tr f6) h6, t6, ?_, ?_⟩)
  · show osmin (nI L) (nI 1000) = nI L
    rw [osmin_nI (by omega) (by omega), Nat.min_eq_left hL]
  · rw [k8]; rfl
  · rw [k9]; rfl
theorem c_note_X7 (h : TW z x ad W D C E) (hA : G.2.2.1 ≤ x) : gx (qX9_noteError N x (x + 6) G z) (fun _ z' => TW z' x ad (Ws W 0 (cset (cset (W 0) 3 fun _ => C 8 0) 4 fun _ => C 9 0)) D C E) := by
  unfold qX9_noteError
  refine gx_gI h.2.o (by decide) rfl (h.1.x9.p3 (by decide) hA (fun z1 f1 h1 => ?_))
  have w1 := h.1.c9 f1 h1
  have r1 := h.2.keep f1 (by omega)
  refine gx_gI r1.o (by decide) rfl (w1.x9.p4 (by decide) hA (fun z2 f2 h2 => gx_ret ⟨?_, r1.keep f2 (by omega)⟩))
  have := w1.c9 f2 h2
  rw [Ws_ws, Ws_eq] at this
  exact this
end
section
variable {G : osG} {z : osS} {N x L : Nat} {ad : Nat → Nat} {W : Nat → Nat → Nat → Int32} {D : osS} {E : Nat → Nat → Int64} {b : Nat → Nat} {C : Nat → Nat → Int32}
theorem c_begin_X3 (hw : WD z x ad W D) (hb : txB b W) (hL : L ≤ 1000) (hA : G.2.2.1 ≤ x) (hN : 5000 < N) : gx (qX6_begin N (x + 4) (x + 1) (nI L) G z) (fun _ z' => ∃ C E, MW z' x ad W D C E ∧ tkC b L 0 C E ∧ C 8 0 = 0 ∧ C 9 0 = -1) := by
  obtain ⟨tb, A, B, h⟩ := hw.rd.1
  unfold qX6_begin
  refine gx_put h.o (by decide) (Nat.le_of_ble_eq_true rfl) (by omega) ?_
  have h1 := h.w0 (x + 1)
  have f1 : osFr (x + 4) (x + 4 + 1) z (osup z (x + 4) (.inr (3, (fX3 (x + 4) tb A B).set 0 (.ref (x + 1))))) := osFr.rf.up (by omega) (by omega)
  refine gx_len (f1.at (by omega) hw.x9.a0) (h1.p1 (by decide) (by omega) (fun z2 f2 h2 => h2.p3 (by decide) (by omega) (fun z3 f3 h3 => h3.p8 (by decide) (by omega) (fun z4 f4 h4 => h4.p9 (by decide) (by omega) (fun z5 f5 h5 => ?_)))))
  have fr := f1.tr (f2.tr (f3.tr (f4.tr f5)))
  refine gx_recvQ h5.o (by decide) (adv_X3 (L := L) (i := 0) h5 (fr.at (by omega) hw.x9.a0) hb hL (Nat.zero_le _) (by omega) (by omega) hN rfl ?_) (fun _ z6 ⟨f6, C6, E6, h6, t6, k7, k8, k9⟩ => gx_ret ⟨C6, E6, hw.r3 (fr.tr f6) h6, t6, ?_, ?_⟩)
  · show osmin (nI L) (nI 1000) = nI L
    rw [osmin_nI (by omega) (by omega), Nat.min_eq_left hL]
  · rw [k8]; rfl
  · rw [k9]; rfl
theorem c_note_X3 (h : MW z x ad W D C E) (hA : G.2.2.1 ≤ x) : gx (qX9_noteError N x (x + 4) G z) (fun _ z' => MW z' x ad (Ws W 0 (cset (cset (W 0) 3 fun _ => C 8 0) 4 fun _ => C 9 0)) D C E) := by
  unfold qX9_noteError
  refine gx_gI h.2.o (by decide) rfl (h.1.x9.p3 (by decide) hA (fun z1 f1 h1 => ?_))
  have w1 := h.1.c9 f1 h1
  have r1 := h.2.keep f1 (by omega)
  refine gx_gI r1.o (by decide) rfl (w1.x9.p4 (by decide) hA (fun z2 f2 h2 => gx_ret ⟨?_, r1.keep f2 (by omega)⟩))
  have := w1.c9 f2 h2
  rw [Ws_ws, Ws_eq] at this
  exact this
end
