/-! the reference's settling: what is said of an area; the same of the class (by program) -/
def exW (C S : Nat → Nat → Int32) (sea : Bool) (X : Nat → Bool) (a : Nat) : Nat → Int32
  | 0 => if uu S a = true then (if mv S a = true then (if X a = true then 1 else 2) else if spg S a = true then (if gvn C S sea X a = true then 3 else 4) else 5) else 0
  | 1 => if disl S X a = true then 1 else 0
  | 2 => if uu S a = true then nI (str C S sea X a) else 0
  | 3 => if mv S a = true then nI (att C S sea X a) else 0
  | 4 => if mv S a = true then (if X a = true then 0 else if pth C S sea X a = true then (if rsi C S sea X a < att C S sea X a then 3 else 2) else 1) else 0
  | _ => if (pth C S sea X a && !dm C S a) = true then 1 else 0
theorem exV_eq {C S L J : Nat → Nat → Int32} {o : Int32} {sea : Bool} (hk : LK C S L) (ho : okO S) (w : WJ C S sea o J) {a v : Nat} (ha : a < 16) (hv : v < 6) : exV L J a v = exW C S sea (bt o) a v := by
  have hu : bt (L 0 0) a = uu S a := by rw [hk.u (by omega)]; simp [ha]
  have hm : bt (L 1 0) a = mv S a := by rw [hk.m (by omega)]; simp [ha]
  have hd : bt (L 2 0) a = dm C S a := by rw [hk.d (by omega)]; simp [ha]
  have hs : bt (L 4 0) a = spg S a := by rw [hk.sp (by omega)]; simp [ha]
  have hp : bt (J 2 0) a = pth C S sea (bt o) a := by rw [w.2.1 a (by omega)]; simp [ha]
  have hg : bt (J 3 0) a = gvn C S sea (bt o) a := by rw [w.2.2.1 a (by omega)]; simp [ha]
  have hi : bt (J 6 0) a = disl S (bt o) a := by rw [w.2.2.2 a (by omega)]; simp [ha]
  have h5 : J 5 0 = o := w.1
  rcases (show v = 0 ∨ v = 1 ∨ v = 2 ∨ v = 3 ∨ v = 4 ∨ v = 5 by omega) with e | e | e | e | e | e <;> subst e
  · show jSum L J a = _
    unfold jSum
    rw [hu, hm, hs, hg, h5]; rfl
  · show (if bt (J 6 0) a = true then (1 : Int32) else 0) = _
    rw [hi]; rfl
  · show (if bt (L 0 0) a = true then jStr L J a else 0) = _
    rw [hu, jStr_eq hk w ha]; rfl
  · show (if bt (L 1 0) a = true then jAtt L J a else 0) = if mv S a = true then nI (att C S sea (bt o) a) else 0
    rw [hm]
    cases h : mv S a
    · rfl
    · rw [if_pos rfl, if_pos rfl, jAtt_eq hk ho w ha h]
  · show (if bt (L 1 0) a = true then (if bt (J 5 0) a = true then (0 : Int32) else jRsn L J a) else 0) = if mv S a = true then (if bt o a = true then (0 : Int32) else if pth C S sea (bt o) a = true then (if rsi C S sea (bt o) a < att C S sea (bt o) a then 3 else 2) else 1) else 0
    rw [hm, h5]
    cases h : mv S a
    · rfl
    · rw [if_pos rfl, if_pos rfl]
      unfold jRsn
      rw [hp, jAtt_eq hk ho w ha h, jRes_eq hk ho w ha h]
      have b1 := att_le (C := C) (S := S) (sea := sea) (X := bt o) (a := a)
      have b2 := rsi_le (C := C) (S := S) (sea := sea) (X := bt o) (a := a)
      have e : (if nI (att C S sea (bt o) a) ≤ nI (rsi C S sea (bt o) a) then (2 : Int32) else 3) = if rsi C S sea (bt o) a < att C S sea (bt o) a then 3 else 2 := by
        by_cases q : rsi C S sea (bt o) a < att C S sea (bt o) a
        · rw [if_pos q, if_neg (fun x => by have := (nI_leI (by omega) (by omega)).mp x; omega)]
        · rw [if_neg q, if_pos ((nI_leI (by omega) (by omega)).mpr (by omega))]
      rw [e]
  · show (if bt (J 2 0 &&& (L 2 0 ^^^ (-1 : Int32))) a = true then (1 : Int32) else 0) = _
    rw [b_and, b_not (by omega), hp, hd]; rfl
section
variable {G : osG} {z : osS} {N m n a : Nat} {C S M : Nat → Nat → Int32} {D : Nat → Nat → Int64} {sea : Bool}
theorem q_X10_reasonOf (hm : rX10 z m M D) (hc : cpS C S M n) (ht : mvT C S M) (hs : saT C S M n sea) (ha : a < 16) (hma : mv S a = true) : qX10_reasonOf N m (nI (ix S a)) G z = some (if pth C S sea (oX S (M 28 0)) a = true then (if rsi C S sea (oX S (M 28 0)) a < att C S sea (oX S (M 28 0)) a then 3 else 2) else 1, z) := by
  have h12 := hc.m12
  have hl := ix_lt ha hma
  refine gx_eq ?_
  unfold qX10_reasonOf qX10_reasonOf_26
  refine gx_gI hm.o (by decide) rfl (gx_callE (q_X10_has (by omega) rfl) ?_)
  rw [hs.2.1 a ha hma]
  refine gx_iteB (fun c => gx_ret ⟨?_, rfl⟩) (fun c => gx_recvE hm.o (by decide) (q_X10_isStronger hm hc ht hs ha hma) (gx_iteD (fun c2 => gx_ret ⟨?_, rfl⟩) (fun c2 => gx_ret ⟨?_, rfl⟩)))
  · rw [c]; rfl
  · rw [c, if_pos rfl, if_neg c2]
  · rw [c, if_pos rfl, if_pos c2]
theorem q_X10_said_53 (hm : rX10 z m M D) (hc : cpS C S M n) (ht : mvT C S M) (hs : saT C S M n sea) (ha : a < n) {w : Nat} (hw : w < 6) : qX10_said_53 N m (nI a) (nI w) (M 24 a) (b2i (uu S a)) (b2i (spg S a)) G z = some (exW C S sea (oX S (M 28 0)) a w, z) := by
  have h12 := hc.m12
  have h16 := hc.n16
  have ha16 : a < 16 := by omega
  have hdi : bt (M 29 0) a = disl S (oX S (M 28 0)) a := by rw [hs.1 a (by omega)]; simp [ha16]
  have hgv : bt (M 31 0) a = gvn C S sea (oX S (M 28 0)) a := by rw [hs.2.2.1 a (by omega)]; simp [ha16]
  have h24 := ht.1.2.1 a ha16
  refine gx_eq ?_
  have one : gx (qX10_said_53 N m (nI a) (nI 1) (M 24 a) (b2i (uu S a)) (b2i (spg S a)) G z) (fun v z' => v = exW C S sea (oX S (M 28 0)) a 1 ∧ z' = z) := by
    unfold qX10_said_53
    (repeat (first | unfold qX10_said_148 | unfold qX10_said_113 | unfold qX10_said_165 | unfold qX10_said_186 | unfold qX10_said_202 | unfold qX10_said_219 | unfold qX10_said_228 | unfold qX10_said_258 | unfold qX10_said_259))
    refine gx_sw5_1 (gx_gI hm.o (by decide) rfl (gx_callE (q_X10_has (by omega) rfl) ?_))
    rw [hdi]
    refine gx_iteB (fun c => gx_ret ⟨?_, rfl⟩) (fun c => gx_ret ⟨?_, rfl⟩)
    · show (0 : Int32) = if disl S (oX S (M 28 0)) a = true then 1 else 0
      rw [c]; rfl
    · show (1 : Int32) = if disl S (oX S (M 28 0)) a = true then 1 else 0
      rw [c]; rfl
  cases hma : mv S a
  · rw [hma] at h24
    have h24 : M 24 a = -1 := h24
    have hpt : (pth C S sea (oX S (M 28 0)) a && !dm C S a) = false := by
      unfold pth dm
      rw [hma]; simp
    rcases (show w = 0 ∨ w = 1 ∨ w = 2 ∨ w = 3 ∨ w = 4 ∨ w = 5 by omega) with e | e | e | e | e | e <;> subst e
    · rw [h24]
      show gx _ (fun v z' => v = (if uu S a = true then (if mv S a = true then (if oX S (M 28 0) a = true then (1 : Int32) else 2) else if spg S a = true then (if gvn C S sea (oX S (M 28 0)) a = true then 3 else 4) else 5) else 0) ∧ z' = z)
      unfold qX10_said_53
      (repeat (first | unfold qX10_said_148 | unfold qX10_said_113 | unfold qX10_said_165 | unfold qX10_said_186 | unfold qX10_said_202 | unfold qX10_said_219 | unfold qX10_said_228 | unfold qX10_said_258 | unfold qX10_said_259))
      refine gx_sw5_0 (gx_itet rfl (gx_iteB (fun c => gx_ret ⟨?_, rfl⟩) (fun c => gx_iteB (fun c2 => gx_ret ⟨?_, rfl⟩) (fun c2 => gx_gI hm.o (by decide) rfl (gx_callE (q_X10_has (by omega) rfl) ?_)))))
      · rw [c]; rfl
      · rw [c, c2, hma]; rfl
      · rw [hgv]
        refine gx_iteB (fun c3 => gx_ret ⟨?_, rfl⟩) (fun c3 => gx_ret ⟨?_, rfl⟩)
        · rw [c, c2, hma, c3]; rfl
        · rw [c, c2, hma, c3]; rfl
    · exact one
    · rw [h24]
      show gx _ (fun v z' => v = (if uu S a = true then nI (str C S sea (oX S (M 28 0)) a) else 0) ∧ z' = z)
      unfold qX10_said_53
      (repeat (first | unfold qX10_said_148 | unfold qX10_said_113 | unfold qX10_said_165 | unfold qX10_said_186 | unfold qX10_said_202 | unfold qX10_said_219 | unfold qX10_said_228 | unfold qX10_said_258 | unfold qX10_said_259))
      refine gx_sw5_2 (gx_itet rfl (gx_gR hm.o (by decide) rfl (gx_aE hm.a35 rfl ha16 (Nat.le_of_ble_eq_true rfl) (gx_ret ⟨?_, rfl⟩))))
      rw [hs.2.2.2.2.2 a ha]
      unfold hld
      rw [hma]
      cases uu S a <;> rfl
    · rw [h24]
      show gx _ (fun v z' => v = (if mv S a = true then nI (att C S sea (oX S (M 28 0)) a) else 0) ∧ z' = z)
      unfold qX10_said_53
      (repeat (first | unfold qX10_said_148 | unfold qX10_said_113 | unfold qX10_said_165 | unfold qX10_said_186 | unfold qX10_said_202 | unfold qX10_said_219 | unfold qX10_said_228 | unfold qX10_said_258 | unfold qX10_said_259))
      exact gx_sw5_3 (gx_itet rfl (gx_ret ⟨by rw [hma]; rfl, rfl⟩))
    · rw [h24]
      show gx _ (fun v z' => v = (if mv S a = true then (if oX S (M 28 0) a = true then (0 : Int32) else if pth C S sea (oX S (M 28 0)) a = true then (if rsi C S sea (oX S (M 28 0)) a < att C S sea (oX S (M 28 0)) a then 3 else 2) else 1) else 0) ∧ z' = z)
      unfold qX10_said_53
      (repeat (first | unfold qX10_said_148 | unfold qX10_said_113 | unfold qX10_said_165 | unfold qX10_said_186 | unfold qX10_said_202 | unfold qX10_said_219 | unfold qX10_said_228 | unfold qX10_said_258 | unfold qX10_said_259))
      exact gx_sw5_4 (gx_itet rfl (gx_ret ⟨by rw [hma]; rfl, rfl⟩))
    · rw [h24]
      show gx _ (fun v z' => v = (if (pth C S sea (oX S (M 28 0)) a && !dm C S a) = true then (1 : Int32) else 0) ∧ z' = z)
      unfold qX10_said_53
      (repeat (first | unfold qX10_said_148 | unfold qX10_said_113 | unfold qX10_said_165 | unfold qX10_said_186 | unfold qX10_said_202 | unfold qX10_said_219 | unfold qX10_said_228 | unfold qX10_said_258 | unfold qX10_said_259))
      exact gx_sw5_5 (gx_itet rfl (gx_ret ⟨by rw [hpt]; rfl, rfl⟩))
  · rw [hma] at h24
    have h24 : M 24 a = nI (ix S a) := h24
    have hl := ix_lt ha16 hma
    have hn1 : ¬ nI (ix S a) = -1 := nI_m1 (by omega)
    have hx : bt (M 28 0) (ix S a) = oX S (M 28 0) a := by rw [oX_in ha16, hma, Bool.true_and]
    have hu := mv_uu hma
    rcases (show w = 0 ∨ w = 1 ∨ w = 2 ∨ w = 3 ∨ w = 4 ∨ w = 5 by omega) with e | e | e | e | e | e <;> subst e
    · rw [h24]
      show gx _ (fun v z' => v = (if uu S a = true then (if mv S a = true then (if oX S (M 28 0) a = true then (1 : Int32) else 2) else if spg S a = true then (if gvn C S sea (oX S (M 28 0)) a = true then 3 else 4) else 5) else 0) ∧ z' = z)
      unfold qX10_said_53
      (repeat (first | unfold qX10_said_148 | unfold qX10_said_113 | unfold qX10_said_165 | unfold qX10_said_186 | unfold qX10_said_202 | unfold qX10_said_219 | unfold qX10_said_228 | unfold qX10_said_258 | unfold qX10_said_259))
      refine gx_sw5_0 (gx_itef hn1 (gx_gI hm.o (by decide) rfl (gx_callE (q_X10_has (by omega) rfl) ?_)))
      rw [hx]
      refine gx_iteB (fun c => gx_ret ⟨?_, rfl⟩) (fun c => gx_ret ⟨?_, rfl⟩)
      · rw [hu, hma, c]; rfl
      · rw [hu, hma, c]; rfl
    · exact one
    · rw [h24]
      show gx _ (fun v z' => v = (if uu S a = true then nI (str C S sea (oX S (M 28 0)) a) else 0) ∧ z' = z)
      unfold qX10_said_53
      (repeat (first | unfold qX10_said_148 | unfold qX10_said_113 | unfold qX10_said_165 | unfold qX10_said_186 | unfold qX10_said_202 | unfold qX10_said_219 | unfold qX10_said_228 | unfold qX10_said_258 | unfold qX10_said_259))
      refine gx_sw5_2 (gx_itef hn1 (gx_gR hm.o (by decide) rfl (gx_aE hm.a32 rfl (by omega) (Nat.le_of_ble_eq_true rfl) (gx_ret ⟨?_, rfl⟩))))
      rw [hu, hs.2.2.2.1 a ha16 hma]; rfl
    · rw [h24]
      show gx _ (fun v z' => v = (if mv S a = true then nI (att C S sea (oX S (M 28 0)) a) else 0) ∧ z' = z)
      unfold qX10_said_53
      (repeat (first | unfold qX10_said_148 | unfold qX10_said_113 | unfold qX10_said_165 | unfold qX10_said_186 | unfold qX10_said_202 | unfold qX10_said_219 | unfold qX10_said_228 | unfold qX10_said_258 | unfold qX10_said_259))
      refine gx_sw5_3 (gx_itef hn1 (gx_gR hm.o (by decide) rfl (gx_aE hm.a33 rfl (by omega) (Nat.le_of_ble_eq_true rfl) (gx_ret ⟨?_, rfl⟩))))
      rw [hma, (hs.2.2.2.2.1 a ha16 hma).1]; rfl
    · rw [h24]
      show gx _ (fun v z' => v = (if mv S a = true then (if oX S (M 28 0) a = true then (0 : Int32) else if pth C S sea (oX S (M 28 0)) a = true then (if rsi C S sea (oX S (M 28 0)) a < att C S sea (oX S (M 28 0)) a then 3 else 2) else 1) else 0) ∧ z' = z)
      unfold qX10_said_53
      (repeat (first | unfold qX10_said_148 | unfold qX10_said_113 | unfold qX10_said_165 | unfold qX10_said_186 | unfold qX10_said_202 | unfold qX10_said_219 | unfold qX10_said_228 | unfold qX10_said_258 | unfold qX10_said_259))
      refine gx_sw5_4 (gx_itef hn1 (gx_gI hm.o (by decide) rfl (gx_callE (q_X10_has (by omega) rfl) ?_)))
      rw [hx]
      refine gx_iteB (fun c => gx_recvE hm.o (by decide) (q_X10_reasonOf hm hc ht hs ha16 hma) (gx_ret ⟨?_, rfl⟩)) (fun c => gx_ret ⟨?_, rfl⟩)
      · rw [hma, c]; rfl
      · rw [hma, c]; rfl
    · rw [h24]
      show gx _ (fun v z' => v = (if (pth C S sea (oX S (M 28 0)) a && !dm C S a) = true then (1 : Int32) else 0) ∧ z' = z)
      unfold qX10_said_53
      (repeat (first | unfold qX10_said_148 | unfold qX10_said_113 | unfold qX10_said_165 | unfold qX10_said_186 | unfold qX10_said_202 | unfold qX10_said_219 | unfold qX10_said_228 | unfold qX10_said_258 | unfold qX10_said_259))
      refine gx_sw5_5 (gx_itef hn1 (gx_gR hm.o (by decide) rfl (gx_aE hm.a25 rfl (by omega) (Nat.le_of_ble_eq_true rfl) ?_)))
      rw [(ht.1.2.2 a ha16 hma).2.2]
      refine gx_iteB (fun c => gx_ret ⟨?_, rfl⟩) (fun c => gx_gI hm.o (by decide) rfl (gx_callE (q_X10_has (by omega) rfl) ?_))
      · rw [c, Bool.and_false]; rfl
      · rw [hs.2.1 a ha16 hma]
        refine gx_iteB (fun c2 => gx_ret ⟨?_, rfl⟩) (fun c2 => gx_ret ⟨?_, rfl⟩)
        · rw [c2]; rfl
        · rw [c, c2]; rfl
theorem q_X10_said (hm : rX10 z m M D) (hc : cpS C S M n) (ht : mvT C S M) (hs : saT C S M n sea) (ha : a < n) {w : Nat} (hw : w < 6) : qX10_said N m (nI a) (nI w) G z = some (exW C S sea (oX S (M 28 0)) a w, z) := by
  have h16 := hc.n16
  have ha16 : a < 16 := by omega
  refine gx_eq ?_
  have key : ∀ b, b = spg S a → gx (qX10_said_53 N m (nI a) (nI w) (M 24 a) (b2i (uu S a)) (b2i b) G z) (fun v z' => v = exW C S sea (oX S (M 28 0)) a w ∧ z' = z) := fun b e => by
    subst e
    exact gx_of (q_X10_said_53 hm hc ht hs ha hw) ⟨rfl, rfl⟩
  unfold qX10_said qX10_said_52 qX10_said_48
  refine gx_gR hm.o (by decide) rfl (gx_aE hm.a24 rfl ha16 (Nat.le_of_ble_eq_true rfl) (gx_gR hm.o (by decide) rfl (gx_callE (q_X10_isUnit hm.a3 ha16 rfl) ?_)))
  rw [hc.un ha16]
  refine gx_iteB (fun c => key false ?_) (fun c => gx_gR hm.o (by decide) rfl (gx_aE hm.a3 (nI_sum (a := 117) (b := a) rfl rfl) (by omega) (Nat.le_of_ble_eq_true rfl) ?_))
  · unfold spg; rw [c]; rfl
  · rw [hc.k ha16]
    refine gx_ite (fun c2 => key true ?_) (fun c2 => gx_gR hm.o (by decide) rfl (gx_aE hm.a3 (nI_sum (a := 117) (b := a) rfl rfl) (by omega) (Nat.le_of_ble_eq_true rfl) ?_))
    · unfold spg; rw [c, c2]; rfl
    · rw [hc.k ha16]
      refine gx_ite (fun c3 => key true ?_) (fun c3 => key false ?_)
      · unfold spg; rw [c, c3]; rfl
      · unfold spg; rw [c, decide_eq_false c2, decide_eq_false c3]; rfl
end
