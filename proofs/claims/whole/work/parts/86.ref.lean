/-! the reference's settling: leads, contestedNow (by program) -/
def rLd3 (M : Nat → Nat → Int32) (a : Nat) (v : Int32) : Nat → Int32 := upd (upd (upd (upd (M 3) (53 + a) v) (69 + a) ((upd (M 3) (53 + a) v) (37 + a))) (85 + a) (-1)) (101 + a) (-1)
def rLd (M : Nat → Nat → Int32) (a : Nat) : Nat → Nat → Int32 := cset (cset (cset M 39 (upd (M 39) a (if M 3 (21 + a) = -1 then -1 else if bt (M 29 0) a = true then -1 else if scs M (M 24 a) = true then -1 else M 3 (21 + a)))) 40 (upd (M 40) a (M 3 (37 + a)))) 3 (rLd3 M a (if bt (M 29 0) a = true then M 3 (21 + a) else -1))
theorem q_bX10_leads_2 {G : osG} {z : osS} {N m a : Nat} {M : Nat → Nat → Int32} {D : Nat → Nat → Int64} {Q : Unit → osS → Prop} {ih : Nat × Int32 → osM Unit} (hm : rX10 z m M D) (hA : G.2.2.1 ≤ m) (h9 : a < 16) (hv : ¬ M 24 a = -1 → M 24 a = nI (tn (M 24 a)) ∧ tn (M 24 a) < 12) (k : ∀ z1, osFr m (m + 21) z z1 → rX10 z1 m (rLd M a) D → gx (ih (m, nI a + 1) G z1) Q) : gx (bX10_leads_2 N ih m (nI a) G z) Q := by
  unfold bX10_leads_2
  (repeat (first | unfold qX10_leads_60 | unfold qX10_leads_61 | unfold qX10_leads_109))
  exact gx_itef (ge16 h9) (gx_gR hm.o (by decide) rfl (gx_gR hm.o (by decide) rfl (gx_callE (q_X10_isUnit hm.a3 (by omega) rfl) (gx_iteDn (fun (c_1 : M 3 (21 + a) = -1) => hm.s39 (rfl) (by omega) (by omega) (fun z_2 f_2 hm_2 => gx_gR hm_2.o (by decide) rfl (gx_gR hm_2.o (by decide) rfl (gx_aE hm_2.a3 ((nI_sum (a := 37) (b := a) (rfl) (rfl))) (by omega) (Nat.le_of_ble_eq_true rfl) (hm_2.s40 (rfl) (by omega) (by omega) (fun z_3 f_3 hm_3 => gx_gR hm_3.o (by decide) rfl (gx_gI hm_3.o (by decide) rfl (gx_callE (q_X10_has (by omega) rfl) (gx_iteB (fun (c_4 : (bt ((M 29 0)) a) = false) => hm_3.s3 ((nI_sum (a := 53) (b := a) (rfl) (rfl))) (by omega) (by omega) (fun z_5 f_5 hm_5 => gx_gR hm_5.o (by decide) rfl (gx_gR hm_5.o (by decide) rfl (gx_aE hm_5.a3 ((nI_sum (a := 37) (b := a) (rfl) (rfl))) (by omega) (Nat.le_of_ble_eq_true rfl) (hm_5.s3 ((nI_sum (a := 69) (b := a) (rfl) (rfl))) (by omega) (by omega) (fun z_6 f_6 hm_6 => gx_gR hm_6.o (by decide) rfl (hm_6.s3 ((nI_sum (a := 85) (b := a) (rfl) (rfl))) (by omega) (by omega) (fun z_7 f_7 hm_7 => gx_gR hm_7.o (by decide) rfl (hm_7.s3 ((nI_sum (a := 101) (b := a) (rfl) (rfl))) (by omega) (by omega) (fun z_8 f_8 hm_8 => k _ ((((((f_2.wide (by omega) (by omega)).tr (f_3.wide (by omega) (by omega))).tr (f_5.wide (by omega) (by omega))).tr (f_6.wide (by omega) (by omega))).tr (f_7.wide (by omega) (by omega))).tr (f_8.wide (by omega) (by omega))) (by first | (unfold rLd; simp only [cset_ap, if_pos c_1, c_4, Nat.reduceEqDiff, reduceIte, Bool.false_eq_true, ite_true, ite_false]; exact hm_8) | (exfalso; first | exact Bool.noConfusion (Eq.trans (Eq.symm c_1) c_4) | exact Bool.noConfusion (Eq.trans (Eq.symm c_4) c_1))))))))))))) (fun (c_4 : (bt ((M 29 0)) a) = true) => gx_gR hm_3.o (by decide) rfl (gx_aE hm_3.a3 ((nI_sum (a := 21) (b := a) (rfl) (rfl))) (by omega) (Nat.le_of_ble_eq_true rfl) (hm_3.s3 ((nI_sum (a := 53) (b := a) (rfl) (rfl))) (by omega) (by omega) (fun z_9 f_9 hm_9 => gx_gR hm_9.o (by decide) rfl (gx_gR hm_9.o (by decide) rfl (gx_aE hm_9.a3 ((nI_sum (a := 37) (b := a) (rfl) (rfl))) (by omega) (Nat.le_of_ble_eq_true rfl) (hm_9.s3 ((nI_sum (a := 69) (b := a) (rfl) (rfl))) (by omega) (by omega) (fun z_10 f_10 hm_10 => gx_gR hm_10.o (by decide) rfl (hm_10.s3 ((nI_sum (a := 85) (b := a) (rfl) (rfl))) (by omega) (by omega) (fun z_11 f_11 hm_11 => gx_gR hm_11.o (by decide) rfl (hm_11.s3 ((nI_sum (a := 101) (b := a) (rfl) (rfl))) (by omega) (by omega) (fun z_12 f_12 hm_12 => k _ ((((((f_2.wide (by omega) (by omega)).tr (f_3.wide (by omega) (by omega))).tr (f_9.wide (by omega) (by omega))).tr (f_10.wide (by omega) (by omega))).tr (f_11.wide (by omega) (by omega))).tr (f_12.wide (by omega) (by omega))) (by first | (unfold rLd; simp only [cset_ap, if_pos c_1, if_pos c_4, Nat.reduceEqDiff, reduceIte, Bool.false_eq_true, ite_true, ite_false]; exact hm_12) | (exfalso; first | exact Bool.noConfusion (Eq.trans (Eq.symm c_1) c_4) | exact Bool.noConfusion (Eq.trans (Eq.symm c_4) c_1)))))))))))))))))))))))) (fun (c_1 : ¬ (M 3 (21 + a) = -1)) => gx_gI hm.o (by decide) rfl (gx_callE (q_X10_has (by omega) rfl) (gx_iteB (fun (c_13 : (bt ((M 29 0)) a) = false) => gx_gR hm.o (by decide) rfl (gx_aE hm.a24 (rfl) (by omega) (Nat.le_of_ble_eq_true rfl) (gx_recvE hm.o (by decide) (q_X10_succeeds hm hv) (gx_iteB (fun (c_14 : (scs M ((M 24 a))) = false) => gx_gR hm.o (by decide) rfl (gx_aE hm.a3 ((nI_sum (a := 21) (b := a) (rfl) (rfl))) (by omega) (Nat.le_of_ble_eq_true rfl) (hm.s39 (rfl) (by omega) (by omega) (fun z_15 f_15 hm_15 => gx_gR hm_15.o (by decide) rfl (gx_gR hm_15.o (by decide) rfl (gx_aE hm_15.a3 ((nI_sum (a := 37) (b := a) (rfl) (rfl))) (by omega) (Nat.le_of_ble_eq_true rfl) (hm_15.s40 (rfl) (by omega) (by omega) (fun z_16 f_16 hm_16 => gx_gR hm_16.o (by decide) rfl (gx_gI hm_16.o (by decide) rfl (gx_callE (q_X10_has (by omega) rfl) (gx_iteB (fun (c_17 : (bt ((M 29 0)) a) = false) => hm_16.s3 ((nI_sum (a := 53) (b := a) (rfl) (rfl))) (by omega) (by omega) (fun z_18 f_18 hm_18 => gx_gR hm_18.o (by decide) rfl (gx_gR hm_18.o (by decide) rfl (gx_aE hm_18.a3 ((nI_sum (a := 37) (b := a) (rfl) (rfl))) (by omega) (Nat.le_of_ble_eq_true rfl) (hm_18.s3 ((nI_sum (a := 69) (b := a) (rfl) (rfl))) (by omega) (by omega) (fun z_19 f_19 hm_19 => gx_gR hm_19.o (by decide) rfl (hm_19.s3 ((nI_sum (a := 85) (b := a) (rfl) (rfl))) (by omega) (by omega) (fun z_20 f_20 hm_20 => gx_gR hm_20.o (by decide) rfl (hm_20.s3 ((nI_sum (a := 101) (b := a) (rfl) (rfl))) (by omega) (by omega) (fun z_21 f_21 hm_21 => k _ ((((((f_15.wide (by omega) (by omega)).tr (f_16.wide (by omega) (by omega))).tr (f_18.wide (by omega) (by omega))).tr (f_19.wide (by omega) (by omega))).tr (f_20.wide (by omega) (by omega))).tr (f_21.wide (by omega) (by omega))) (by first | (unfold rLd; simp only [cset_ap, if_neg c_1, c_13, c_14, c_17, Nat.reduceEqDiff, reduceIte, Bool.false_eq_true, ite_true, ite_false]; exact hm_21) | (exfalso; first | exact Bool.noConfusion (Eq.trans (Eq.symm c_1) c_13) | exact Bool.noConfusion (Eq.trans (Eq.symm c_1) c_14) | exact Bool.noConfusion (Eq.trans (Eq.symm c_1) c_17) | exact Bool.noConfusion (Eq.trans (Eq.symm c_13) c_1) | exact Bool.noConfusion (Eq.trans (Eq.symm c_13) c_14) | exact Bool.noConfusion (Eq.trans (Eq.symm c_13) c_17) | exact Bool.noConfusion (Eq.trans (Eq.symm c_14) c_1) | exact Bool.noConfusion (Eq.trans (Eq.symm c_14) c_13) | exact Bool.noConfusion (Eq.trans (Eq.symm c_14) c_17) | exact Bool.noConfusion (Eq.trans (Eq.symm c_17) c_1) | exact Bool.noConfusion (Eq.trans (Eq.symm c_17) c_13) | exact Bool.noConfusion (Eq.trans (Eq.symm c_17) c_14))))))))))))) (fun (c_17 : (bt ((M 29 0)) a) = true) => gx_gR hm_16.o (by decide) rfl (gx_aE hm_16.a3 ((nI_sum (a := 21) (b := a) (rfl) (rfl))) (by omega) (Nat.le_of_ble_eq_true rfl) (hm_16.s3 ((nI_sum (a := 53) (b := a) (rfl) (rfl))) (by omega) (by omega) (fun z_22 f_22 hm_22 => gx_gR hm_22.o (by decide) rfl (gx_gR hm_22.o (by decide) rfl (gx_aE hm_22.a3 ((nI_sum (a := 37) (b := a) (rfl) (rfl))) (by omega) (Nat.le_of_ble_eq_true rfl) (hm_22.s3 ((nI_sum (a := 69) (b := a) (rfl) (rfl))) (by omega) (by omega) (fun z_23 f_23 hm_23 => gx_gR hm_23.o (by decide) rfl (hm_23.s3 ((nI_sum (a := 85) (b := a) (rfl) (rfl))) (by omega) (by omega) (fun z_24 f_24 hm_24 => gx_gR hm_24.o (by decide) rfl (hm_24.s3 ((nI_sum (a := 101) (b := a) (rfl) (rfl))) (by omega) (by omega) (fun z_25 f_25 hm_25 => k _ ((((((f_15.wide (by omega) (by omega)).tr (f_16.wide (by omega) (by omega))).tr (f_22.wide (by omega) (by omega))).tr (f_23.wide (by omega) (by omega))).tr (f_24.wide (by omega) (by omega))).tr (f_25.wide (by omega) (by omega))) (by first | (unfold rLd; simp only [cset_ap, if_neg c_1, c_13, c_14, if_pos c_17, Nat.reduceEqDiff, reduceIte, Bool.false_eq_true, ite_true, ite_false]; exact hm_25) | (exfalso; first | exact Bool.noConfusion (Eq.trans (Eq.symm c_1) c_13) | exact Bool.noConfusion (Eq.trans (Eq.symm c_1) c_14) | exact Bool.noConfusion (Eq.trans (Eq.symm c_1) c_17) | exact Bool.noConfusion (Eq.trans (Eq.symm c_13) c_1) | exact Bool.noConfusion (Eq.trans (Eq.symm c_13) c_14) | exact Bool.noConfusion (Eq.trans (Eq.symm c_13) c_17) | exact Bool.noConfusion (Eq.trans (Eq.symm c_14) c_1) | exact Bool.noConfusion (Eq.trans (Eq.symm c_14) c_13) | exact Bool.noConfusion (Eq.trans (Eq.symm c_14) c_17) | exact Bool.noConfusion (Eq.trans (Eq.symm c_17) c_1) | exact Bool.noConfusion (Eq.trans (Eq.symm c_17) c_13) | exact Bool.noConfusion (Eq.trans (Eq.symm c_17) c_14)))))))))))))))))))))))))) (fun (c_14 : (scs M ((M 24 a))) = true) => hm.s39 (rfl) (by omega) (by omega) (fun z_26 f_26 hm_26 => gx_gR hm_26.o (by decide) rfl (gx_gR hm_26.o (by decide) rfl (gx_aE hm_26.a3 ((nI_sum (a := 37) (b := a) (rfl) (rfl))) (by omega) (Nat.le_of_ble_eq_true rfl) (hm_26.s40 (rfl) (by omega) (by omega) (fun z_27 f_27 hm_27 => gx_gR hm_27.o (by decide) rfl (gx_gI hm_27.o (by decide) rfl (gx_callE (q_X10_has (by omega) rfl) (gx_iteB (fun (c_28 : (bt ((M 29 0)) a) = false) => hm_27.s3 ((nI_sum (a := 53) (b := a) (rfl) (rfl))) (by omega) (by omega) (fun z_29 f_29 hm_29 => gx_gR hm_29.o (by decide) rfl (gx_gR hm_29.o (by decide) rfl (gx_aE hm_29.a3 ((nI_sum (a := 37) (b := a) (rfl) (rfl))) (by omega) (Nat.le_of_ble_eq_true rfl) (hm_29.s3 ((nI_sum (a := 69) (b := a) (rfl) (rfl))) (by omega) (by omega) (fun z_30 f_30 hm_30 => gx_gR hm_30.o (by decide) rfl (hm_30.s3 ((nI_sum (a := 85) (b := a) (rfl) (rfl))) (by omega) (by omega) (fun z_31 f_31 hm_31 => gx_gR hm_31.o (by decide) rfl (hm_31.s3 ((nI_sum (a := 101) (b := a) (rfl) (rfl))) (by omega) (by omega) (fun z_32 f_32 hm_32 => k _ ((((((f_26.wide (by omega) (by omega)).tr (f_27.wide (by omega) (by omega))).tr (f_29.wide (by omega) (by omega))).tr (f_30.wide (by omega) (by omega))).tr (f_31.wide (by omega) (by omega))).tr (f_32.wide (by omega) (by omega))) (by first | (unfold rLd; simp only [cset_ap, if_neg c_1, c_13, if_pos c_14, c_28, Nat.reduceEqDiff, reduceIte, Bool.false_eq_true, ite_true, ite_false]; exact hm_32) | (exfalso; first | exact Bool.noConfusion (Eq.trans (Eq.symm c_1) c_13) | exact Bool.noConfusion (Eq.trans (Eq.symm c_1) c_14) | exact Bool.noConfusion (Eq.trans (Eq.symm c_1) c_28) | exact Bool.noConfusion (Eq.trans (Eq.symm c_13) c_1) | exact Bool.noConfusion (Eq.trans (Eq.symm c_13) c_14) | exact Bool.noConfusion (Eq.trans (Eq.symm c_13) c_28) | exact Bool.noConfusion (Eq.trans (Eq.symm c_14) c_1) | exact Bool.noConfusion (Eq.trans (Eq.symm c_14) c_13) | exact Bool.noConfusion (Eq.trans (Eq.symm c_14) c_28) | exact Bool.noConfusion (Eq.trans (Eq.symm c_28) c_1) | exact Bool.noConfusion (Eq.trans (Eq.symm c_28) c_13) | exact Bool.noConfusion (Eq.trans (Eq.symm c_28) c_14))))))))))))) (fun (c_28 : (bt ((M 29 0)) a) = true) => gx_gR hm_27.o (by decide) rfl (gx_aE hm_27.a3 ((nI_sum (a := 21) (b := a) (rfl) (rfl))) (by omega) (Nat.le_of_ble_eq_true rfl) (hm_27.s3 ((nI_sum (a := 53) (b := a) (rfl) (rfl))) (by omega) (by omega) (fun z_33 f_33 hm_33 => gx_gR hm_33.o (by decide) rfl (gx_gR hm_33.o (by decide) rfl (gx_aE hm_33.a3 ((nI_sum (a := 37) (b := a) (rfl) (rfl))) (by omega) (Nat.le_of_ble_eq_true rfl) (hm_33.s3 ((nI_sum (a := 69) (b := a) (rfl) (rfl))) (by omega) (by omega) (fun z_34 f_34 hm_34 => gx_gR hm_34.o (by decide) rfl (hm_34.s3 ((nI_sum (a := 85) (b := a) (rfl) (rfl))) (by omega) (by omega) (fun z_35 f_35 hm_35 => gx_gR hm_35.o (by decide) rfl (hm_35.s3 ((nI_sum (a := 101) (b := a) (rfl) (rfl))) (by omega) (by omega) (fun z_36 f_36 hm_36 => k _ ((((((f_26.wide (by omega) (by omega)).tr (f_27.wide (by omega) (by omega))).tr (f_33.wide (by omega) (by omega))).tr (f_34.wide (by omega) (by omega))).tr (f_35.wide (by omega) (by omega))).tr (f_36.wide (by omega) (by omega))) (by first | (unfold rLd; simp only [cset_ap, if_neg c_1, c_13, if_pos c_14, if_pos c_28, Nat.reduceEqDiff, reduceIte, Bool.false_eq_true, ite_true, ite_false]; exact hm_36) | (exfalso; first | exact Bool.noConfusion (Eq.trans (Eq.symm c_1) c_13) | exact Bool.noConfusion (Eq.trans (Eq.symm c_1) c_14) | exact Bool.noConfusion (Eq.trans (Eq.symm c_1) c_28) | exact Bool.noConfusion (Eq.trans (Eq.symm c_13) c_1) | exact Bool.noConfusion (Eq.trans (Eq.symm c_13) c_14) | exact Bool.noConfusion (Eq.trans (Eq.symm c_13) c_28) | exact Bool.noConfusion (Eq.trans (Eq.symm c_14) c_1) | exact Bool.noConfusion (Eq.trans (Eq.symm c_14) c_13) | exact Bool.noConfusion (Eq.trans (Eq.symm c_14) c_28) | exact Bool.noConfusion (Eq.trans (Eq.symm c_28) c_1) | exact Bool.noConfusion (Eq.trans (Eq.symm c_28) c_13) | exact Bool.noConfusion (Eq.trans (Eq.symm c_28) c_14)))))))))))))))))))))))))))) (fun (c_13 : (bt ((M 29 0)) a) = true) => hm.s39 (rfl) (by omega) (by omega) (fun z_37 f_37 hm_37 => gx_gR hm_37.o (by decide) rfl (gx_gR hm_37.o (by decide) rfl (gx_aE hm_37.a3 ((nI_sum (a := 37) (b := a) (rfl) (rfl))) (by omega) (Nat.le_of_ble_eq_true rfl) (hm_37.s40 (rfl) (by omega) (by omega) (fun z_38 f_38 hm_38 => gx_gR hm_38.o (by decide) rfl (gx_gI hm_38.o (by decide) rfl (gx_callE (q_X10_has (by omega) rfl) (gx_iteB (fun (c_39 : (bt ((M 29 0)) a) = false) => hm_38.s3 ((nI_sum (a := 53) (b := a) (rfl) (rfl))) (by omega) (by omega) (fun z_40 f_40 hm_40 => gx_gR hm_40.o (by decide) rfl (gx_gR hm_40.o (by decide) rfl (gx_aE hm_40.a3 ((nI_sum (a := 37) (b := a) (rfl) (rfl))) (by omega) (Nat.le_of_ble_eq_true rfl) (hm_40.s3 ((nI_sum (a := 69) (b := a) (rfl) (rfl))) (by omega) (by omega) (fun z_41 f_41 hm_41 => gx_gR hm_41.o (by decide) rfl (hm_41.s3 ((nI_sum (a := 85) (b := a) (rfl) (rfl))) (by omega) (by omega) (fun z_42 f_42 hm_42 => gx_gR hm_42.o (by decide) rfl (hm_42.s3 ((nI_sum (a := 101) (b := a) (rfl) (rfl))) (by omega) (by omega) (fun z_43 f_43 hm_43 => k _ ((((((f_37.wide (by omega) (by omega)).tr (f_38.wide (by omega) (by omega))).tr (f_40.wide (by omega) (by omega))).tr (f_41.wide (by omega) (by omega))).tr (f_42.wide (by omega) (by omega))).tr (f_43.wide (by omega) (by omega))) (by first | (unfold rLd; simp only [cset_ap, if_neg c_1, if_pos c_13, c_39, Nat.reduceEqDiff, reduceIte, Bool.false_eq_true, ite_true, ite_false]; exact hm_43) | (exfalso; first | exact Bool.noConfusion (Eq.trans (Eq.symm c_1) c_13) | exact Bool.noConfusion (Eq.trans (Eq.symm c_1) c_39) | exact Bool.noConfusion (Eq.trans (Eq.symm c_13) c_1) | exact Bool.noConfusion (Eq.trans (Eq.symm c_13) c_39) | exact Bool.noConfusion (Eq.trans (Eq.symm c_39) c_1) | exact Bool.noConfusion (Eq.trans (Eq.symm c_39) c_13))))))))))))) (fun (c_39 : (bt ((M 29 0)) a) = true) => gx_gR hm_38.o (by decide) rfl (gx_aE hm_38.a3 ((nI_sum (a := 21) (b := a) (rfl) (rfl))) (by omega) (Nat.le_of_ble_eq_true rfl) (hm_38.s3 ((nI_sum (a := 53) (b := a) (rfl) (rfl))) (by omega) (by omega) (fun z_44 f_44 hm_44 => gx_gR hm_44.o (by decide) rfl (gx_gR hm_44.o (by decide) rfl (gx_aE hm_44.a3 ((nI_sum (a := 37) (b := a) (rfl) (rfl))) (by omega) (Nat.le_of_ble_eq_true rfl) (hm_44.s3 ((nI_sum (a := 69) (b := a) (rfl) (rfl))) (by omega) (by omega) (fun z_45 f_45 hm_45 => gx_gR hm_45.o (by decide) rfl (hm_45.s3 ((nI_sum (a := 85) (b := a) (rfl) (rfl))) (by omega) (by omega) (fun z_46 f_46 hm_46 => gx_gR hm_46.o (by decide) rfl (hm_46.s3 ((nI_sum (a := 101) (b := a) (rfl) (rfl))) (by omega) (by omega) (fun z_47 f_47 hm_47 => k _ ((((((f_37.wide (by omega) (by omega)).tr (f_38.wide (by omega) (by omega))).tr (f_44.wide (by omega) (by omega))).tr (f_45.wide (by omega) (by omega))).tr (f_46.wide (by omega) (by omega))).tr (f_47.wide (by omega) (by omega))) (by first | (unfold rLd; simp only [cset_ap, if_neg c_1, if_pos c_13, if_pos c_39, Nat.reduceEqDiff, reduceIte, Bool.false_eq_true, ite_true, ite_false]; exact hm_47) | (exfalso; first | exact Bool.noConfusion (Eq.trans (Eq.symm c_1) c_13) | exact Bool.noConfusion (Eq.trans (Eq.symm c_1) c_39) | exact Bool.noConfusion (Eq.trans (Eq.symm c_13) c_1) | exact Bool.noConfusion (Eq.trans (Eq.symm c_13) c_39) | exact Bool.noConfusion (Eq.trans (Eq.symm c_39) c_1) | exact Bool.noConfusion (Eq.trans (Eq.symm c_39) c_13)))))))))))))))))))))))))))))))
def rLe (M : Nat → Nat → Int32) (i g b : Nat) : Nat → Nat → Int32 := cset (cset (cset M 39 (upd (M 39) g (M 3 (21 + b)))) 40 (upd (M 40) g (M 3 (37 + b)))) 3 (upd (M 3) (85 + g) (if M 25 i = 0 then M 21 i else -1))
theorem q_bX10_leads_156 {G : osG} {z : osS} {N m i g b mm : Nat} {M : Nat → Nat → Int32} {D : Nat → Nat → Int64} {Q : Unit → osS → Prop} {ih : Nat × Int32 → osM Unit} (hm : rX10 z m M D) (hA : G.2.2.1 ≤ m) (hn : M 26 0 = nI mm) (h12 : mm ≤ 12) (h9 : i < mm) (h22 : M 22 i = nI g) (hg : g < 16) (h21 : M 21 i = nI b) (hb : b < 16) (k0 : bt (M 28 0) i = false → gx (ih (m, nI i + 1) G z) Q) (k1 : bt (M 28 0) i = true → ∀ z1, osFr m (m + 21) z z1 → rX10 z1 m (rLe M i g b) D → gx (ih (m, nI i + 1) G z1) Q) : gx (bX10_leads_156 N ih m (nI i) G z) Q := by
  unfold bX10_leads_156
  (repeat (first | unfold qX10_leads_261 | unfold qX10_leads_260))
  exact gx_gI hm.o (by decide) rfl (gx_itef (nI_nleE (a := mm) (b := i) hn rfl h9 (by omega)) (gx_gI hm.o (by decide) rfl (gx_callE (q_X10_has (by omega) rfl) (gx_iteB (fun (c_1 : (bt ((M 28 0)) i) = false) => k0 (by assumption)) (fun (c_1 : (bt ((M 28 0)) i) = true) => gx_gR hm.o (by decide) rfl (gx_gR hm.o (by decide) rfl (gx_aE hm.a22 (rfl) (by omega) (Nat.le_of_ble_eq_true rfl) (gx_gR hm.o (by decide) rfl (gx_gR hm.o (by decide) rfl (gx_aE hm.a21 (rfl) (by omega) (Nat.le_of_ble_eq_true rfl) (gx_aE hm.a3 ((nI_sum (a := 21) (b := b) (rfl) (h21))) (by omega) (Nat.le_of_ble_eq_true rfl) (hm.s39 (h22) (by omega) (by omega) (fun z_2 f_2 hm_2 => gx_gR hm_2.o (by decide) rfl (gx_gR hm_2.o (by decide) rfl (gx_aE hm_2.a22 (rfl) (by omega) (Nat.le_of_ble_eq_true rfl) (gx_gR hm_2.o (by decide) rfl (gx_gR hm_2.o (by decide) rfl (gx_aE hm_2.a21 (rfl) (by omega) (Nat.le_of_ble_eq_true rfl) (gx_aE hm_2.a3 ((nI_sum (a := 37) (b := b) (rfl) (h21))) (by omega) (Nat.le_of_ble_eq_true rfl) (hm_2.s40 (h22) (by omega) (by omega) (fun z_3 f_3 hm_3 => gx_gR hm_3.o (by decide) rfl (gx_gR hm_3.o (by decide) rfl (gx_aE hm_3.a22 (rfl) (by omega) (Nat.le_of_ble_eq_true rfl) (gx_gR hm_3.o (by decide) rfl (gx_aE hm_3.a25 (rfl) (by omega) (Nat.le_of_ble_eq_true rfl) (gx_ite (fun (c_4 : (M 25 i) = (0 : Int32)) => gx_gR hm_3.o (by decide) rfl (gx_aE hm_3.a21 (rfl) (by omega) (Nat.le_of_ble_eq_true rfl) (hm_3.s3 ((nI_sum (a := 85) (b := g) (rfl) (h22))) (by omega) (by omega) (fun z_5 f_5 hm_5 => k1 (by assumption) _ (((f_2.wide (by omega) (by omega)).tr (f_3.wide (by omega) (by omega))).tr (f_5.wide (by omega) (by omega))) (by unfold rLe; simp only [cset_ap, if_pos c_1, if_pos c_4, Nat.reduceEqDiff, reduceIte, Bool.false_eq_true, ite_true, ite_false]; exact hm_5))))) (fun (c_4 : ¬ ((M 25 i) = (0 : Int32))) => hm_3.s3 ((nI_sum (a := 85) (b := g) (rfl) (h22))) (by omega) (by omega) (fun z_6 f_6 hm_6 => k1 (by assumption) _ (((f_2.wide (by omega) (by omega)).tr (f_3.wide (by omega) (by omega))).tr (f_6.wide (by omega) (by omega))) (by unfold rLe; simp only [cset_ap, if_pos c_1, if_neg c_4, Nat.reduceEqDiff, reduceIte, Bool.false_eq_true, ite_true, ite_false]; exact hm_6)))))))))))))))))))))))))))))
theorem q_bX10_leads_269 {G : osG} {z : osS} {N m a : Nat} {M : Nat → Nat → Int32} {D : Nat → Nat → Int64} {Q : Unit → osS → Prop} {ih : Nat × Int32 → osM Unit} (hm : rX10 z m M D) (hA : G.2.2.1 ≤ m) (h9 : a < 16) (k : ∀ z1, osFr m (m + 21) z z1 → rX10 z1 m (cset M 3 (upd (upd (M 3) (21 + a) (M 39 a)) (37 + a) (M 40 a))) D → gx (ih (m, nI a + 1) G z1) Q) : gx (bX10_leads_269 N ih m (nI a) G z) Q := by
  unfold bX10_leads_269
  exact gx_itef (ge16 h9) (gx_gR hm.o (by decide) rfl (gx_gR hm.o (by decide) rfl (gx_aE hm.a39 (rfl) (by omega) (Nat.le_of_ble_eq_true rfl) (hm.s3 ((nI_sum (a := 21) (b := a) (rfl) (rfl))) (by omega) (by omega) (fun z_1 f_1 hm_1 => gx_gR hm_1.o (by decide) rfl (gx_gR hm_1.o (by decide) rfl (gx_aE hm_1.a40 (rfl) (by omega) (Nat.le_of_ble_eq_true rfl) (hm_1.s3 ((nI_sum (a := 37) (b := a) (rfl) (rfl))) (by omega) (by omega) (fun z_2 f_2 hm_2 => k _ ((f_1.wide (by omega) (by omega)).tr (f_2.wide (by omega) (by omega))) (by first | (exact hm_2)))))))))))
theorem rLd3_at {M : Nat → Nat → Int32} {a j : Nat} {v : Int32} : rLd3 M a v j = if j = 101 + a then -1 else if j = 85 + a then -1 else if j = 69 + a then M 3 (37 + a) else if j = 53 + a then v else M 3 j := by
  show (if j = 101 + a then (-1 : Int32) else if j = 85 + a then -1 else if j = 69 + a then (if 37 + a = 53 + a then v else M 3 (37 + a)) else if j = 53 + a then v else M 3 j) = _
  rw [if_neg (show ¬ 37 + a = 53 + a by omega)]
theorem cpS_ext {C S M M' : Nat → Nat → Int32} {n : Nat} (h : cpS C S M n) (e1 : M' 1 = M 1) (e3 : ∀ j, j < 53 ∨ 117 ≤ j ∧ j < 165 → M' 3 j = M 3 j) : cpS C S M' n := by
  obtain ⟨h1, h2, h3, h4⟩ := h
  refine ⟨by rw [e1]; exact h1, fun a ha => ?_, fun a ha hu => ?_, h4⟩
  · rw [e1, e3 _ (by omega), e3 _ (by omega), e3 _ (by omega)]; exact h2 a ha
  · rw [e3 _ (by omega), e3 _ (by omega)]; exact h3 a ha hu
/-- where the reference leads the units -/
def ldT (C S M M' : Nat → Nat → Int32) (X : Nat → Bool) : Prop :=
  (∀ j, j < 21 ∨ 117 ≤ j → M' 3 j = M 3 j) ∧ nwR S X 6 (fun b => M' 3 (21 + b)) ∧ (∀ a, a < 16 → X a = true → M' 3 (37 + gof S a) = S 7 a) ∧ (∀ b, b < 16 → sty S X b = true → M' 3 (37 + b) = S 7 b) ∧ (∀ b, b < 16 → M' 3 (53 + b) = if disl S X b = true then S 6 b else -1) ∧ (∀ b, b < 16 → M' 3 (69 + b) = M 3 (37 + b)) ∧ (∀ b, b < 16 → M' 3 (101 + b) = -1) ∧ ∀ a, a < 16 → X a = true → M' 3 (85 + gof S a) = if dm C S a = true then nI a else -1
theorem q_X10_leads {G : osG} {z : osS} {N m n : Nat} {C S M : Nat → Nat → Int32} {D : Nat → Nat → Int64} {X : Nat → Bool} (hm : rX10 z m M D) (hA : G.2.2.1 ≤ m) (hc : cpS C S M n) (ht : mvT C S M) (h29 : ∀ j, j < 32 → bt (M 29 0) j = (decide (j < 16) && disl S X j)) (hX : oX S (M 28 0) = X) (hu : ∀ a c, a < 16 → c < 16 → X a = true → X c = true → gof S a = gof S c → a = c) (hN : 20 < N) : gx (qX10_leads N m G z) (fun _ z' => osFr m (m + 21) z z' ∧ ∃ M', rX10 z' m M' D ∧ (∀ k, k ≠ 3 → k ≠ 39 → k ≠ 40 → M' k = M k) ∧ ldT C S M M' X) := by
  have h12 := hc.m12
  have h16 := hc.n16
  have hXm : ∀ a, X a = true → a < 16 ∧ mv S a = true ∧ bt (M 28 0) (ix S a) = true := fun a h => by
    rw [← hX] at h
    unfold oX at h
    simpa using h
  unfold qX10_leads qX10_leads_2
  refine gx_rows (fun a M' => (∀ k, k ≠ 3 → k ≠ 39 → k ≠ 40 → M' k = M k) ∧ (∀ j, j < 53 ∨ 117 ≤ j → M' 3 j = M 3 j) ∧ ∀ b, b < a → M' 39 b = (if sty S X b = true then S 6 b else -1) ∧ M' 40 b = M 3 (37 + b) ∧ M' 3 (53 + b) = (if disl S X b = true then S 6 b else -1) ∧ M' 3 (69 + b) = M 3 (37 + b) ∧ M' 3 (85 + b) = -1 ∧ M' 3 (101 + b) = -1) 16 (fun i => (m, nI i)) hm ⟨fun _ _ _ _ => rfl, fun _ _ => rfl, fun b hb => by omega⟩ ?_ ?_ N (by omega)
  · rintro ih a z1 M1 ha f1 h1 ⟨e1, j1, i1⟩ k
    have c1 : cpS C S M1 n := cpS_ext hc (e1 1 (by omega) (by omega) (by omega)) (fun j hj => j1 j (by omega))
    have t1 : mvT C S M1 := mvT_keep ht (fun k h1 h2 => e1 k (by omega) (by omega) (by omega))
    show gx (bX10_leads_2 N ih m (nI a) G z1) _
    refine q_bX10_leads_2 h1 hA ha (scs_h c1 t1 ha) (fun z2 f2 h2 => ?_)
    rw [nI_1]
    have hd : bt (M1 29 0) a = disl S X a := by rw [e1 29 (by omega) (by omega) (by omega), h29 a (by omega), decide_eq_true ha, Bool.true_and]
    have hs : scs M1 (M1 24 a) = X a := by rw [scs_eq c1 t1 ha, e1 28 (by omega) (by omega) (by omega), hX]
    have hp : M1 3 (21 + a) = S 6 a := c1.p ha
    have h37 : M1 3 (37 + a) = M 3 (37 + a) := j1 _ (by omega)
    refine k z2 _ f2 h2 ⟨fun k h3 h4 h5 => ?_, fun j hj => ?_, fun b hb => ?_⟩
    · unfold rLd
      rw [cset_ne h3, cset_ne h5, cset_ne h4]; exact e1 k h3 h4 h5
    · show rLd3 M1 a _ j = _
      rw [rLd3_at, if_neg (by omega), if_neg (by omega), if_neg (by omega), if_neg (by omega)]
      exact j1 j hj
    · show upd (M1 39) a _ b = _ ∧ upd (M1 40) a (M1 3 (37 + a)) b = _ ∧ rLd3 M1 a _ (53 + b) = _ ∧ rLd3 M1 a _ (69 + b) = _ ∧ rLd3 M1 a _ (85 + b) = _ ∧ rLd3 M1 a _ (101 + b) = _
      rw [rLd3_at, rLd3_at, rLd3_at, rLd3_at]
      by_cases e : b = a
      · subst e
        rw [upd_eq, upd_eq]
        refine ⟨?_, h37, ?_, ?_, ?_, ?_⟩
        · rw [hd, hs, hp]
          unfold sty uu
          by_cases q : S 6 b = -1
          · rw [if_pos q, decide_eq_true q]; rfl
          · rw [if_neg q, decide_eq_false q]
            cases disl S X b <;> cases X b <;> rfl
        · rw [if_neg (by omega), if_neg (by omega), if_neg (by omega), if_pos rfl, hd, hp]
        · rw [if_neg (by omega), if_neg (by omega), if_pos rfl, h37]
        · rw [if_neg (by omega), if_pos rfl]
        · rw [if_pos rfl]
      · obtain ⟨i2, i3, i4, i5, i6, i7⟩ := i1 b (by omega)
        rw [upd_ne e, upd_ne e]
        refine ⟨i2, i3, ?_, ?_, ?_, ?_⟩
        · rw [if_neg (by omega), if_neg (by omega), if_neg (by omega), if_neg (by omega)]; exact i4
        · rw [if_neg (by omega), if_neg (by omega), if_neg (by omega), if_neg (by omega)]; exact i5
        · rw [if_neg (by omega), if_neg (by omega), if_neg (by omega), if_neg (by omega)]; exact i6
        · rw [if_neg (by omega), if_neg (by omega), if_neg (by omega), if_neg (by omega)]; exact i7
  · rintro ih z1 M1 f1 h1 ⟨e1, j1, i1⟩
    show gx (bX10_leads_2 N ih m (nI 16) G z1) _
    unfold bX10_leads_2
    refine gx_itet le16 ?_
    unfold qX10_leads_156
    refine gx_rows (fun i M' => (∀ k, k ≠ 3 → k ≠ 39 → k ≠ 40 → M' k = M k) ∧ (∀ j, j < 85 ∨ 101 ≤ j → M' 3 j = M1 3 j) ∧ (∀ a, a < 16 → X a = true → ix S a < i → M' 39 (gof S a) = S 6 a ∧ M' 40 (gof S a) = S 7 a ∧ M' 3 (85 + gof S a) = (if dm C S a = true then nI a else -1)) ∧ ∀ b, b < 16 → (∀ a, a < 16 → X a = true → ix S a < i → ¬ gof S a = b) → M' 39 b = M1 39 b ∧ M' 40 b = M1 40 b) (fb_ct (mv S) 16) (fun i => (m, nI i)) h1 ⟨e1, fun _ _ => rfl, fun a _ _ h => by omega, fun _ _ _ => ⟨rfl, rfl⟩⟩ ?_ ?_ N (by omega)
    · rintro ih i z2 M2 hi f2 h2 ⟨e2, j2, i2, o2⟩ k
      have c2 : cpS C S M2 n := cpS_ext hc (e2 1 (by omega) (by omega) (by omega)) (fun j hj => by rw [j2 j (by omega)]; exact j1 j (by omega))
      have t2 : mvT C S M2 := mvT_keep ht (fun k h1 h2 => e2 k (by omega) (by omega) (by omega))
      obtain ⟨a, ha, hma, rfl⟩ := ix_of hi
      obtain ⟨m1, m2, m3⟩ := t2.1.2.2 a ha hma
      have hg := (mv_g hc.o ha hma).2
      have hx : bt (M2 28 0) (ix S a) = X a := by rw [e2 28 (by omega) (by omega) (by omega), ← hX, oX_in ha, hma, Bool.true_and]
      show gx (bX10_leads_156 N ih m (nI (ix S a)) G z2) _
      have lt_of : ∀ c, c < 16 → X c = true → ix S c < ix S a + 1 → ¬ c = a → ix S c < ix S a := fun c hc2 hxc hl hne => by
        have : ¬ ix S c = ix S a := fun q => hne ((ix_inj (hXm c hxc).2.1 hma).mp q)
        omega
      refine q_bX10_leads_156 (g := gof S a) (b := a) h2 hA t2.1.1 h12 hi m2 hg m1 ha (fun q => ?_) (fun q z3 f3 h3 => ?_)
      · rw [nI_1]
        rw [hx] at q
        refine k z2 M2 osFr.rf h2 ⟨e2, j2, fun c hc2 hxc hl => i2 c hc2 hxc (lt_of c hc2 hxc hl (fun e => by rw [e, q] at hxc; cases hxc)), fun b hb h => o2 b hb (fun c hc2 hxc hl => h c hc2 hxc (by omega))⟩
      · rw [nI_1]
        rw [hx] at q
        have hu2 := mv_uu hma
        refine k z3 _ f3 h3 ⟨fun k h3 h4 h5 => ?_, fun j hj => ?_, fun c hc2 hxc hl => ?_, fun b hb h => ?_⟩
        · unfold rLe
          rw [cset_ne h3, cset_ne h5, cset_ne h4]; exact e2 k h3 h4 h5
        · show upd (M2 3) (85 + gof S a) _ j = _
          rw [upd_ne (by omega)]; exact j2 j hj
        · show upd (M2 39) (gof S a) _ (gof S c) = _ ∧ upd (M2 40) (gof S a) _ (gof S c) = _ ∧ upd (M2 3) (85 + gof S a) _ (85 + gof S c) = _
          by_cases e : c = a
          · subst e
            rw [upd_eq, upd_eq, upd_eq, c2.p ha, c2.kd ha hu2, m3, m1]
            refine ⟨rfl, rfl, ?_⟩
            cases dm C S c <;> rfl
          · have hne : ¬ gof S c = gof S a := fun q2 => e (hu c a hc2 ha hxc q q2)
            rw [upd_ne hne, upd_ne hne, upd_ne (by omega)]
            exact i2 c hc2 hxc (lt_of c hc2 hxc hl e)
        · show upd (M2 39) (gof S a) _ b = _ ∧ upd (M2 40) (gof S a) _ b = _
          have hne : ¬ b = gof S a := fun q2 => h a ha q (by omega) q2.symm
          rw [upd_ne hne, upd_ne hne]
          exact o2 b hb (fun c hc2 hxc hl => h c hc2 hxc (by omega))
    · rintro ih z2 M2 f2 h2 ⟨e2, j2, i2, o2⟩
      have t2 : mvT C S M2 := mvT_keep ht (fun k h1 h2 => e2 k (by omega) (by omega) (by omega))
      show gx (bX10_leads_156 N ih m (nI (fb_ct (mv S) 16)) G z2) _
      unfold bX10_leads_156
      refine gx_gI h2.o (by decide) rfl (gx_itet (by rw [t2.1.1]; exact (nI_leI (by show fb_ct (mv S) 16 < _; omega) (by omega)).mpr (Nat.le_refl _)) ?_)
      unfold qX10_leads_269
      refine gx_rows (fun i M' => (∀ k, k ≠ 3 → M' k = M2 k) ∧ (∀ j, j < 21 ∨ 53 ≤ j → M' 3 j = M2 3 j) ∧ ∀ b, b < i → M' 3 (21 + b) = M2 39 b ∧ M' 3 (37 + b) = M2 40 b) 16 (fun i => (m, nI i)) h2 ⟨fun _ _ => rfl, fun _ _ => rfl, fun b hb => by omega⟩ ?_ ?_ N (by omega)
      · rintro ih a z3 M3 ha f3 h3 ⟨e3, j3, i3⟩ k
        show gx (bX10_leads_269 N ih m (nI a) G z3) _
        refine q_bX10_leads_269 h3 hA ha (fun z4 f4 h4 => ?_)
        rw [nI_1]
        refine k z4 _ f4 h4 ⟨fun k hk => by rw [cset_ne hk]; exact e3 k hk, fun j hj => ?_, fun b hb => ?_⟩
        · show upd (upd (M3 3) (21 + a) (M3 39 a)) (37 + a) (M3 40 a) j = _
          rw [upd_ne (by omega), upd_ne (by omega)]; exact j3 j hj
        · show upd (upd (M3 3) (21 + a) (M3 39 a)) (37 + a) (M3 40 a) (21 + b) = _ ∧ upd (upd (M3 3) (21 + a) (M3 39 a)) (37 + a) (M3 40 a) (37 + b) = _
          by_cases e : b = a
          · subst e
            rw [upd_eq, upd_ne (by omega), upd_eq, e3 39 (by omega), e3 40 (by omega)]
            exact ⟨rfl, rfl⟩
          · rw [upd_ne (show ¬ 21 + b = 37 + a by omega), upd_ne (show ¬ 21 + b = 21 + a by omega), upd_ne (show ¬ 37 + b = 37 + a by omega), upd_ne (show ¬ 37 + b = 21 + a by omega)]
            exact i3 b (by omega)
      · rintro ih z3 M3 f3 h3 ⟨e3, j3, i3⟩
        show gx (bX10_leads_269 N ih m (nI 16) G z3) _
        unfold bX10_leads_269
        have key : ∀ b, b < 16 → (∀ a, a < 16 → X a = true → ¬ gof S a = b) → M2 39 b = (if sty S X b = true then S 6 b else -1) ∧ M2 40 b = M 3 (37 + b) := fun b hb h => by
          have := o2 b hb (fun a ha hxa _ => h a ha hxa)
          rw [this.1, this.2]
          exact ⟨(i1 b hb).1, (i1 b hb).2.1⟩
        have lt : ∀ a, a < 16 → X a = true → ix S a < fb_ct (mv S) 16 := fun a ha h => ix_lt ha (hXm a h).2.1
        refine gx_itet le16 (gx_ret ⟨(f1.tr f2).tr f3, M3, h3, fun k h3 h4 h5 => (e3 k h3).trans (e2 k h3 h4 h5), ?_, ⟨?_, ?_, ?_⟩, ?_, ?_, ?_, ?_, ?_, ?_⟩)
        · intro j hj
          rw [j3 j (by omega), j2 j (by omega)]; exact j1 j (by omega)
        · intro a ha hxa
          have hg := (mv_g hc.o ha (hXm a hxa).2.1).2
          show M3 3 (21 + gof S a) = _
          rw [(i3 _ hg).1, (i2 a ha hxa (lt a ha hxa)).1]
        · intro b hb hs
          show M3 3 (21 + b) = _
          rw [(i3 b hb).1, (key b hb (fun a ha hxa => sty_no hs ha hxa)).1, hs]; rfl
        · intro b hb h hs
          show M3 3 (21 + b) = _
          rw [(i3 b hb).1, (key b hb h).1, hs]; rfl
        · intro a ha hxa
          have hg := (mv_g hc.o ha (hXm a hxa).2.1).2
          rw [(i3 _ hg).2, (i2 a ha hxa (lt a ha hxa)).2.1]
        · intro b hb hs
          rw [(i3 b hb).2, (key b hb (fun a ha hxa => sty_no hs ha hxa)).2, hc.kd hb (by unfold sty at hs; rw [Bool.and_eq_true] at hs; exact hs.1)]
        · intro b hb
          rw [j3 _ (by omega), j2 _ (by omega)]; exact (i1 b hb).2.2.1
        · intro b hb
          rw [j3 _ (by omega), j2 _ (by omega)]; exact (i1 b hb).2.2.2.1
        · intro b hb
          rw [j3 _ (by omega), j2 _ (by omega)]; exact (i1 b hb).2.2.2.2.2
        · intro a ha hxa
          have hg := (mv_g hc.o ha (hXm a hxa).2.1).2
          rw [j3 _ (by omega)]; exact (i2 a ha hxa (lt a ha hxa)).2.2
def rCo (M : Nat → Nat → Int32) (i : Nat) : Bool := bt (M 30 0) i && (!bt (M 28 0) i && decide (M 3 (21 + tn (M 22 i)) = -1))
theorem q_bX10_contestedNow_4 {G : osG} {z : osS} {N m i mm g : Nat} {c : Int32} {M : Nat → Nat → Int32} {D : Nat → Nat → Int64} {Q : Int32 → osS → Prop} {ih : Nat × Int32 × Int32 → osM Int32} (hm : rX10 z m M D) (hn : M 26 0 = nI mm) (h12 : mm ≤ 12) (h9 : i < mm) (h22 : M 22 i = nI g) (e22 : tn (M 22 i) = g) (hg : g < 16) (k : ∀ g1, g1 = (if rCo M i = true then c ||| osshl (1 : Int32) (M 22 i) else c) → gx (ih (m, g1, nI i + 1) G z) Q) : gx (bX10_contestedNow_4 N ih m c (nI i) G z) Q := by
  unfold bX10_contestedNow_4
  (repeat (first | unfold qX10_contestedNow_54 | unfold qX10_contestedNow_55 | unfold qX10_contestedNow_74))
  exact gx_gI hm.o (by decide) rfl (gx_itef (nI_nleE (a := mm) (b := i) hn rfl h9 (by omega)) (gx_gI hm.o (by decide) rfl (gx_callE (q_X10_has (by omega) rfl) (gx_iteB (fun (c_1 : (bt ((M 30 0)) i) = false) => gx_itet (by decide) (k _ (by have e9 : rCo M i = false := (by unfold rCo; rw [e22]; simp [c_1]); rw [e9]; rfl))) (fun (c_1 : (bt ((M 30 0)) i) = true) => gx_gI hm.o (by decide) rfl (gx_callE (q_X10_has (by omega) rfl) (gx_iteB (fun (c_2 : (bt ((M 28 0)) i) = false) => gx_gR hm.o (by decide) rfl (gx_gR hm.o (by decide) rfl (gx_aE hm.a22 (rfl) (by omega) (Nat.le_of_ble_eq_true rfl) (gx_callE (q_X10_isUnit hm.a3 (by omega) h22) (gx_iteDn (fun (c_3 : M 3 (21 + g) = -1) => gx_itef (by decide) (gx_gR hm.o (by decide) rfl (gx_aE hm.a22 (rfl) (by omega) (Nat.le_of_ble_eq_true rfl) (k _ (by have e9 : rCo M i = true := (by unfold rCo; rw [e22]; simp [c_1, c_2, c_3]); rw [e9]; rfl))))) (fun (c_3 : ¬ (M 3 (21 + g) = -1)) => gx_itet (by decide) (k _ (by have e9 : rCo M i = false := (by unfold rCo; rw [e22]; simp [c_1, c_2, c_3]); rw [e9]; rfl)))))))) (fun (c_2 : (bt ((M 28 0)) i) = true) => gx_itet (by decide) (k _ (by have e9 : rCo M i = false := (by unfold rCo; rw [e22]; simp [c_1, c_2]); rw [e9]; rfl))))))))))
theorem q_X10_contestedNow {G : osG} {z : osS} {N m n : Nat} {C S M : Nat → Nat → Int32} {D : Nat → Nat → Int64} {X : Nat → Bool} {sea : Bool} {f : Nat → Int32} (hm : rX10 z m M D) (ho : okO S) (h12 : fb_ct (mv S) 16 ≤ 12) (ht : mvT C S M) (h30 : ∀ a, a < 16 → mv S a = true → bt (M 30 0) (ix S a) = pth C S sea X a) (hX : oX S (M 28 0) = X) (hf : ∀ b, b < 16 → M 3 (21 + b) = f b) (hN : 20 < N) : gx (qX10_contestedNow N m G z) (fun v z' => z' = z ∧ ∀ j, j < 32 → bt v j = (decide (j < 16) && (exn (fun a => mv S a && (pth C S sea X a && (!X a && decide (gof S a = j)))) 16 && decide (f j = -1)))) := by
  unfold qX10_contestedNow qX10_contestedNow_4
  refine gx_loop (fb_ct (mv S) 16) (fun i p z' => z' = z ∧ p = (m, osit (fun i g => if rCo M i = true then g ||| osshl (1 : Int32) (M 22 i) else g) 0 i 0, nI i)) ?_ ?_ N 0 _ z (Nat.zero_le _) (by omega) ⟨rfl, rfl⟩
  · rintro ih i p z' hi ⟨rfl, rfl⟩ k
    obtain ⟨a, ha, hma, rfl⟩ := ix_of hi
    have m2 := (ht.1.2.2 a ha hma).2.1
    have hg := (mv_g ho ha hma).2
    show gx (bX10_contestedNow_4 N ih m _ (nI (ix S a)) G z') _
    refine q_bX10_contestedNow_4 (g := gof S a) hm ht.1.1 h12 hi m2 (by rw [m2]; exact nI_clamp (by omega)) hg (fun g1 e => ?_)
    rw [nI_1]
    exact k _ _ ⟨rfl, by rw [e, osit_last, Nat.zero_add]⟩
  · rintro ih p z' ⟨rfl, rfl⟩
    show gx (bX10_contestedNow_4 N ih m _ (nI (fb_ct (mv S) 16)) G z') _
    unfold bX10_contestedNow_4
    refine gx_gI hm.o (by decide) rfl (gx_itet (by rw [ht.1.1]; exact (nI_leI (by show fb_ct (mv S) 16 < _; omega) (by omega)).mpr (Nat.le_refl _)) (gx_ret ⟨rfl, fun j hj => ?_⟩))
    have e := bt_gath (P := rCo M) (f := fun i => osshl (1 : Int32) (M 22 i)) (g0 := 0) (i := j) (n := fb_ct (mv S) 16)
    rw [b_0, Bool.false_or] at e
    refine Eq.trans e ?_
    rw [exn_ix]
    by_cases h16 : j < 16
    · rw [decide_eq_true h16, Bool.true_and]
      have : exn (fun a => mv S a && (rCo M (ix S a) && bt (osshl (1 : Int32) (M 22 (ix S a))) j)) 16 = exn (fun a => (mv S a && (pth C S sea X a && (!X a && decide (gof S a = j)))) && decide (f j = -1)) 16 := exn_cong (fun a ha => by
        cases hma : mv S a
        · rfl
        · have hg := (mv_g ho ha hma).2
          have m2 := (ht.1.2.2 a ha hma).2.1
          have hx : bt (M 28 0) (ix S a) = X a := by rw [← hX, oX_in ha, hma, Bool.true_and]
          unfold rCo
          rw [m2, show tn (nI (gof S a)) = gof S a from nI_clamp (by omega), h30 a ha hma, hx]
          show (_ && bt (sg (gof S a)) j) = _
          rw [b_sg (by omega) hj]
          by_cases q : j = gof S a
          · subst q
            rw [hf _ hg]
            simp [Bool.and_assoc]
          · rw [decide_eq_false q, decide_eq_false (fun x : gof S a = j => q x.symm)]; simp)
      rw [this]
      cases hz : decide (f j = -1)
      · rw [Bool.and_false]
        exact exn_no.mpr (fun a _ => by simp)
      · rw [Bool.and_true]
        exact exn_cong (fun a _ => by simp)
    · rw [decide_eq_false h16, Bool.false_and]
      refine exn_no.mpr (fun a ha => ?_)
      cases hma : mv S a
      · rfl
      · have hg := (mv_g ho ha hma).2
        rw [(ht.1.2.2 a ha hma).2.1]
        show (true && (rCo M (ix S a) && bt (sg (gof S a)) j)) = false
        rw [b_sg (by omega) hj, decide_eq_false (by omega)]; simp
